set_option maxHeartbeats 4000000 in
set_option maxRecDepth 100000 in
theorem c_G_has (l : Launch) (dC : Nat → ClassId) (dI : Nat → Nat → Nat) (cI cZ cL : ClassId) (q : Nat → Nat) (ph : Nat → Nat) (pa : Nat → Nat) (ch : Nat → Nat) (en : Nat → Bool) (sz : Nat) (pr : Nat) (gc : Nat → Int32) (gb : Nat → Int32) (sc : Nat → Int32) (sh : Nat → Int32) (sl : Nat → Int32) (ct : Nat) (tok : Nat → Int64) (wt : Nat → Int64) (pn : Nat → Nat) (lt : Nat → Int64) (wp : Int64) (sd : Bool) (ia : Nat) (ib : Nat) (ic : Nat) (uu : Int32) (vv : Int32) (ww : Int32) (hu : uu + nI 1 = nI ia) (hv : vv + nI 1 = nI ib) (hw : ww + nI 1 = nI ic) (ha : ia < 6) (hb6 : ib < 6) (hc6 : ic < 6) : Met l yG_has (Cond.code yG_has cG_has 4 (some .boolean) :: tb) ({ frames := 1, cells := 0, slots := 0, locals := 22 }) (va_Pc [.ref (q 6), .int uu, .int vv, .int ww] (wt_ro (dC, dI) vwCl [(cI, .int), (cZ, .boolean), (cL, .long)] (wX cI cZ cL q ph pa ch en sz pr gc gb sc sh sl ct tok wt pn lt wp sd))) (vp_Si (fun r => r = (wt_bI (decide (¬ gc (wt_sl ia ib ic) = -1))))) 0 0 (fun _ => False) := by
  refine Met.ofW (cc := cG_has) (maxL := 4) (ret := (some .boolean)) (by decide) rfl ?_
  intro p e s m args below meth c s₁ B hml hv
  obtain ⟨rfl, hP, hK, hN⟩ := hv
  have hx := B.exec
  have hb := B.bytes
  have hr := B.returns
  have hts := atoms_spec (ws := (Cond.code yG_has cG_has 4 (some .boolean) :: tb)) B.pre
  have ht : ∀ w ∈ tb, w.before _ s = true := fun w h => hts w (List.mem_cons_of_mem _ h)
  have hown : s.vm.findClass RG = some m.cls := findClass_of_methodNamed B.named
  have hlocks := B.notSynchronized
  have hl := lv_entry ([.ref (q 6), .int uu, .int vv, .int ww]) (n := 4) (Nat.le_of_ble_eq_true rfl)
  rw [lg_entry_eq]
  generalize (lg_sl ([.ref (q 6), .int uu, .int vv, .int ww]) ++ List.replicate (4 - (lg_sl ([.ref (q 6), .int uu, .int vv, .int ww])).length) Slot.unset).toArray = ls at hl ⊢
  have hl : lv_has ls 4 [(0, .ref (q 6)), (1, .int uu), (2, .int vv), (3, .int ww)] := hl
  refine lv_aload_n hx hb dG_has_0 rfl (lv_at hl 0 rfl) ?_
  refine va_get (D := (dC, dI)) (ci := 2) (v := .ref (q 7)) (C := RG) (T := TG) (N := 2) hx hb ht inG hown hK hP 6 rfl rfl 0 (by decide) (ht _ m_54) (fun _ h9 => h9) rfl dG_has_1 ?_
  refine lv_iload_n hx hb dG_has_4 rfl (lv_at hl 1 rfl) ?_
  refine lv_iload_n hx hb dG_has_5 rfl (lv_at hl 2 rfl) ?_
  refine lv_iload_n hx hb dG_has_6 rfl (lv_at hl 3 rfl) ?_
  refine wt_roi (va_runS (As := [.int uu, .int vv, .int ww]) (rest := [.ref (q 7)]) ⟨hx, hb, hml, hown, ht⟩ (c_G_slot l dC dI cI cZ cL ia ib ic uu vv ww hu hv hw) (va_cwS 3 ht (good_S m_188 m_189 m_3 m_190) rfl rfl rfl (by decide +kernel) ⟨Nat.le_of_ble_eq_true rfl, Nat.le_of_ble_eq_true rfl⟩) (wt_preS hK hN (hP.sub [] rfl)) rfl rfl hl.1 rfl (lv_room (Nat.le_of_ble_eq_true rfl)) dG_has_7 ⟨Nat.le_of_ble_eq_true rfl, Nat.le_of_ble_eq_true rfl⟩) ?_
  refine wt_iald hx hb hK hP 7 0 rfl rfl (k := wt_sl ia ib ic) (wt_sl_lt (by omega) (by omega) (by omega)) (by decide) dG_has_10 ?_
  refine lv_iconst (v := (-1)) hx hb dG_has_11 (by decide) ?_
  refine lv_icmp_eq (tgt := 19) hx hb dG_has_12 (by decide) (fun c_1 => ?_) (fun c_1 => ?_)
  · skip
    refine lv_iconst (v := nI 0) hx hb dG_has_19 (by decide) ?_
    exact W.zret (v := nI 0) hx hb hr rfl (fun t ht hW => ⟨_, rfl, (by first | (rw [decide_eq_true (p := ¬ gc (wt_sl ia ib ic) = -1) c_1]; rfl) | (rw [decide_eq_false (p := ¬ gc (wt_sl ia ib ic) = -1) (fun q => q c_1)]; rfl)), ht⟩) (fun q h => by cases h) dG_has_20
  · skip
    refine lv_iconst (v := nI 1) hx hb dG_has_15 (by decide) ?_
    refine lv_goto (tgt := 20) hx hb dG_has_16 (by decide) ?_
    exact W.zret (v := nI 1) hx hb hr rfl (fun t ht hW => ⟨_, rfl, (by first | (rw [decide_eq_true (p := ¬ gc (wt_sl ia ib ic) = -1) c_1]; rfl) | (rw [decide_eq_false (p := ¬ gc (wt_sl ia ib ic) = -1) (fun q => q c_1)]; rfl)), ht⟩) (fun q h => by cases h) dG_has_20

set_option maxHeartbeats 4000000 in
set_option maxRecDepth 100000 in
theorem c_G_put (l : Launch) (dC : Nat → ClassId) (dI : Nat → Nat → Nat) (cI cZ cL : ClassId) (q : Nat → Nat) (sz0 : Nat) (ph : Nat → Nat) (pa : Nat → Nat) (ch : Nat → Nat) (en : Nat → Bool) (sz : Nat) (pr : Nat) (gc : Nat → Int32) (gb : Nat → Int32) (sc : Nat → Int32) (sh : Nat → Int32) (sl : Nat → Int32) (ct : Nat) (tok : Nat → Int64) (wt : Nat → Int64) (pn : Nat → Nat) (lt : Nat → Int64) (wp : Int64) (sd : Bool) (ia : Nat) (ib : Nat) (ic : Nat) (uu : Int32) (vv : Int32) (ww : Int32) (co : Int32) (bo : Int32) (hu : uu + nI 1 = nI ia) (hv : vv + nI 1 = nI ib) (hw : ww + nI 1 = nI ic) (ha : ia < 6) (hb6 : ib < 6) (hc6 : ic < 6) : Met l yG_put (Cond.code yG_put cG_put 6 none :: tb) ({ frames := 1, cells := 0, slots := 0, locals := 22 }) (va_Pc [.ref (q 6), .int uu, .int vv, .int ww, .int co, .int bo] (wt_rw (dC, dI) vwCl [(cI, .int), (cZ, .boolean), (cL, .long)] (wX cI cZ cL q ph pa ch en sz pr gc gb sc sh sl ct tok wt pn lt wp sd) sz0)) (va_Qv (fun _ : Unit => True) (wt_B (dC, dI) vwCl (va_A (wX cI cZ cL q ph pa ch en sz pr gc gb sc sh sl ct tok wt pn lt wp sd) sz0) (wX cI cZ cL q ph pa ch en sz pr (upd gc (wt_sl ia ib ic) co) (upd gb (wt_sl ia ib ic) bo) sc sh sl ct tok wt pn lt wp sd)) (va_A (wX cI cZ cL q ph pa ch en sz pr gc gb sc sh sl ct tok wt pn lt wp sd) sz0)) 0 0 (va_A (wX cI cZ cL q ph pa ch en sz pr gc gb sc sh sl ct tok wt pn lt wp sd) sz0) := by
  refine Met.ofW (cc := cG_put) (maxL := 6) (ret := none) (by decide) rfl ?_
  intro p e s m args below meth c s₁ B hml hv
  obtain ⟨rfl, hsz, hP, hK, hN, hD0⟩ := hv
  have hx := B.exec
  have hb := B.bytes
  have hr := B.returns
  have hts := atoms_spec (ws := (Cond.code yG_put cG_put 6 none :: tb)) B.pre
  have ht : ∀ w ∈ tb, w.before _ s = true := fun w h => hts w (List.mem_cons_of_mem _ h)
  have hown : s.vm.findClass RG = some m.cls := findClass_of_methodNamed B.named
  have hlocks := B.notSynchronized
  subst hsz
  have hD := hD0.self (sz := s.heap.size)
  generalize hAe : va_A (wX cI cZ cL q ph pa ch en sz pr gc gb sc sh sl ct tok wt pn lt wp sd) s.heap.size = A at hD ⊢
  have hA : ∀ q : Nat, s.heap.size ≤ q → A q := fun q h => by rw [← hAe]; exact Or.inr h
  clear hAe hD0
  have hS : va_S A s.heap s.heap [] := va_S.rf
  have hl := lv_entry ([.ref (q 6), .int uu, .int vv, .int ww, .int co, .int bo]) (n := 6) (Nat.le_of_ble_eq_true rfl)
  rw [lg_entry_eq]
  generalize (lg_sl ([.ref (q 6), .int uu, .int vv, .int ww, .int co, .int bo]) ++ List.replicate (6 - (lg_sl ([.ref (q 6), .int uu, .int vv, .int ww, .int co, .int bo])).length) Slot.unset).toArray = ls at hl ⊢
  have hl : lv_has ls 6 [(0, .ref (q 6)), (1, .int uu), (2, .int vv), (3, .int ww), (4, .int co), (5, .int bo)] := hl
  refine lv_aload_n hx hb dG_put_0 rfl (lv_at hl 0 rfl) ?_
  refine va_get (D := (dC, dI)) (ci := 2) (v := .ref (q 7)) (C := RG) (T := TG) (N := 2) hx hb ht inG hown hK hP 6 rfl rfl 0 (by decide) (ht _ m_54) (fun _ h9 => h9) rfl dG_put_1 ?_
  refine lv_iload_n hx hb dG_put_4 rfl (lv_at hl 1 rfl) ?_
  refine lv_iload_n hx hb dG_put_5 rfl (lv_at hl 2 rfl) ?_
  refine lv_iload_n hx hb dG_put_6 rfl (lv_at hl 3 rfl) ?_
  refine wt_roi (va_runS (As := [.int uu, .int vv, .int ww]) (rest := [.ref (q 7)]) ⟨hx, hb, hml, hown, ht⟩ (c_G_slot l dC dI cI cZ cL ia ib ic uu vv ww hu hv hw) (va_cwS 3 ht (good_S m_188 m_189 m_3 m_190) rfl rfl rfl (by decide +kernel) ⟨Nat.le_of_ble_eq_true rfl, Nat.le_of_ble_eq_true rfl⟩) (wt_preS hK hN (hP.sub [] rfl)) rfl rfl hl.1 rfl (lv_room (Nat.le_of_ble_eq_true rfl)) dG_put_7 ⟨Nat.le_of_ble_eq_true rfl, Nat.le_of_ble_eq_true rfl⟩) ?_
  refine lv_iload hx hb dG_put_10 (lv_at hl 4 rfl) ?_
  refine wt_iast hx hb hK hP hD hS 7 0 rfl rfl (k := wt_sl ia ib ic) (wt_sl_lt (by omega) (by omega) (by omega)) (by decide) dG_put_12 (fun H locs hP hD hS => ?_)
  have hP : va_P (dC, dI) vwCl (wX cI cZ cL q ph pa ch en sz pr (upd gc (wt_sl ia ib ic) co) gb sc sh sl ct tok wt pn lt wp sd) H := hP
  have hD : va_D A (wX cI cZ cL q ph pa ch en sz pr (upd gc (wt_sl ia ib ic) co) gb sc sh sl ct tok wt pn lt wp sd) := hD
  refine lv_aload_n hx hb dG_put_13 rfl (lv_at hl 0 rfl) ?_
  refine va_get (D := (dC, dI)) (ci := 2) (v := .ref (q 8)) (C := RG) (T := TG) (N := 2) hx hb ht inG hown hK hP 6 rfl rfl 1 (by decide) (ht _ m_55) (fun _ h9 => h9) rfl dG_put_14 ?_
  refine lv_iload_n hx hb dG_put_17 rfl (lv_at hl 1 rfl) ?_
  refine lv_iload_n hx hb dG_put_18 rfl (lv_at hl 2 rfl) ?_
  refine lv_iload_n hx hb dG_put_19 rfl (lv_at hl 3 rfl) ?_
  refine wt_roi (va_runS (As := [.int uu, .int vv, .int ww]) (rest := [.ref (q 8)]) ⟨hx, hb, hml, hown, ht⟩ (c_G_slot l dC dI cI cZ cL ia ib ic uu vv ww hu hv hw) (va_cwS 3 ht (good_S m_188 m_189 m_3 m_190) rfl rfl rfl (by decide +kernel) ⟨Nat.le_of_ble_eq_true rfl, Nat.le_of_ble_eq_true rfl⟩) (wt_preS hK hN (hP.sub [] rfl)) rfl rfl hl.1 rfl (lv_room (Nat.le_of_ble_eq_true rfl)) dG_put_20 ⟨Nat.le_of_ble_eq_true rfl, Nat.le_of_ble_eq_true rfl⟩) ?_
  refine lv_iload hx hb dG_put_23 (lv_at hl 5 rfl) ?_
  refine wt_iast hx hb hK hP hD hS 8 0 rfl rfl (k := wt_sl ia ib ic) (wt_sl_lt (by omega) (by omega) (by omega)) (by decide) dG_put_25 (fun H locs hP hD hS => ?_)
  have hP : va_P (dC, dI) vwCl (wX cI cZ cL q ph pa ch en sz pr (upd gc (wt_sl ia ib ic) co) (upd gb (wt_sl ia ib ic) bo) sc sh sl ct tok wt pn lt wp sd) H := hP
  have hD : va_D A (wX cI cZ cL q ph pa ch en sz pr (upd gc (wt_sl ia ib ic) co) (upd gb (wt_sl ia ib ic) bo) sc sh sl ct tok wt pn lt wp sd) := hD
  have hP9 : va_P (dC, dI) vwCl (wX cI cZ cL q ph pa ch en sz pr (upd gc (wt_sl ia ib ic) co) (upd gb (wt_sl ia ib ic) bo) sc sh sl ct tok wt pn lt wp sd) H := by exact hP
  have hD9 : va_D A (wX cI cZ cL q ph pa ch en sz pr (upd gc (wt_sl ia ib ic) co) (upd gb (wt_sl ia ib ic) bo) sc sh sl ct tok wt pn lt wp sd) := by exact hD
  exact W.vret hx hb hr (fun t ht hW => ⟨⟨(), rfl, trivial, by rw [ht]; exact hP9, hD9⟩, hS.F ht⟩) hS.2.2 dG_put_26

set_option maxHeartbeats 4000000 in
set_option maxRecDepth 100000 in
theorem c_G_remove (l : Launch) (dC : Nat → ClassId) (dI : Nat → Nat → Nat) (cI cZ cL : ClassId) (q : Nat → Nat) (sz0 : Nat) (ph : Nat → Nat) (pa : Nat → Nat) (ch : Nat → Nat) (en : Nat → Bool) (sz : Nat) (pr : Nat) (gc : Nat → Int32) (gb : Nat → Int32) (sc : Nat → Int32) (sh : Nat → Int32) (sl : Nat → Int32) (ct : Nat) (tok : Nat → Int64) (wt : Nat → Int64) (pn : Nat → Nat) (lt : Nat → Int64) (wp : Int64) (sd : Bool) (ia : Nat) (ib : Nat) (ic : Nat) (uu : Int32) (vv : Int32) (ww : Int32) (hu : uu + nI 1 = nI ia) (hv : vv + nI 1 = nI ib) (hw : ww + nI 1 = nI ic) (ha : ia < 6) (hb6 : ib < 6) (hc6 : ic < 6) : Met l yG_remove (Cond.code yG_remove cG_remove 4 none :: tb) ({ frames := 1, cells := 0, slots := 0, locals := 22 }) (va_Pc [.ref (q 6), .int uu, .int vv, .int ww] (wt_rw (dC, dI) vwCl [(cI, .int), (cZ, .boolean), (cL, .long)] (wX cI cZ cL q ph pa ch en sz pr gc gb sc sh sl ct tok wt pn lt wp sd) sz0)) (va_Qv (fun _ : Unit => True) (wt_B (dC, dI) vwCl (va_A (wX cI cZ cL q ph pa ch en sz pr gc gb sc sh sl ct tok wt pn lt wp sd) sz0) (wX cI cZ cL q ph pa ch en sz pr (upd gc (wt_sl ia ib ic) (-1)) (upd gb (wt_sl ia ib ic) (nI 0)) sc sh sl ct tok wt pn lt wp sd)) (va_A (wX cI cZ cL q ph pa ch en sz pr gc gb sc sh sl ct tok wt pn lt wp sd) sz0)) 0 0 (va_A (wX cI cZ cL q ph pa ch en sz pr gc gb sc sh sl ct tok wt pn lt wp sd) sz0) := by
  refine Met.ofW (cc := cG_remove) (maxL := 4) (ret := none) (by decide) rfl ?_
  intro p e s m args below meth c s₁ B hml hv
  obtain ⟨rfl, hsz, hP, hK, hN, hD0⟩ := hv
  have hx := B.exec
  have hb := B.bytes
  have hr := B.returns
  have hts := atoms_spec (ws := (Cond.code yG_remove cG_remove 4 none :: tb)) B.pre
  have ht : ∀ w ∈ tb, w.before _ s = true := fun w h => hts w (List.mem_cons_of_mem _ h)
  have hown : s.vm.findClass RG = some m.cls := findClass_of_methodNamed B.named
  have hlocks := B.notSynchronized
  subst hsz
  have hD := hD0.self (sz := s.heap.size)
  generalize hAe : va_A (wX cI cZ cL q ph pa ch en sz pr gc gb sc sh sl ct tok wt pn lt wp sd) s.heap.size = A at hD ⊢
  have hA : ∀ q : Nat, s.heap.size ≤ q → A q := fun q h => by rw [← hAe]; exact Or.inr h
  clear hAe hD0
  have hS : va_S A s.heap s.heap [] := va_S.rf
  have hl := lv_entry ([.ref (q 6), .int uu, .int vv, .int ww]) (n := 4) (Nat.le_of_ble_eq_true rfl)
  rw [lg_entry_eq]
  generalize (lg_sl ([.ref (q 6), .int uu, .int vv, .int ww]) ++ List.replicate (4 - (lg_sl ([.ref (q 6), .int uu, .int vv, .int ww])).length) Slot.unset).toArray = ls at hl ⊢
  have hl : lv_has ls 4 [(0, .ref (q 6)), (1, .int uu), (2, .int vv), (3, .int ww)] := hl
  refine lv_aload_n hx hb dG_remove_0 rfl (lv_at hl 0 rfl) ?_
  refine va_get (D := (dC, dI)) (ci := 2) (v := .ref (q 7)) (C := RG) (T := TG) (N := 2) hx hb ht inG hown hK hP 6 rfl rfl 0 (by decide) (ht _ m_54) (fun _ h9 => h9) rfl dG_remove_1 ?_
  refine lv_iload_n hx hb dG_remove_4 rfl (lv_at hl 1 rfl) ?_
  refine lv_iload_n hx hb dG_remove_5 rfl (lv_at hl 2 rfl) ?_
  refine lv_iload_n hx hb dG_remove_6 rfl (lv_at hl 3 rfl) ?_
  refine wt_roi (va_runS (As := [.int uu, .int vv, .int ww]) (rest := [.ref (q 7)]) ⟨hx, hb, hml, hown, ht⟩ (c_G_slot l dC dI cI cZ cL ia ib ic uu vv ww hu hv hw) (va_cwS 3 ht (good_S m_188 m_189 m_3 m_190) rfl rfl rfl (by decide +kernel) ⟨Nat.le_of_ble_eq_true rfl, Nat.le_of_ble_eq_true rfl⟩) (wt_preS hK hN (hP.sub [] rfl)) rfl rfl hl.1 rfl (lv_room (Nat.le_of_ble_eq_true rfl)) dG_remove_7 ⟨Nat.le_of_ble_eq_true rfl, Nat.le_of_ble_eq_true rfl⟩) ?_
  refine lv_iconst (v := (-1)) hx hb dG_remove_10 (by decide) ?_
  refine wt_iast hx hb hK hP hD hS 7 0 rfl rfl (k := wt_sl ia ib ic) (wt_sl_lt (by omega) (by omega) (by omega)) (by decide) dG_remove_11 (fun H locs hP hD hS => ?_)
  have hP : va_P (dC, dI) vwCl (wX cI cZ cL q ph pa ch en sz pr (upd gc (wt_sl ia ib ic) (-1)) gb sc sh sl ct tok wt pn lt wp sd) H := hP
  have hD : va_D A (wX cI cZ cL q ph pa ch en sz pr (upd gc (wt_sl ia ib ic) (-1)) gb sc sh sl ct tok wt pn lt wp sd) := hD
  refine lv_aload_n hx hb dG_remove_12 rfl (lv_at hl 0 rfl) ?_
  refine va_get (D := (dC, dI)) (ci := 2) (v := .ref (q 8)) (C := RG) (T := TG) (N := 2) hx hb ht inG hown hK hP 6 rfl rfl 1 (by decide) (ht _ m_55) (fun _ h9 => h9) rfl dG_remove_13 ?_
  refine lv_iload_n hx hb dG_remove_16 rfl (lv_at hl 1 rfl) ?_
  refine lv_iload_n hx hb dG_remove_17 rfl (lv_at hl 2 rfl) ?_
  refine lv_iload_n hx hb dG_remove_18 rfl (lv_at hl 3 rfl) ?_
  refine wt_roi (va_runS (As := [.int uu, .int vv, .int ww]) (rest := [.ref (q 8)]) ⟨hx, hb, hml, hown, ht⟩ (c_G_slot l dC dI cI cZ cL ia ib ic uu vv ww hu hv hw) (va_cwS 3 ht (good_S m_188 m_189 m_3 m_190) rfl rfl rfl (by decide +kernel) ⟨Nat.le_of_ble_eq_true rfl, Nat.le_of_ble_eq_true rfl⟩) (wt_preS hK hN (hP.sub [] rfl)) rfl rfl hl.1 rfl (lv_room (Nat.le_of_ble_eq_true rfl)) dG_remove_19 ⟨Nat.le_of_ble_eq_true rfl, Nat.le_of_ble_eq_true rfl⟩) ?_
  refine lv_iconst (v := nI 0) hx hb dG_remove_22 (by decide) ?_
  refine wt_iast hx hb hK hP hD hS 8 0 rfl rfl (k := wt_sl ia ib ic) (wt_sl_lt (by omega) (by omega) (by omega)) (by decide) dG_remove_23 (fun H locs hP hD hS => ?_)
  have hP : va_P (dC, dI) vwCl (wX cI cZ cL q ph pa ch en sz pr (upd gc (wt_sl ia ib ic) (-1)) (upd gb (wt_sl ia ib ic) (nI 0)) sc sh sl ct tok wt pn lt wp sd) H := hP
  have hD : va_D A (wX cI cZ cL q ph pa ch en sz pr (upd gc (wt_sl ia ib ic) (-1)) (upd gb (wt_sl ia ib ic) (nI 0)) sc sh sl ct tok wt pn lt wp sd) := hD
  have hP9 : va_P (dC, dI) vwCl (wX cI cZ cL q ph pa ch en sz pr (upd gc (wt_sl ia ib ic) (-1)) (upd gb (wt_sl ia ib ic) (nI 0)) sc sh sl ct tok wt pn lt wp sd) H := by exact hP
  have hD9 : va_D A (wX cI cZ cL q ph pa ch en sz pr (upd gc (wt_sl ia ib ic) (-1)) (upd gb (wt_sl ia ib ic) (nI 0)) sc sh sl ct tok wt pn lt wp sd) := by exact hD
  exact W.vret hx hb hr (fun t ht hW => ⟨⟨(), rfl, trivial, by rw [ht]; exact hP9, hD9⟩, hS.F ht⟩) hS.2.2 dG_remove_24

set_option maxHeartbeats 4000000 in
set_option maxRecDepth 100000 in
theorem c_G_costOfTwo (l : Launch) (dC : Nat → ClassId) (dI : Nat → Nat → Nat) (cI cZ cL : ClassId) (q : Nat → Nat) (ph : Nat → Nat) (pa : Nat → Nat) (ch : Nat → Nat) (en : Nat → Bool) (sz : Nat) (pr : Nat) (gc : Nat → Int32) (gb : Nat → Int32) (sc : Nat → Int32) (sh : Nat → Int32) (sl : Nat → Int32) (ct : Nat) (tok : Nat → Int64) (wt : Nat → Int64) (pn : Nat → Nat) (lt : Nat → Int64) (wp : Int64) (sd : Bool) (vv : Nat) (ww : Nat) (hvv : vv < 5) (hww : ww < 5) : Met l yG_costOfTwo (Cond.code yG_costOfTwo cG_costOfTwo 5 (some .int) :: tb) ({ frames := 1, cells := 0, slots := 0, locals := 22 }) (va_Pc [.ref (q 6), .int (nI vv), .int (nI ww)] (wt_ro (dC, dI) vwCl [(cI, .int), (cZ, .boolean), (cL, .long)] (wX cI cZ cL q ph pa ch en sz pr gc gb sc sh sl ct tok wt pn lt wp sd))) (vp_Si (fun r => r = (wt_two gc gb vv ww))) 0 0 (fun _ => False) := by
  refine Met.ofW (cc := cG_costOfTwo) (maxL := 5) (ret := (some .int)) (by decide) rfl ?_
  intro p e s m args below meth c s₁ B hml hv
  obtain ⟨rfl, hP, hK, hN⟩ := hv
  have hx := B.exec
  have hb := B.bytes
  have hr := B.returns
  have hts := atoms_spec (ws := (Cond.code yG_costOfTwo cG_costOfTwo 5 (some .int) :: tb)) B.pre
  have ht : ∀ w ∈ tb, w.before _ s = true := fun w h => hts w (List.mem_cons_of_mem _ h)
  have hown : s.vm.findClass RG = some m.cls := findClass_of_methodNamed B.named
  have hlocks := B.notSynchronized
  have hl := lv_entry ([.ref (q 6), .int (nI vv), .int (nI ww)]) (n := 5) (Nat.le_of_ble_eq_true rfl)
  rw [lg_entry_eq]
  generalize (lg_sl ([.ref (q 6), .int (nI vv), .int (nI ww)]) ++ List.replicate (5 - (lg_sl ([.ref (q 6), .int (nI vv), .int (nI ww)])).length) Slot.unset).toArray = ls at hl ⊢
  have hl : lv_has ls 5 [(0, .ref (q 6)), (1, .int (nI vv)), (2, .int (nI ww))] := hl
  refine lv_aload_n hx hb dG_costOfTwo_0 rfl (lv_at hl 0 rfl) ?_
  refine va_get (D := (dC, dI)) (ci := 2) (v := .ref (q 7)) (C := RG) (T := TG) (N := 2) hx hb ht inG hown hK hP 6 rfl rfl 0 (by decide) (ht _ m_54) (fun _ h9 => h9) rfl dG_costOfTwo_1 ?_
  refine lv_iconst (v := (-1)) hx hb dG_costOfTwo_4 (by decide) ?_
  refine lv_iload_n hx hb dG_costOfTwo_5 rfl (lv_at hl 1 rfl) ?_
  refine lv_iload_n hx hb dG_costOfTwo_6 rfl (lv_at hl 2 rfl) ?_
  refine wt_roi (va_runS (As := [.int (-1), .int (nI vv), .int (nI ww)]) (rest := [.ref (q 7)]) ⟨hx, hb, hml, hown, ht⟩ (c_G_slot l dC dI cI cZ cL 0 (vv + 1) (ww + 1) (-1) (nI vv) (nI ww) wt_m1a (wt_p1 vv) (wt_p1 ww)) (va_cwS 3 ht (good_S m_188 m_189 m_3 m_190) rfl rfl rfl (by decide +kernel) ⟨Nat.le_of_ble_eq_true rfl, Nat.le_of_ble_eq_true rfl⟩) (wt_preS hK hN (hP.sub [] rfl)) rfl rfl hl.1 rfl (lv_room (Nat.le_of_ble_eq_true rfl)) dG_costOfTwo_7 ⟨Nat.le_of_ble_eq_true rfl, Nat.le_of_ble_eq_true rfl⟩) ?_
  refine wt_iald hx hb hK hP 7 0 rfl rfl (k := wt_sl 0 (vv + 1) (ww + 1)) (wt_sl_lt (by omega) (by omega) (by omega)) (by decide) dG_costOfTwo_10 ?_
  refine lv_istore_n (lv' := [(3, .int (gc (wt_sl 0 (vv + 1) (ww + 1)))), (0, .ref (q 6)), (1, .int (nI vv)), (2, .int (nI ww))]) hx hb dG_costOfTwo_11 rfl hl (by decide) rfl (fun ls hl => ?_)
  refine lv_iload_n hx hb dG_costOfTwo_12 rfl (lv_at hl 0 rfl) ?_
  refine lv_iconst (v := (-1)) hx hb dG_costOfTwo_13 (by decide) ?_
  refine lv_icmp_eq (tgt := 19) hx hb dG_costOfTwo_14 (by decide) (fun c_1 => ?_) (fun c_1 => ?_)
  · skip
    refine lv_aload_n hx hb dG_costOfTwo_19 rfl (lv_at hl 1 rfl) ?_
    refine va_get (D := (dC, dI)) (ci := 2) (v := .ref (q 7)) (C := RG) (T := TG) (N := 2) hx hb ht inG hown hK hP 6 rfl rfl 0 (by decide) (ht _ m_54) (fun _ h9 => h9) rfl dG_costOfTwo_20 ?_
    refine lv_iconst (v := (-1)) hx hb dG_costOfTwo_23 (by decide) ?_
    refine lv_iconst (v := (-1)) hx hb dG_costOfTwo_24 (by decide) ?_
    refine lv_iload_n hx hb dG_costOfTwo_25 rfl (lv_at hl 3 rfl) ?_
    refine wt_roi (va_runS (As := [.int (-1), .int (-1), .int (nI ww)]) (rest := [.ref (q 7)]) ⟨hx, hb, hml, hown, ht⟩ (c_G_slot l dC dI cI cZ cL 0 0 (ww + 1) (-1) (-1) (nI ww) wt_m1a wt_m1a (wt_p1 ww)) (va_cwS 3 ht (good_S m_188 m_189 m_3 m_190) rfl rfl rfl (by decide +kernel) ⟨Nat.le_of_ble_eq_true rfl, Nat.le_of_ble_eq_true rfl⟩) (wt_preS hK hN (hP.sub [] rfl)) rfl rfl hl.1 rfl (lv_room (Nat.le_of_ble_eq_true rfl)) dG_costOfTwo_26 ⟨Nat.le_of_ble_eq_true rfl, Nat.le_of_ble_eq_true rfl⟩) ?_
    refine wt_iald hx hb hK hP 7 0 rfl rfl (k := wt_sl 0 0 (ww + 1)) (wt_sl_lt (by omega) (by omega) (by omega)) (by decide) dG_costOfTwo_29 ?_
    refine lv_istore (lv' := [(4, .int (gc (wt_sl 0 0 (ww + 1)))), (3, .int (gc (wt_sl 0 (vv + 1) (ww + 1)))), (0, .ref (q 6)), (1, .int (nI vv)), (2, .int (nI ww))]) hx hb dG_costOfTwo_30 hl (by decide) rfl (fun ls hl => ?_)
    refine lv_iload hx hb dG_costOfTwo_32 (lv_at hl 0 rfl) ?_
    refine lv_iconst (v := (-1)) hx hb dG_costOfTwo_34 (by decide) ?_
    refine lv_icmp_ne (tgt := 42) hx hb dG_costOfTwo_35 (by decide) (fun c_2 => ?_) (fun c_2 => ?_)
    · skip
      refine lv_aload_n hx hb dG_costOfTwo_42 rfl (lv_at hl 2 rfl) ?_
      refine va_get (D := (dC, dI)) (ci := 2) (v := .ref (q 8)) (C := RG) (T := TG) (N := 2) hx hb ht inG hown hK hP 6 rfl rfl 1 (by decide) (ht _ m_55) (fun _ h9 => h9) rfl dG_costOfTwo_43 ?_
      refine lv_iconst (v := (-1)) hx hb dG_costOfTwo_46 (by decide) ?_
      refine lv_iconst (v := (-1)) hx hb dG_costOfTwo_47 (by decide) ?_
      refine lv_iload_n hx hb dG_costOfTwo_48 rfl (lv_at hl 3 rfl) ?_
      refine wt_roi (va_runS (As := [.int (-1), .int (-1), .int (nI vv)]) (rest := [.ref (q 8)]) ⟨hx, hb, hml, hown, ht⟩ (c_G_slot l dC dI cI cZ cL 0 0 (vv + 1) (-1) (-1) (nI vv) wt_m1a wt_m1a (wt_p1 vv)) (va_cwS 3 ht (good_S m_188 m_189 m_3 m_190) rfl rfl rfl (by decide +kernel) ⟨Nat.le_of_ble_eq_true rfl, Nat.le_of_ble_eq_true rfl⟩) (wt_preS hK hN (hP.sub [] rfl)) rfl rfl hl.1 rfl (lv_room (Nat.le_of_ble_eq_true rfl)) dG_costOfTwo_49 ⟨Nat.le_of_ble_eq_true rfl, Nat.le_of_ble_eq_true rfl⟩) ?_
      refine wt_iald hx hb hK hP 8 0 rfl rfl (k := wt_sl 0 0 (vv + 1)) (wt_sl_lt (by omega) (by omega) (by omega)) (by decide) dG_costOfTwo_52 ?_
      refine lv_iload hx hb dG_costOfTwo_53 (lv_at hl 0 rfl) ?_
      refine lv_iadd hx hb dG_costOfTwo_55 ?_
      exact W.iret (v := gb (wt_sl 0 0 (vv + 1)) + gc (wt_sl 0 0 (ww + 1))) hx hb hr (fun t ht hW => ⟨_, rfl, (by unfold wt_two; first | rw [if_pos c_1, if_neg c_2] | rw [if_pos c_1, if_pos c_2]), ht⟩) (fun q h => by cases h) dG_costOfTwo_56
    · skip
      refine lv_iconst (v := (-1)) hx hb dG_costOfTwo_38 (by decide) ?_
      refine lv_goto (tgt := 56) hx hb dG_costOfTwo_39 (by decide) ?_
      exact W.iret (v := (-1)) hx hb hr (fun t ht hW => ⟨_, rfl, (by unfold wt_two; first | rw [if_pos c_1, if_neg c_2] | rw [if_pos c_1, if_pos c_2]), ht⟩) (fun q h => by cases h) dG_costOfTwo_56
  · skip
    refine lv_iload_n hx hb dG_costOfTwo_17 rfl (lv_at hl 0 rfl) ?_
    exact W.iret (v := gc (wt_sl 0 (vv + 1) (ww + 1))) hx hb hr (fun t ht hW => ⟨_, rfl, (by unfold wt_two; rw [if_neg c_1]), ht⟩) (fun q h => by cases h) dG_costOfTwo_18

set_option maxHeartbeats 4000000 in
set_option maxRecDepth 100000 in
theorem c_G_costAfter (l : Launch) (dC : Nat → ClassId) (dI : Nat → Nat → Nat) (cI cZ cL : ClassId) (q : Nat → Nat) (ph : Nat → Nat) (pa : Nat → Nat) (ch : Nat → Nat) (en : Nat → Bool) (sz : Nat) (pr : Nat) (gc : Nat → Int32) (gb : Nat → Int32) (sc : Nat → Int32) (sh : Nat → Int32) (sl : Nat → Int32) (ct : Nat) (tok : Nat → Int64) (wt : Nat → Int64) (pn : Nat → Nat) (lt : Nat → Int64) (wp : Int64) (sd : Bool) (uu : Nat) (vv : Nat) (ww : Nat) (huu : uu < 5) (hvv : vv < 5) (hww : ww < 5) : Met l yG_costAfter (Cond.code yG_costAfter cG_costAfter 6 (some .int) :: tb) ({ frames := 2, cells := 0, slots := 0, locals := 46 }) (va_Pc [.ref (q 6), .int (nI uu), .int (nI vv), .int (nI ww)] (wt_ro (dC, dI) vwCl [(cI, .int), (cZ, .boolean), (cL, .long)] (wX cI cZ cL q ph pa ch en sz pr gc gb sc sh sl ct tok wt pn lt wp sd))) (vp_Si (fun r => r = (wt_aft gc gb uu vv ww))) 0 0 (fun _ => False) := by
  refine Met.ofW (cc := cG_costAfter) (maxL := 6) (ret := (some .int)) (by decide) rfl ?_
  intro p e s m args below meth c s₁ B hml hv
  obtain ⟨rfl, hP, hK, hN⟩ := hv
  have hx := B.exec
  have hb := B.bytes
  have hr := B.returns
  have hts := atoms_spec (ws := (Cond.code yG_costAfter cG_costAfter 6 (some .int) :: tb)) B.pre
  have ht : ∀ w ∈ tb, w.before _ s = true := fun w h => hts w (List.mem_cons_of_mem _ h)
  have hown : s.vm.findClass RG = some m.cls := findClass_of_methodNamed B.named
  have hlocks := B.notSynchronized
  have hl := lv_entry ([.ref (q 6), .int (nI uu), .int (nI vv), .int (nI ww)]) (n := 6) (Nat.le_of_ble_eq_true rfl)
  rw [lg_entry_eq]
  generalize (lg_sl ([.ref (q 6), .int (nI uu), .int (nI vv), .int (nI ww)]) ++ List.replicate (6 - (lg_sl ([.ref (q 6), .int (nI uu), .int (nI vv), .int (nI ww)])).length) Slot.unset).toArray = ls at hl ⊢
  have hl : lv_has ls 6 [(0, .ref (q 6)), (1, .int (nI uu)), (2, .int (nI vv)), (3, .int (nI ww))] := hl
  refine lv_iload_n hx hb dG_costAfter_0 rfl (lv_at hl 2 rfl) ?_
  refine lv_iconst (v := nI 4) hx hb dG_costAfter_1 (by decide) ?_
  refine wt_icmp_ne (tgt := 12) hx hb dG_costAfter_2 (by decide) (by omega) (by omega) (fun c_1 => ?_) (fun c_1 => ?_)
  · skip
    refine lv_aload_n hx hb dG_costAfter_12 rfl (lv_at hl 0 rfl) ?_
    refine va_get (D := (dC, dI)) (ci := 2) (v := .ref (q 7)) (C := RG) (T := TG) (N := 2) hx hb ht inG hown hK hP 6 rfl rfl 0 (by decide) (ht _ m_54) (fun _ h9 => h9) rfl dG_costAfter_13 ?_
    refine lv_iload_n hx hb dG_costAfter_16 rfl (lv_at hl 1 rfl) ?_
    refine lv_iload_n hx hb dG_costAfter_17 rfl (lv_at hl 2 rfl) ?_
    refine lv_iload_n hx hb dG_costAfter_18 rfl (lv_at hl 3 rfl) ?_
    refine wt_roi (va_runS (As := [.int (nI uu), .int (nI vv), .int (nI ww)]) (rest := [.ref (q 7)]) ⟨hx, hb, hml, hown, ht⟩ (c_G_slot l dC dI cI cZ cL (uu + 1) (vv + 1) (ww + 1) (nI uu) (nI vv) (nI ww) (wt_p1 uu) (wt_p1 vv) (wt_p1 ww)) (va_cwS 3 ht (good_S m_188 m_189 m_3 m_190) rfl rfl rfl (by decide +kernel) ⟨Nat.le_of_ble_eq_true rfl, Nat.le_of_ble_eq_true rfl⟩) (wt_preS hK hN (hP.sub [] rfl)) rfl rfl hl.1 rfl (lv_room (Nat.le_of_ble_eq_true rfl)) dG_costAfter_19 ⟨Nat.le_of_ble_eq_true rfl, Nat.le_of_ble_eq_true rfl⟩) ?_
    refine wt_iald hx hb hK hP 7 0 rfl rfl (k := wt_sl (uu + 1) (vv + 1) (ww + 1)) (wt_sl_lt (by omega) (by omega) (by omega)) (by decide) dG_costAfter_22 ?_
    refine lv_istore (lv' := [(4, .int (gc (wt_sl (uu + 1) (vv + 1) (ww + 1)))), (0, .ref (q 6)), (1, .int (nI uu)), (2, .int (nI vv)), (3, .int (nI ww))]) hx hb dG_costAfter_23 hl (by decide) rfl (fun ls hl => ?_)
    refine lv_iload hx hb dG_costAfter_25 (lv_at hl 0 rfl) ?_
    refine lv_iconst (v := (-1)) hx hb dG_costAfter_27 (by decide) ?_
    refine lv_icmp_eq (tgt := 34) hx hb dG_costAfter_28 (by decide) (fun c_2 => ?_) (fun c_2 => ?_)
    · skip
      refine lv_aload_n hx hb dG_costAfter_34 rfl (lv_at hl 1 rfl) ?_
      refine lv_iload_n hx hb dG_costAfter_35 rfl (lv_at hl 3 rfl) ?_
      refine lv_iload_n hx hb dG_costAfter_36 rfl (lv_at hl 4 rfl) ?_
      refine wt_roi (va_runV (As := [.int (nI vv), .int (nI ww)]) (rest := []) ⟨hx, hb, hml, hown, ht⟩ (c_G_costOfTwo l dC dI cI cZ cL q ph pa ch en sz pr gc gb sc sh sl ct tok wt pn lt wp sd vv ww hvv hww) (cwV 2 ht (good_V m_212 m_214 ms_2 m_3 m_215) rfl rfl rfl (by decide +kernel) ⟨Nat.le_of_ble_eq_true rfl, Nat.le_of_ble_eq_true rfl⟩) (wt_preV hK hN hP (va_recv hK hP (ci := 2) (q0 := 6) rfl rfl)) rfl rfl hl.1 rfl (lv_room (Nat.le_of_ble_eq_true rfl)) dG_costAfter_37 ⟨Nat.le_of_ble_eq_true rfl, Nat.le_of_ble_eq_true rfl⟩) ?_
      refine lv_istore (lv' := [(5, .int (wt_two gc gb vv ww)), (4, .int (gc (wt_sl (uu + 1) (vv + 1) (ww + 1)))), (0, .ref (q 6)), (1, .int (nI uu)), (2, .int (nI vv)), (3, .int (nI ww))]) hx hb dG_costAfter_40 hl (by decide) rfl (fun ls hl => ?_)
      refine lv_iload hx hb dG_costAfter_42 (lv_at hl 0 rfl) ?_
      refine lv_iconst (v := (-1)) hx hb dG_costAfter_44 (by decide) ?_
      refine lv_icmp_ne (tgt := 52) hx hb dG_costAfter_45 (by decide) (fun c_3 => ?_) (fun c_3 => ?_)
      · skip
        refine lv_aload_n hx hb dG_costAfter_52 rfl (lv_at hl 2 rfl) ?_
        refine va_get (D := (dC, dI)) (ci := 2) (v := .ref (q 8)) (C := RG) (T := TG) (N := 2) hx hb ht inG hown hK hP 6 rfl rfl 1 (by decide) (ht _ m_55) (fun _ h9 => h9) rfl dG_costAfter_53 ?_
        refine lv_iconst (v := (-1)) hx hb dG_costAfter_56 (by decide) ?_
        refine lv_iload_n hx hb dG_costAfter_57 rfl (lv_at hl 3 rfl) ?_
        refine lv_iload_n hx hb dG_costAfter_58 rfl (lv_at hl 4 rfl) ?_
        refine wt_roi (va_runS (As := [.int (-1), .int (nI uu), .int (nI vv)]) (rest := [.ref (q 8)]) ⟨hx, hb, hml, hown, ht⟩ (c_G_slot l dC dI cI cZ cL 0 (uu + 1) (vv + 1) (-1) (nI uu) (nI vv) wt_m1a (wt_p1 uu) (wt_p1 vv)) (va_cwS 3 ht (good_S m_188 m_189 m_3 m_190) rfl rfl rfl (by decide +kernel) ⟨Nat.le_of_ble_eq_true rfl, Nat.le_of_ble_eq_true rfl⟩) (wt_preS hK hN (hP.sub [] rfl)) rfl rfl hl.1 rfl (lv_room (Nat.le_of_ble_eq_true rfl)) dG_costAfter_59 ⟨Nat.le_of_ble_eq_true rfl, Nat.le_of_ble_eq_true rfl⟩) ?_
        refine wt_iald hx hb hK hP 8 0 rfl rfl (k := wt_sl 0 (uu + 1) (vv + 1)) (wt_sl_lt (by omega) (by omega) (by omega)) (by decide) dG_costAfter_62 ?_
        refine lv_iload hx hb dG_costAfter_63 (lv_at hl 0 rfl) ?_
        refine lv_iadd hx hb dG_costAfter_65 ?_
        exact W.iret (v := gb (wt_sl 0 (uu + 1) (vv + 1)) + wt_two gc gb vv ww) hx hb hr (fun t ht hW => ⟨_, rfl, (by unfold wt_aft; first | rw [if_neg c_1, if_pos c_2, if_neg c_3] | rw [if_neg c_1, if_pos c_2, if_pos c_3]), ht⟩) (fun q h => by cases h) dG_costAfter_66
      · skip
        refine lv_iconst (v := (-1)) hx hb dG_costAfter_48 (by decide) ?_
        refine lv_goto (tgt := 66) hx hb dG_costAfter_49 (by decide) ?_
        exact W.iret (v := (-1)) hx hb hr (fun t ht hW => ⟨_, rfl, (by unfold wt_aft; first | rw [if_neg c_1, if_pos c_2, if_neg c_3] | rw [if_neg c_1, if_pos c_2, if_pos c_3]), ht⟩) (fun q h => by cases h) dG_costAfter_66
    · skip
      refine lv_iload hx hb dG_costAfter_31 (lv_at hl 0 rfl) ?_
      exact W.iret (v := gc (wt_sl (uu + 1) (vv + 1) (ww + 1))) hx hb hr (fun t ht hW => ⟨_, rfl, (by unfold wt_aft; rw [if_neg c_1, if_neg c_2]), ht⟩) (fun q h => by cases h) dG_costAfter_33
  · skip
    refine lv_aload_n hx hb dG_costAfter_5 rfl (lv_at hl 0 rfl) ?_
    refine lv_iload_n hx hb dG_costAfter_6 rfl (lv_at hl 2 rfl) ?_
    refine lv_iload_n hx hb dG_costAfter_7 rfl (lv_at hl 3 rfl) ?_
    refine wt_roi (va_runV (As := [.int (nI vv), .int (nI ww)]) (rest := []) ⟨hx, hb, hml, hown, ht⟩ (c_G_costOfTwo l dC dI cI cZ cL q ph pa ch en sz pr gc gb sc sh sl ct tok wt pn lt wp sd vv ww hvv hww) (cwV 2 ht (good_V m_212 m_214 ms_2 m_3 m_215) rfl rfl rfl (by decide +kernel) ⟨Nat.le_of_ble_eq_true rfl, Nat.le_of_ble_eq_true rfl⟩) (wt_preV hK hN hP (va_recv hK hP (ci := 2) (q0 := 6) rfl rfl)) rfl rfl hl.1 rfl (lv_room (Nat.le_of_ble_eq_true rfl)) dG_costAfter_8 ⟨Nat.le_of_ble_eq_true rfl, Nat.le_of_ble_eq_true rfl⟩) ?_
    exact W.iret (v := wt_two gc gb vv ww) hx hb hr (fun t ht hW => ⟨_, rfl, (by unfold wt_aft; rw [if_pos c_1]), ht⟩) (fun q h => by cases h) dG_costAfter_11

set_option maxHeartbeats 4000000 in
set_option maxRecDepth 100000 in
theorem c_S_count (l : Launch) (dC : Nat → ClassId) (dI : Nat → Nat → Nat) (cI cZ cL : ClassId) (q : Nat → Nat) (ph : Nat → Nat) (pa : Nat → Nat) (ch : Nat → Nat) (en : Nat → Bool) (sz : Nat) (pr : Nat) (gc : Nat → Int32) (gb : Nat → Int32) (sc : Nat → Int32) (sh : Nat → Int32) (sl : Nat → Int32) (ct : Nat) (tok : Nat → Int64) (wt : Nat → Int64) (pn : Nat → Nat) (lt : Nat → Int64) (wp : Int64) (sd : Bool) : Met l yS_count (Cond.code yS_count cS_count 1 (some .int) :: tb) ({ frames := 0, cells := 0, slots := 0, locals := 0 }) (va_Pc [.ref (q 9)] (wt_ro (dC, dI) vwCl [(cI, .int), (cZ, .boolean), (cL, .long)] (wX cI cZ cL q ph pa ch en sz pr gc gb sc sh sl ct tok wt pn lt wp sd))) (vp_Si (fun r => r = (nI ct))) 0 0 (fun _ => False) := by
  refine Met.ofW (cc := cS_count) (maxL := 1) (ret := (some .int)) (by decide) rfl ?_
  intro p e s m args below meth c s₁ B hml hv
  obtain ⟨rfl, hP, hK, hN⟩ := hv
  have hx := B.exec
  have hb := B.bytes
  have hr := B.returns
  have hts := atoms_spec (ws := (Cond.code yS_count cS_count 1 (some .int) :: tb)) B.pre
  have ht : ∀ w ∈ tb, w.before _ s = true := fun w h => hts w (List.mem_cons_of_mem _ h)
  have hown : s.vm.findClass RS = some m.cls := findClass_of_methodNamed B.named
  have hlocks := B.notSynchronized
  have hl := lv_entry ([.ref (q 9)]) (n := 1) (Nat.le_of_ble_eq_true rfl)
  rw [lg_entry_eq]
  generalize (lg_sl ([.ref (q 9)]) ++ List.replicate (1 - (lg_sl ([.ref (q 9)])).length) Slot.unset).toArray = ls at hl ⊢
  have hl : lv_has ls 1 [(0, .ref (q 9))] := hl
  refine lv_aload_n hx hb dS_count_0 rfl (lv_at hl 0 rfl) ?_
  refine va_get (D := (dC, dI)) (ci := 3) (v := .int (nI ct)) (C := RS) (T := TS) (N := 4) hx hb ht inS hown hK hP 9 rfl rfl 3 (by decide) (ht _ m_70) (fun _ h9 => h9) rfl dS_count_1 ?_
  exact W.iret (v := nI ct) hx hb hr (fun t ht hW => ⟨_, rfl, rfl, ht⟩) (fun q h => by cases h) dS_count_4

set_option maxHeartbeats 4000000 in
set_option maxRecDepth 100000 in
theorem c_S_addFrame (l : Launch) (dC : Nat → ClassId) (dI : Nat → Nat → Nat) (cI cZ cL : ClassId) (q : Nat → Nat) (sz0 : Nat) (ph : Nat → Nat) (pa : Nat → Nat) (ch : Nat → Nat) (en : Nat → Bool) (sz : Nat) (pr : Nat) (gc : Nat → Int32) (gb : Nat → Int32) (sc : Nat → Int32) (sh : Nat → Int32) (sl : Nat → Int32) (ct : Nat) (tok : Nat → Int64) (wt : Nat → Int64) (pn : Nat → Nat) (lt : Nat → Int64) (wp : Int64) (sd : Bool) (hct : ct ≤ 14) : Met l yS_addFrame (Cond.code yS_addFrame cS_addFrame 2 none :: tb) ({ frames := 0, cells := 0, slots := 0, locals := 0 }) (va_Pc [.ref (q 9)] (wt_rw (dC, dI) vwCl [(cI, .int), (cZ, .boolean), (cL, .long)] (wX cI cZ cL q ph pa ch en sz pr gc gb sc sh sl ct tok wt pn lt wp sd) sz0)) (va_Qv (fun _ : Unit => True) (wt_B (dC, dI) vwCl (va_A (wX cI cZ cL q ph pa ch en sz pr gc gb sc sh sl ct tok wt pn lt wp sd) sz0) (wX cI cZ cL q ph pa ch en sz pr gc gb (wt_z12 (ct * 12) sc) sh sl (ct + 1) tok wt pn lt wp sd)) (va_A (wX cI cZ cL q ph pa ch en sz pr gc gb sc sh sl ct tok wt pn lt wp sd) sz0)) 0 0 (va_A (wX cI cZ cL q ph pa ch en sz pr gc gb sc sh sl ct tok wt pn lt wp sd) sz0) := by
  refine Met.ofW (cc := cS_addFrame) (maxL := 2) (ret := none) (by decide) rfl ?_
  intro p e s m args below meth c s₁ B hml hv
  obtain ⟨rfl, hsz, hP, hK, hN, hD0⟩ := hv
  have hx := B.exec
  have hb := B.bytes
  have hr := B.returns
  have hts := atoms_spec (ws := (Cond.code yS_addFrame cS_addFrame 2 none :: tb)) B.pre
  have ht : ∀ w ∈ tb, w.before _ s = true := fun w h => hts w (List.mem_cons_of_mem _ h)
  have hown : s.vm.findClass RS = some m.cls := findClass_of_methodNamed B.named
  have hlocks := B.notSynchronized
  subst hsz
  have hD := hD0.self (sz := s.heap.size)
  generalize hAe : va_A (wX cI cZ cL q ph pa ch en sz pr gc gb sc sh sl ct tok wt pn lt wp sd) s.heap.size = A at hD ⊢
  have hA : ∀ q : Nat, s.heap.size ≤ q → A q := fun q h => by rw [← hAe]; exact Or.inr h
  clear hAe hD0
  have hS : va_S A s.heap s.heap [] := va_S.rf
  have hl := lv_entry ([.ref (q 9)]) (n := 2) (Nat.le_of_ble_eq_true rfl)
  rw [lg_entry_eq]
  generalize (lg_sl ([.ref (q 9)]) ++ List.replicate (2 - (lg_sl ([.ref (q 9)])).length) Slot.unset).toArray = ls at hl ⊢
  have hl : lv_has ls 2 [(0, .ref (q 9))] := hl
  refine lv_iconst (v := nI 0) hx hb dS_addFrame_0 (by decide) ?_
  refine lv_istore_n (lv' := [(1, .int (nI 0)), (0, .ref (q 9))]) hx hb dS_addFrame_1 rfl hl (by decide) rfl (fun ls hl => ?_)
  have LP2 : ∀ (r : Nat) (i : Nat) (scx : Nat → Int32) (hi : i + r = 12) (hE : wt_up (fun i f => upd f (ct * 12 + i) (nI 0)) r i scx = wt_z12 (ct * 12) sc) (H : Heap) (locs : List Loc) (hP : va_P (dC, dI) vwCl (wX cI cZ cL q ph pa ch en sz pr gc gb scx sh sl ct tok wt pn lt wp sd) H) (hD : va_D A (wX cI cZ cL q ph pa ch en sz pr gc gb scx sh sl ct tok wt pn lt wp sd)) (hS : va_S A s.heap H locs) (ls : Array Slot) (hl : lv_has ls 2 [(0, .ref (q 9)), (1, .int (nI i))]), W p l e (headSpec (Cond.code yS_addFrame cS_addFrame 2 none :: tb) ({ frames := 0, cells := 0, slots := 0, locals := 0 })).room s m ([.ref (q 9)] : List Value).toArray below meth c H locs 0 0 (MQ below (va_Qv (fun _ : Unit => True) (wt_B (dC, dI) vwCl A (wX cI cZ cL q ph pa ch en sz pr gc gb (wt_z12 (ct * 12) sc) sh sl (ct + 1) tok wt pn lt wp sd)) A) ([.ref (q 9)] : List Value).toArray s 0 0 A) (F0 m 2 ls []) := by
    intro r
    induction r with
    | zero =>
      intro i scx hi hE H locs hP hD hS ls hl
      have hl : lv_has ls 2 [(0, .ref (q 9)), (1, .int (nI i))] := hl
      refine lv_iload_n hx hb dS_addFrame_2 rfl (lv_at hl 1 rfl) ?_
      refine lv_bipush (v := nI 12) hx hb dS_addFrame_3 (by decide) ?_
      refine wt_icmp_ge (tgt := 29) hx hb dS_addFrame_5 (by decide) (by omega) (by omega) (fun c_1 => ?_) (fun c_1 => ?_)
      · skip
        refine lv_aload_n hx hb dS_addFrame_29 rfl (lv_at hl 0 rfl) ?_
        refine lv_dup hx hb dS_addFrame_30 rfl ?_
        refine va_get (D := (dC, dI)) (ci := 3) (v := .int (nI ct)) (C := RS) (T := TS) (N := 4) hx hb ht inS hown hK hP 9 rfl rfl 3 (by decide) (ht _ m_70) (fun _ h9 => h9) rfl dS_addFrame_31 ?_
        refine lv_iconst (v := nI 1) hx hb dS_addFrame_34 (by decide) ?_
        refine wt_iadd hx hb dS_addFrame_35 ?_
        refine va_put (D := (dC, dI)) (ci := 3) (v := .int (nI (ct + 1))) (ty := .int) (C := RS) (T := TS) (N := 4) hx hb ht inS tyS tyS_ok nmS hown hK hP hD hS 9 rfl rfl 3 (by decide) (ht _ m_70) (fun _ h9 => h9) rfl (by decide +kernel) rfl rfl (Nat.le_of_ble_eq_true rfl) dS_addFrame_36 (fun H locs hP hD hS => ?_)
        have hP : va_P (dC, dI) vwCl (wX cI cZ cL q ph pa ch en sz pr gc gb scx sh sl (ct + 1) tok wt pn lt wp sd) H := hP
        have hD : va_D A (wX cI cZ cL q ph pa ch en sz pr gc gb scx sh sl (ct + 1) tok wt pn lt wp sd) := hD
        have hP9 : va_P (dC, dI) vwCl (wX cI cZ cL q ph pa ch en sz pr gc gb (wt_z12 (ct * 12) sc) sh sl (ct + 1) tok wt pn lt wp sd) H := by rw [show (wt_z12 (ct * 12) sc) = scx from hE.symm]; exact hP
        have hD9 : va_D A (wX cI cZ cL q ph pa ch en sz pr gc gb (wt_z12 (ct * 12) sc) sh sl (ct + 1) tok wt pn lt wp sd) := by rw [show (wt_z12 (ct * 12) sc) = scx from hE.symm]; exact hD
        exact W.vret hx hb hr (fun t ht hW => ⟨⟨(), rfl, trivial, by rw [ht]; exact hP9, hD9⟩, hS.F ht⟩) hS.2.2 dS_addFrame_39
      · first | exact absurd c_1 (by omega) | exact absurd c_1 (by decide) | exact absurd (by decide) c_1
    | succ r ih2 =>
      intro i scx hi hE H locs hP hD hS ls hl
      have hl : lv_has ls 2 [(0, .ref (q 9)), (1, .int (nI i))] := hl
      refine lv_iload_n hx hb dS_addFrame_2 rfl (lv_at hl 1 rfl) ?_
      refine lv_bipush (v := nI 12) hx hb dS_addFrame_3 (by decide) ?_
      refine wt_icmp_ge (tgt := 29) hx hb dS_addFrame_5 (by decide) (by omega) (by omega) (fun c_2 => ?_) (fun c_2 => ?_)
      · first | exact absurd c_2 (by omega) | exact absurd c_2 (by decide) | exact absurd (by decide) c_2
      · skip
        refine lv_aload_n hx hb dS_addFrame_8 rfl (lv_at hl 0 rfl) ?_
        refine va_get (D := (dC, dI)) (ci := 3) (v := .ref (q 10)) (C := RS) (T := TS) (N := 4) hx hb ht inS hown hK hP 9 rfl rfl 0 (by decide) (ht _ m_67) (fun _ h9 => h9) rfl dS_addFrame_9 ?_
        refine lv_aload_n hx hb dS_addFrame_12 rfl (lv_at hl 0 rfl) ?_
        refine va_get (D := (dC, dI)) (ci := 3) (v := .int (nI ct)) (C := RS) (T := TS) (N := 4) hx hb ht inS hown hK hP 9 rfl rfl 3 (by decide) (ht _ m_70) (fun _ h9 => h9) rfl dS_addFrame_13 ?_
        refine lv_bipush (v := nI 12) hx hb dS_addFrame_16 (by decide) ?_
        refine wt_imul hx hb dS_addFrame_18 ?_
        refine lv_iload_n hx hb dS_addFrame_19 rfl (lv_at hl 1 rfl) ?_
        refine wt_iadd hx hb dS_addFrame_20 ?_
        refine lv_iconst (v := nI 0) hx hb dS_addFrame_21 (by decide) ?_
        refine wt_iast hx hb hK hP hD hS 10 0 rfl rfl (k := ct * 12 + i) (by omega) (by decide) dS_addFrame_22 (fun H locs hP hD hS => ?_)
        have hP : va_P (dC, dI) vwCl (wX cI cZ cL q ph pa ch en sz pr gc gb (upd scx (ct * 12 + i) (nI 0)) sh sl ct tok wt pn lt wp sd) H := hP
        have hD : va_D A (wX cI cZ cL q ph pa ch en sz pr gc gb (upd scx (ct * 12 + i) (nI 0)) sh sl ct tok wt pn lt wp sd) := hD
        refine lv_iinc (v := nI (i + 1)) (lv' := [(1, .int (nI (i + 1))), (0, .ref (q 9))]) hx hb dS_addFrame_23 hl (k := 1) rfl (wt_inc1 i) (by decide) rfl (fun ls hl => ?_)
        refine lv_goto (tgt := 2) hx hb dS_addFrame_26 (by decide) ?_
        exact ih2 (i + 1) (upd scx (ct * 12 + i) (nI 0)) (by omega) hE _ _ hP hD hS ls (lv_sub hl [1, 0] rfl)
  exact LP2 12 0 sc rfl rfl _ _ hP hD hS ls (lv_sub hl [1, 0] rfl)

set_option maxHeartbeats 4000000 in
set_option maxRecDepth 100000 in
theorem c_S_removeFrame (l : Launch) (dC : Nat → ClassId) (dI : Nat → Nat → Nat) (cI cZ cL : ClassId) (q : Nat → Nat) (sz0 : Nat) (ph : Nat → Nat) (pa : Nat → Nat) (ch : Nat → Nat) (en : Nat → Bool) (sz : Nat) (pr : Nat) (gc : Nat → Int32) (gb : Nat → Int32) (sc : Nat → Int32) (sh : Nat → Int32) (sl : Nat → Int32) (ct : Nat) (tok : Nat → Int64) (wt : Nat → Int64) (pn : Nat → Nat) (lt : Nat → Int64) (wp : Int64) (sd : Bool) (hct : 1 ≤ ct) : Met l yS_removeFrame (Cond.code yS_removeFrame cS_removeFrame 1 none :: tb) ({ frames := 0, cells := 0, slots := 0, locals := 0 }) (va_Pc [.ref (q 9)] (wt_rw (dC, dI) vwCl [(cI, .int), (cZ, .boolean), (cL, .long)] (wX cI cZ cL q ph pa ch en sz pr gc gb sc sh sl ct tok wt pn lt wp sd) sz0)) (va_Qv (fun _ : Unit => True) (wt_B (dC, dI) vwCl (va_A (wX cI cZ cL q ph pa ch en sz pr gc gb sc sh sl ct tok wt pn lt wp sd) sz0) (wX cI cZ cL q ph pa ch en sz pr gc gb sc sh sl (ct - 1) tok wt pn lt wp sd)) (va_A (wX cI cZ cL q ph pa ch en sz pr gc gb sc sh sl ct tok wt pn lt wp sd) sz0)) 0 0 (va_A (wX cI cZ cL q ph pa ch en sz pr gc gb sc sh sl ct tok wt pn lt wp sd) sz0) := by
  refine Met.ofW (cc := cS_removeFrame) (maxL := 1) (ret := none) (by decide) rfl ?_
  intro p e s m args below meth c s₁ B hml hv
  obtain ⟨rfl, hsz, hP, hK, hN, hD0⟩ := hv
  have hx := B.exec
  have hb := B.bytes
  have hr := B.returns
  have hts := atoms_spec (ws := (Cond.code yS_removeFrame cS_removeFrame 1 none :: tb)) B.pre
  have ht : ∀ w ∈ tb, w.before _ s = true := fun w h => hts w (List.mem_cons_of_mem _ h)
  have hown : s.vm.findClass RS = some m.cls := findClass_of_methodNamed B.named
  have hlocks := B.notSynchronized
  subst hsz
  have hD := hD0.self (sz := s.heap.size)
  generalize hAe : va_A (wX cI cZ cL q ph pa ch en sz pr gc gb sc sh sl ct tok wt pn lt wp sd) s.heap.size = A at hD ⊢
  have hA : ∀ q : Nat, s.heap.size ≤ q → A q := fun q h => by rw [← hAe]; exact Or.inr h
  clear hAe hD0
  have hS : va_S A s.heap s.heap [] := va_S.rf
  have hl := lv_entry ([.ref (q 9)]) (n := 1) (Nat.le_of_ble_eq_true rfl)
  rw [lg_entry_eq]
  generalize (lg_sl ([.ref (q 9)]) ++ List.replicate (1 - (lg_sl ([.ref (q 9)])).length) Slot.unset).toArray = ls at hl ⊢
  have hl : lv_has ls 1 [(0, .ref (q 9))] := hl
  refine lv_aload_n hx hb dS_removeFrame_0 rfl (lv_at hl 0 rfl) ?_
  refine lv_dup hx hb dS_removeFrame_1 rfl ?_
  refine va_get (D := (dC, dI)) (ci := 3) (v := .int (nI ct)) (C := RS) (T := TS) (N := 4) hx hb ht inS hown hK hP 9 rfl rfl 3 (by decide) (ht _ m_70) (fun _ h9 => h9) rfl dS_removeFrame_2 ?_
  refine lv_iconst (v := nI 1) hx hb dS_removeFrame_5 (by decide) ?_
  refine wt_isub hx hb dS_removeFrame_6 (by omega) ?_
  refine va_put (D := (dC, dI)) (ci := 3) (v := .int (nI (ct - 1))) (ty := .int) (C := RS) (T := TS) (N := 4) hx hb ht inS tyS tyS_ok nmS hown hK hP hD hS 9 rfl rfl 3 (by decide) (ht _ m_70) (fun _ h9 => h9) rfl (by decide +kernel) rfl rfl (Nat.le_of_ble_eq_true rfl) dS_removeFrame_7 (fun H locs hP hD hS => ?_)
  have hP : va_P (dC, dI) vwCl (wX cI cZ cL q ph pa ch en sz pr gc gb sc sh sl (ct - 1) tok wt pn lt wp sd) H := hP
  have hD : va_D A (wX cI cZ cL q ph pa ch en sz pr gc gb sc sh sl (ct - 1) tok wt pn lt wp sd) := hD
  have hP9 : va_P (dC, dI) vwCl (wX cI cZ cL q ph pa ch en sz pr gc gb sc sh sl (ct - 1) tok wt pn lt wp sd) H := by exact hP
  have hD9 : va_D A (wX cI cZ cL q ph pa ch en sz pr gc gb sc sh sl (ct - 1) tok wt pn lt wp sd) := by exact hD
  exact W.vret hx hb hr (fun t ht hW => ⟨⟨(), rfl, trivial, by rw [ht]; exact hP9, hD9⟩, hS.F ht⟩) hS.2.2 dS_removeFrame_10

set_option maxHeartbeats 4000000 in
set_option maxRecDepth 100000 in
theorem c_S_setCost (l : Launch) (dC : Nat → ClassId) (dI : Nat → Nat → Nat) (cI cZ cL : ClassId) (q : Nat → Nat) (sz0 : Nat) (ph : Nat → Nat) (pa : Nat → Nat) (ch : Nat → Nat) (en : Nat → Bool) (sz : Nat) (pr : Nat) (gc : Nat → Int32) (gb : Nat → Int32) (sc : Nat → Int32) (sh : Nat → Int32) (sl : Nat → Int32) (ct : Nat) (tok : Nat → Int64) (wt : Nat → Int64) (pn : Nat → Nat) (lt : Nat → Int64) (wp : Int64) (sd : Bool) (tt : Nat) (pp : Nat) (ss : Nat) (co : Int32) (htt : tt < 15) (hpp : pp < 4) (hss : ss < 3) : Met l yS_setCost (Cond.code yS_setCost cS_setCost 5 none :: tb) ({ frames := 0, cells := 0, slots := 0, locals := 0 }) (va_Pc [.ref (q 9), .int (nI tt), .int (nI pp), .int (nI ss), .int co] (wt_rw (dC, dI) vwCl [(cI, .int), (cZ, .boolean), (cL, .long)] (wX cI cZ cL q ph pa ch en sz pr gc gb sc sh sl ct tok wt pn lt wp sd) sz0)) (va_Qv (fun _ : Unit => True) (wt_B (dC, dI) vwCl (va_A (wX cI cZ cL q ph pa ch en sz pr gc gb sc sh sl ct tok wt pn lt wp sd) sz0) (wX cI cZ cL q ph pa ch en sz pr gc gb (upd sc (tt * 12 + pp * 3 + ss) co) sh sl ct tok wt pn lt wp sd)) (va_A (wX cI cZ cL q ph pa ch en sz pr gc gb sc sh sl ct tok wt pn lt wp sd) sz0)) 0 0 (va_A (wX cI cZ cL q ph pa ch en sz pr gc gb sc sh sl ct tok wt pn lt wp sd) sz0) := by
  refine Met.ofW (cc := cS_setCost) (maxL := 5) (ret := none) (by decide) rfl ?_
  intro p e s m args below meth c s₁ B hml hv
  obtain ⟨rfl, hsz, hP, hK, hN, hD0⟩ := hv
  have hx := B.exec
  have hb := B.bytes
  have hr := B.returns
  have hts := atoms_spec (ws := (Cond.code yS_setCost cS_setCost 5 none :: tb)) B.pre
  have ht : ∀ w ∈ tb, w.before _ s = true := fun w h => hts w (List.mem_cons_of_mem _ h)
  have hown : s.vm.findClass RS = some m.cls := findClass_of_methodNamed B.named
  have hlocks := B.notSynchronized
  subst hsz
  have hD := hD0.self (sz := s.heap.size)
  generalize hAe : va_A (wX cI cZ cL q ph pa ch en sz pr gc gb sc sh sl ct tok wt pn lt wp sd) s.heap.size = A at hD ⊢
  have hA : ∀ q : Nat, s.heap.size ≤ q → A q := fun q h => by rw [← hAe]; exact Or.inr h
  clear hAe hD0
  have hS : va_S A s.heap s.heap [] := va_S.rf
  have hl := lv_entry ([.ref (q 9), .int (nI tt), .int (nI pp), .int (nI ss), .int co]) (n := 5) (Nat.le_of_ble_eq_true rfl)
  rw [lg_entry_eq]
  generalize (lg_sl ([.ref (q 9), .int (nI tt), .int (nI pp), .int (nI ss), .int co]) ++ List.replicate (5 - (lg_sl ([.ref (q 9), .int (nI tt), .int (nI pp), .int (nI ss), .int co])).length) Slot.unset).toArray = ls at hl ⊢
  have hl : lv_has ls 5 [(0, .ref (q 9)), (1, .int (nI tt)), (2, .int (nI pp)), (3, .int (nI ss)), (4, .int co)] := hl
  refine lv_aload_n hx hb dS_setCost_0 rfl (lv_at hl 0 rfl) ?_
  refine va_get (D := (dC, dI)) (ci := 3) (v := .ref (q 10)) (C := RS) (T := TS) (N := 4) hx hb ht inS hown hK hP 9 rfl rfl 0 (by decide) (ht _ m_67) (fun _ h9 => h9) rfl dS_setCost_1 ?_
  refine lv_iload_n hx hb dS_setCost_4 rfl (lv_at hl 1 rfl) ?_
  refine lv_bipush (v := nI 12) hx hb dS_setCost_5 (by decide) ?_
  refine wt_imul hx hb dS_setCost_7 ?_
  refine lv_iload_n hx hb dS_setCost_8 rfl (lv_at hl 2 rfl) ?_
  refine lv_iconst (v := nI 3) hx hb dS_setCost_9 (by decide) ?_
  refine wt_imul hx hb dS_setCost_10 ?_
  refine wt_iadd hx hb dS_setCost_11 ?_
  refine lv_iload_n hx hb dS_setCost_12 rfl (lv_at hl 3 rfl) ?_
  refine wt_iadd hx hb dS_setCost_13 ?_
  refine lv_iload hx hb dS_setCost_14 (lv_at hl 4 rfl) ?_
  refine wt_iast hx hb hK hP hD hS 10 0 rfl rfl (k := tt * 12 + pp * 3 + ss) (by omega) (by decide) dS_setCost_16 (fun H locs hP hD hS => ?_)
  have hP : va_P (dC, dI) vwCl (wX cI cZ cL q ph pa ch en sz pr gc gb (upd sc (tt * 12 + pp * 3 + ss) co) sh sl ct tok wt pn lt wp sd) H := hP
  have hD : va_D A (wX cI cZ cL q ph pa ch en sz pr gc gb (upd sc (tt * 12 + pp * 3 + ss) co) sh sl ct tok wt pn lt wp sd) := hD
  have hP9 : va_P (dC, dI) vwCl (wX cI cZ cL q ph pa ch en sz pr gc gb (upd sc (tt * 12 + pp * 3 + ss) co) sh sl ct tok wt pn lt wp sd) H := by exact hP
  have hD9 : va_D A (wX cI cZ cL q ph pa ch en sz pr gc gb (upd sc (tt * 12 + pp * 3 + ss) co) sh sl ct tok wt pn lt wp sd) := by exact hD
  exact W.vret hx hb hr (fun t ht hW => ⟨⟨(), rfl, trivial, by rw [ht]; exact hP9, hD9⟩, hS.F ht⟩) hS.2.2 dS_setCost_17

set_option maxHeartbeats 4000000 in
set_option maxRecDepth 100000 in
theorem c_S_costOf (l : Launch) (dC : Nat → ClassId) (dI : Nat → Nat → Nat) (cI cZ cL : ClassId) (q : Nat → Nat) (ph : Nat → Nat) (pa : Nat → Nat) (ch : Nat → Nat) (en : Nat → Bool) (sz : Nat) (pr : Nat) (gc : Nat → Int32) (gb : Nat → Int32) (sc : Nat → Int32) (sh : Nat → Int32) (sl : Nat → Int32) (ct : Nat) (tok : Nat → Int64) (wt : Nat → Int64) (pn : Nat → Nat) (lt : Nat → Int64) (wp : Int64) (sd : Bool) (tt : Nat) (pp : Nat) (ss : Nat) (htt : tt < 15) (hpp : pp < 4) (hss : ss < 3) : Met l yS_costOf (Cond.code yS_costOf cS_costOf 4 (some .int) :: tb) ({ frames := 0, cells := 0, slots := 0, locals := 0 }) (va_Pc [.ref (q 9), .int (nI tt), .int (nI pp), .int (nI ss)] (wt_ro (dC, dI) vwCl [(cI, .int), (cZ, .boolean), (cL, .long)] (wX cI cZ cL q ph pa ch en sz pr gc gb sc sh sl ct tok wt pn lt wp sd))) (vp_Si (fun r => r = (sc (tt * 12 + pp * 3 + ss)))) 0 0 (fun _ => False) := by
  refine Met.ofW (cc := cS_costOf) (maxL := 4) (ret := (some .int)) (by decide) rfl ?_
  intro p e s m args below meth c s₁ B hml hv
  obtain ⟨rfl, hP, hK, hN⟩ := hv
  have hx := B.exec
  have hb := B.bytes
  have hr := B.returns
  have hts := atoms_spec (ws := (Cond.code yS_costOf cS_costOf 4 (some .int) :: tb)) B.pre
  have ht : ∀ w ∈ tb, w.before _ s = true := fun w h => hts w (List.mem_cons_of_mem _ h)
  have hown : s.vm.findClass RS = some m.cls := findClass_of_methodNamed B.named
  have hlocks := B.notSynchronized
  have hl := lv_entry ([.ref (q 9), .int (nI tt), .int (nI pp), .int (nI ss)]) (n := 4) (Nat.le_of_ble_eq_true rfl)
  rw [lg_entry_eq]
  generalize (lg_sl ([.ref (q 9), .int (nI tt), .int (nI pp), .int (nI ss)]) ++ List.replicate (4 - (lg_sl ([.ref (q 9), .int (nI tt), .int (nI pp), .int (nI ss)])).length) Slot.unset).toArray = ls at hl ⊢
  have hl : lv_has ls 4 [(0, .ref (q 9)), (1, .int (nI tt)), (2, .int (nI pp)), (3, .int (nI ss))] := hl
  refine lv_aload_n hx hb dS_costOf_0 rfl (lv_at hl 0 rfl) ?_
  refine va_get (D := (dC, dI)) (ci := 3) (v := .ref (q 10)) (C := RS) (T := TS) (N := 4) hx hb ht inS hown hK hP 9 rfl rfl 0 (by decide) (ht _ m_67) (fun _ h9 => h9) rfl dS_costOf_1 ?_
  refine lv_iload_n hx hb dS_costOf_4 rfl (lv_at hl 1 rfl) ?_
  refine lv_bipush (v := nI 12) hx hb dS_costOf_5 (by decide) ?_
  refine wt_imul hx hb dS_costOf_7 ?_
  refine lv_iload_n hx hb dS_costOf_8 rfl (lv_at hl 2 rfl) ?_
  refine lv_iconst (v := nI 3) hx hb dS_costOf_9 (by decide) ?_
  refine wt_imul hx hb dS_costOf_10 ?_
  refine wt_iadd hx hb dS_costOf_11 ?_
  refine lv_iload_n hx hb dS_costOf_12 rfl (lv_at hl 3 rfl) ?_
  refine wt_iadd hx hb dS_costOf_13 ?_
  refine wt_iald hx hb hK hP 10 0 rfl rfl (k := tt * 12 + pp * 3 + ss) (by omega) (by decide) dS_costOf_14 ?_
  exact W.iret (v := sc (tt * 12 + pp * 3 + ss)) hx hb hr (fun t ht hW => ⟨_, rfl, rfl, ht⟩) (fun q h => by cases h) dS_costOf_15

set_option maxHeartbeats 4000000 in
set_option maxRecDepth 100000 in
theorem c_S_setTopology (l : Launch) (dC : Nat → ClassId) (dI : Nat → Nat → Nat) (cI cZ cL : ClassId) (q : Nat → Nat) (sz0 : Nat) (ph : Nat → Nat) (pa : Nat → Nat) (ch : Nat → Nat) (en : Nat → Bool) (sz : Nat) (pr : Nat) (gc : Nat → Int32) (gb : Nat → Int32) (sc : Nat → Int32) (sh : Nat → Int32) (sl : Nat → Int32) (ct : Nat) (tok : Nat → Int64) (wt : Nat → Int64) (pn : Nat → Nat) (lt : Nat → Int64) (wp : Int64) (sd : Bool) (ss : Nat) (ho : Int32) (le : Int32) (hss : ss < 3) : Met l yS_setTopology (Cond.code yS_setTopology cS_setTopology 4 none :: tb) ({ frames := 0, cells := 0, slots := 0, locals := 0 }) (va_Pc [.ref (q 9), .int (nI ss), .int ho, .int le] (wt_rw (dC, dI) vwCl [(cI, .int), (cZ, .boolean), (cL, .long)] (wX cI cZ cL q ph pa ch en sz pr gc gb sc sh sl ct tok wt pn lt wp sd) sz0)) (va_Qv (fun _ : Unit => True) (wt_B (dC, dI) vwCl (va_A (wX cI cZ cL q ph pa ch en sz pr gc gb sc sh sl ct tok wt pn lt wp sd) sz0) (wX cI cZ cL q ph pa ch en sz pr gc gb sc (upd sh ss ho) (upd sl ss le) ct tok wt pn lt wp sd)) (va_A (wX cI cZ cL q ph pa ch en sz pr gc gb sc sh sl ct tok wt pn lt wp sd) sz0)) 0 0 (va_A (wX cI cZ cL q ph pa ch en sz pr gc gb sc sh sl ct tok wt pn lt wp sd) sz0) := by
  refine Met.ofW (cc := cS_setTopology) (maxL := 4) (ret := none) (by decide) rfl ?_
  intro p e s m args below meth c s₁ B hml hv
  obtain ⟨rfl, hsz, hP, hK, hN, hD0⟩ := hv
  have hx := B.exec
  have hb := B.bytes
  have hr := B.returns
  have hts := atoms_spec (ws := (Cond.code yS_setTopology cS_setTopology 4 none :: tb)) B.pre
  have ht : ∀ w ∈ tb, w.before _ s = true := fun w h => hts w (List.mem_cons_of_mem _ h)
  have hown : s.vm.findClass RS = some m.cls := findClass_of_methodNamed B.named
  have hlocks := B.notSynchronized
  subst hsz
  have hD := hD0.self (sz := s.heap.size)
  generalize hAe : va_A (wX cI cZ cL q ph pa ch en sz pr gc gb sc sh sl ct tok wt pn lt wp sd) s.heap.size = A at hD ⊢
  have hA : ∀ q : Nat, s.heap.size ≤ q → A q := fun q h => by rw [← hAe]; exact Or.inr h
  clear hAe hD0
  have hS : va_S A s.heap s.heap [] := va_S.rf
  have hl := lv_entry ([.ref (q 9), .int (nI ss), .int ho, .int le]) (n := 4) (Nat.le_of_ble_eq_true rfl)
  rw [lg_entry_eq]
  generalize (lg_sl ([.ref (q 9), .int (nI ss), .int ho, .int le]) ++ List.replicate (4 - (lg_sl ([.ref (q 9), .int (nI ss), .int ho, .int le])).length) Slot.unset).toArray = ls at hl ⊢
  have hl : lv_has ls 4 [(0, .ref (q 9)), (1, .int (nI ss)), (2, .int ho), (3, .int le)] := hl
  refine lv_aload_n hx hb dS_setTopology_0 rfl (lv_at hl 0 rfl) ?_
  refine va_get (D := (dC, dI)) (ci := 3) (v := .ref (q 11)) (C := RS) (T := TS) (N := 4) hx hb ht inS hown hK hP 9 rfl rfl 1 (by decide) (ht _ m_68) (fun _ h9 => h9) rfl dS_setTopology_1 ?_
  refine lv_iload_n hx hb dS_setTopology_4 rfl (lv_at hl 1 rfl) ?_
  refine lv_iload_n hx hb dS_setTopology_5 rfl (lv_at hl 2 rfl) ?_
  refine wt_iast hx hb hK hP hD hS 11 0 rfl rfl (k := ss) (by omega) (by decide) dS_setTopology_6 (fun H locs hP hD hS => ?_)
  have hP : va_P (dC, dI) vwCl (wX cI cZ cL q ph pa ch en sz pr gc gb sc (upd sh ss ho) sl ct tok wt pn lt wp sd) H := hP
  have hD : va_D A (wX cI cZ cL q ph pa ch en sz pr gc gb sc (upd sh ss ho) sl ct tok wt pn lt wp sd) := hD
  refine lv_aload_n hx hb dS_setTopology_7 rfl (lv_at hl 0 rfl) ?_
  refine va_get (D := (dC, dI)) (ci := 3) (v := .ref (q 12)) (C := RS) (T := TS) (N := 4) hx hb ht inS hown hK hP 9 rfl rfl 2 (by decide) (ht _ m_69) (fun _ h9 => h9) rfl dS_setTopology_8 ?_
  refine lv_iload_n hx hb dS_setTopology_11 rfl (lv_at hl 1 rfl) ?_
  refine lv_iload_n hx hb dS_setTopology_12 rfl (lv_at hl 3 rfl) ?_
  refine wt_iast hx hb hK hP hD hS 12 0 rfl rfl (k := ss) (by omega) (by decide) dS_setTopology_13 (fun H locs hP hD hS => ?_)
  have hP : va_P (dC, dI) vwCl (wX cI cZ cL q ph pa ch en sz pr gc gb sc (upd sh ss ho) (upd sl ss le) ct tok wt pn lt wp sd) H := hP
  have hD : va_D A (wX cI cZ cL q ph pa ch en sz pr gc gb sc (upd sh ss ho) (upd sl ss le) ct tok wt pn lt wp sd) := hD
  have hP9 : va_P (dC, dI) vwCl (wX cI cZ cL q ph pa ch en sz pr gc gb sc (upd sh ss ho) (upd sl ss le) ct tok wt pn lt wp sd) H := by exact hP
  have hD9 : va_D A (wX cI cZ cL q ph pa ch en sz pr gc gb sc (upd sh ss ho) (upd sl ss le) ct tok wt pn lt wp sd) := by exact hD
  exact W.vret hx hb hr (fun t ht hW => ⟨⟨(), rfl, trivial, by rw [ht]; exact hP9, hD9⟩, hS.F ht⟩) hS.2.2 dS_setTopology_14

set_option maxHeartbeats 4000000 in
set_option maxRecDepth 100000 in
theorem c_S_holdOf (l : Launch) (dC : Nat → ClassId) (dI : Nat → Nat → Nat) (cI cZ cL : ClassId) (q : Nat → Nat) (ph : Nat → Nat) (pa : Nat → Nat) (ch : Nat → Nat) (en : Nat → Bool) (sz : Nat) (pr : Nat) (gc : Nat → Int32) (gb : Nat → Int32) (sc : Nat → Int32) (sh : Nat → Int32) (sl : Nat → Int32) (ct : Nat) (tok : Nat → Int64) (wt : Nat → Int64) (pn : Nat → Nat) (lt : Nat → Int64) (wp : Int64) (sd : Bool) (ss : Nat) (hss : ss < 3) : Met l yS_holdOf (Cond.code yS_holdOf cS_holdOf 2 (some .int) :: tb) ({ frames := 0, cells := 0, slots := 0, locals := 0 }) (va_Pc [.ref (q 9), .int (nI ss)] (wt_ro (dC, dI) vwCl [(cI, .int), (cZ, .boolean), (cL, .long)] (wX cI cZ cL q ph pa ch en sz pr gc gb sc sh sl ct tok wt pn lt wp sd))) (vp_Si (fun r => r = (sh ss))) 0 0 (fun _ => False) := by
  refine Met.ofW (cc := cS_holdOf) (maxL := 2) (ret := (some .int)) (by decide) rfl ?_
  intro p e s m args below meth c s₁ B hml hv
  obtain ⟨rfl, hP, hK, hN⟩ := hv
  have hx := B.exec
  have hb := B.bytes
  have hr := B.returns
  have hts := atoms_spec (ws := (Cond.code yS_holdOf cS_holdOf 2 (some .int) :: tb)) B.pre
  have ht : ∀ w ∈ tb, w.before _ s = true := fun w h => hts w (List.mem_cons_of_mem _ h)
  have hown : s.vm.findClass RS = some m.cls := findClass_of_methodNamed B.named
  have hlocks := B.notSynchronized
  have hl := lv_entry ([.ref (q 9), .int (nI ss)]) (n := 2) (Nat.le_of_ble_eq_true rfl)
  rw [lg_entry_eq]
  generalize (lg_sl ([.ref (q 9), .int (nI ss)]) ++ List.replicate (2 - (lg_sl ([.ref (q 9), .int (nI ss)])).length) Slot.unset).toArray = ls at hl ⊢
  have hl : lv_has ls 2 [(0, .ref (q 9)), (1, .int (nI ss))] := hl
  refine lv_aload_n hx hb dS_holdOf_0 rfl (lv_at hl 0 rfl) ?_
  refine va_get (D := (dC, dI)) (ci := 3) (v := .ref (q 11)) (C := RS) (T := TS) (N := 4) hx hb ht inS hown hK hP 9 rfl rfl 1 (by decide) (ht _ m_68) (fun _ h9 => h9) rfl dS_holdOf_1 ?_
  refine lv_iload_n hx hb dS_holdOf_4 rfl (lv_at hl 1 rfl) ?_
  refine wt_iald hx hb hK hP 11 0 rfl rfl (k := ss) (by omega) (by decide) dS_holdOf_5 ?_
  exact W.iret (v := sh ss) hx hb hr (fun t ht hW => ⟨_, rfl, rfl, ht⟩) (fun q h => by cases h) dS_holdOf_6

set_option maxHeartbeats 4000000 in
set_option maxRecDepth 100000 in
theorem c_S_leaveOf (l : Launch) (dC : Nat → ClassId) (dI : Nat → Nat → Nat) (cI cZ cL : ClassId) (q : Nat → Nat) (ph : Nat → Nat) (pa : Nat → Nat) (ch : Nat → Nat) (en : Nat → Bool) (sz : Nat) (pr : Nat) (gc : Nat → Int32) (gb : Nat → Int32) (sc : Nat → Int32) (sh : Nat → Int32) (sl : Nat → Int32) (ct : Nat) (tok : Nat → Int64) (wt : Nat → Int64) (pn : Nat → Nat) (lt : Nat → Int64) (wp : Int64) (sd : Bool) (ss : Nat) (hss : ss < 3) : Met l yS_leaveOf (Cond.code yS_leaveOf cS_leaveOf 2 (some .int) :: tb) ({ frames := 0, cells := 0, slots := 0, locals := 0 }) (va_Pc [.ref (q 9), .int (nI ss)] (wt_ro (dC, dI) vwCl [(cI, .int), (cZ, .boolean), (cL, .long)] (wX cI cZ cL q ph pa ch en sz pr gc gb sc sh sl ct tok wt pn lt wp sd))) (vp_Si (fun r => r = (sl ss))) 0 0 (fun _ => False) := by
  refine Met.ofW (cc := cS_leaveOf) (maxL := 2) (ret := (some .int)) (by decide) rfl ?_
  intro p e s m args below meth c s₁ B hml hv
  obtain ⟨rfl, hP, hK, hN⟩ := hv
  have hx := B.exec
  have hb := B.bytes
  have hr := B.returns
  have hts := atoms_spec (ws := (Cond.code yS_leaveOf cS_leaveOf 2 (some .int) :: tb)) B.pre
  have ht : ∀ w ∈ tb, w.before _ s = true := fun w h => hts w (List.mem_cons_of_mem _ h)
  have hown : s.vm.findClass RS = some m.cls := findClass_of_methodNamed B.named
  have hlocks := B.notSynchronized
  have hl := lv_entry ([.ref (q 9), .int (nI ss)]) (n := 2) (Nat.le_of_ble_eq_true rfl)
  rw [lg_entry_eq]
  generalize (lg_sl ([.ref (q 9), .int (nI ss)]) ++ List.replicate (2 - (lg_sl ([.ref (q 9), .int (nI ss)])).length) Slot.unset).toArray = ls at hl ⊢
  have hl : lv_has ls 2 [(0, .ref (q 9)), (1, .int (nI ss))] := hl
  refine lv_aload_n hx hb dS_leaveOf_0 rfl (lv_at hl 0 rfl) ?_
  refine va_get (D := (dC, dI)) (ci := 3) (v := .ref (q 12)) (C := RS) (T := TS) (N := 4) hx hb ht inS hown hK hP 9 rfl rfl 2 (by decide) (ht _ m_69) (fun _ h9 => h9) rfl dS_leaveOf_1 ?_
  refine lv_iload_n hx hb dS_leaveOf_4 rfl (lv_at hl 1 rfl) ?_
  refine wt_iald hx hb hK hP 12 0 rfl rfl (k := ss) (by omega) (by decide) dS_leaveOf_5 ?_
  exact W.iret (v := sl ss) hx hb hr (fun t ht hW => ⟨_, rfl, rfl, ht⟩) (fun q h => by cases h) dS_leaveOf_6
