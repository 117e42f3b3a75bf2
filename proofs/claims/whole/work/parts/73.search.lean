set_option maxHeartbeats 4000000 in
set_option maxRecDepth 100000 in
theorem c_Q_placesAfter (l : Launch) (dC : Nat → ClassId) (dI : Nat → Nat → Nat) (cI cZ cL : ClassId) (q : Nat → Nat) (ph : Nat → Nat) (pa : Nat → Nat) (ch : Nat → Nat) (en : Nat → Bool) (sz : Nat) (pr : Nat) (gc : Nat → Int32) (gb : Nat → Int32) (sc : Nat → Int32) (sh : Nat → Int32) (sl : Nat → Int32) (ct : Nat) (tok : Nat → Int64) (wt : Nat → Int64) (pn : Nat → Nat) (lt : Nat → Int64) (wp : Int64) (sd : Bool) (nn : Nat) (hnn : nn < 16) : Met l yQ_placesAfter (Cond.code yQ_placesAfter cQ_placesAfter 2 (some .int) :: tb) ({ frames := 0, cells := 0, slots := 0, locals := 0 }) (va_Pc [.ref (q 13), .int (nI nn)] (wt_ro (dC, dI) vwCl [(cI, .int), (cZ, .boolean), (cL, .long)] (wX cI cZ cL q ph pa ch en sz pr gc gb sc sh sl ct tok wt pn lt wp sd))) (vp_Si (fun r => r = (nI (pn nn)))) 0 0 (fun _ => False) := by
  refine Met.ofW (cc := cQ_placesAfter) (maxL := 2) (ret := (some .int)) (by decide) rfl ?_
  intro p e s m args below meth c s₁ B hml hv
  obtain ⟨rfl, hP, hK, hN⟩ := hv
  have hx := B.exec
  have hb := B.bytes
  have hr := B.returns
  have hts := atoms_spec (ws := (Cond.code yQ_placesAfter cQ_placesAfter 2 (some .int) :: tb)) B.pre
  have ht : ∀ w ∈ tb, w.before _ s = true := fun w h => hts w (List.mem_cons_of_mem _ h)
  have hown : s.vm.findClass RQ = some m.cls := findClass_of_methodNamed B.named
  have hlocks := B.notSynchronized
  have hl := lv_entry ([.ref (q 13), .int (nI nn)]) (n := 2) (Nat.le_of_ble_eq_true rfl)
  rw [lg_entry_eq]
  generalize (lg_sl ([.ref (q 13), .int (nI nn)]) ++ List.replicate (2 - (lg_sl ([.ref (q 13), .int (nI nn)])).length) Slot.unset).toArray = ls at hl ⊢
  have hl : lv_has ls 2 [(0, .ref (q 13)), (1, .int (nI nn))] := hl
  refine lv_aload_n hx hb dQ_placesAfter_0 rfl (lv_at hl 0 rfl) ?_
  refine va_get (D := (dC, dI)) (ci := 4) (v := .ref (q 16)) (C := RQ) (T := TQ) (N := 8) hx hb ht inQ hown hK hP 13 rfl rfl 5 (by decide) (ht _ m_92) (fun _ h9 => h9) rfl dQ_placesAfter_1 ?_
  refine lv_iload_n hx hb dQ_placesAfter_4 rfl (lv_at hl 1 rfl) ?_
  refine wt_ialdN hx hb hK hP 16 0 rfl rfl (k := nn) (by omega) (by decide) dQ_placesAfter_5 ?_
  exact W.iret (v := nI (pn nn)) hx hb hr (fun t ht hW => ⟨_, rfl, rfl, ht⟩) (fun q h => by cases h) dQ_placesAfter_6

set_option maxHeartbeats 4000000 in
set_option maxRecDepth 100000 in
theorem c_Q_leastAfter (l : Launch) (dC : Nat → ClassId) (dI : Nat → Nat → Nat) (cI cZ cL : ClassId) (q : Nat → Nat) (ph : Nat → Nat) (pa : Nat → Nat) (ch : Nat → Nat) (en : Nat → Bool) (sz : Nat) (pr : Nat) (gc : Nat → Int32) (gb : Nat → Int32) (sc : Nat → Int32) (sh : Nat → Int32) (sl : Nat → Int32) (ct : Nat) (tok : Nat → Int64) (wt : Nat → Int64) (pn : Nat → Nat) (lt : Nat → Int64) (wp : Int64) (sd : Bool) (nn : Nat) (hnn : nn < 16) : Met l yQ_leastAfter (Cond.code yQ_leastAfter cQ_leastAfter 2 (some .long) :: tb) ({ frames := 0, cells := 0, slots := 0, locals := 0 }) (va_Pc [.ref (q 13), .int (nI nn)] (wt_ro (dC, dI) vwCl [(cI, .int), (cZ, .boolean), (cL, .long)] (wX cI cZ cL q ph pa ch en sz pr gc gb sc sh sl ct tok wt pn lt wp sd))) (vp_Sl (fun r => r = (lt nn))) 0 0 (fun _ => False) := by
  refine Met.ofW (cc := cQ_leastAfter) (maxL := 2) (ret := (some .long)) (by decide) rfl ?_
  intro p e s m args below meth c s₁ B hml hv
  obtain ⟨rfl, hP, hK, hN⟩ := hv
  have hx := B.exec
  have hb := B.bytes
  have hr := B.returns
  have hts := atoms_spec (ws := (Cond.code yQ_leastAfter cQ_leastAfter 2 (some .long) :: tb)) B.pre
  have ht : ∀ w ∈ tb, w.before _ s = true := fun w h => hts w (List.mem_cons_of_mem _ h)
  have hown : s.vm.findClass RQ = some m.cls := findClass_of_methodNamed B.named
  have hlocks := B.notSynchronized
  have hl := lv_entry ([.ref (q 13), .int (nI nn)]) (n := 2) (Nat.le_of_ble_eq_true rfl)
  rw [lg_entry_eq]
  generalize (lg_sl ([.ref (q 13), .int (nI nn)]) ++ List.replicate (2 - (lg_sl ([.ref (q 13), .int (nI nn)])).length) Slot.unset).toArray = ls at hl ⊢
  have hl : lv_has ls 2 [(0, .ref (q 13)), (1, .int (nI nn))] := hl
  refine lv_aload_n hx hb dQ_leastAfter_0 rfl (lv_at hl 0 rfl) ?_
  refine va_get (D := (dC, dI)) (ci := 4) (v := .ref (q 17)) (C := RQ) (T := TQ) (N := 8) hx hb ht inQ hown hK hP 13 rfl rfl 6 (by decide) (ht _ m_93) (fun _ h9 => h9) rfl dQ_leastAfter_1 ?_
  refine lv_iload_n hx hb dQ_leastAfter_4 rfl (lv_at hl 1 rfl) ?_
  refine wt_lald hx hb hK hP 17 2 rfl rfl (k := nn) (by omega) (by decide) dQ_leastAfter_5 ?_
  exact W.lret (v := lt nn) hx hb hr (fun t ht hW => ⟨_, rfl, rfl, ht⟩) (fun q h => by cases h) dQ_leastAfter_6

set_option maxHeartbeats 4000000 in
set_option maxRecDepth 100000 in
theorem c_Q_wholePath (l : Launch) (dC : Nat → ClassId) (dI : Nat → Nat → Nat) (cI cZ cL : ClassId) (q : Nat → Nat) (ph : Nat → Nat) (pa : Nat → Nat) (ch : Nat → Nat) (en : Nat → Bool) (sz : Nat) (pr : Nat) (gc : Nat → Int32) (gb : Nat → Int32) (sc : Nat → Int32) (sh : Nat → Int32) (sl : Nat → Int32) (ct : Nat) (tok : Nat → Int64) (wt : Nat → Int64) (pn : Nat → Nat) (lt : Nat → Int64) (wp : Int64) (sd : Bool) : Met l yQ_wholePath (Cond.code yQ_wholePath cQ_wholePath 1 (some .long) :: tb) ({ frames := 0, cells := 0, slots := 0, locals := 0 }) (va_Pc [.ref (q 13)] (wt_ro (dC, dI) vwCl [(cI, .int), (cZ, .boolean), (cL, .long)] (wX cI cZ cL q ph pa ch en sz pr gc gb sc sh sl ct tok wt pn lt wp sd))) (vp_Sl (fun r => r = wp)) 0 0 (fun _ => False) := by
  refine Met.ofW (cc := cQ_wholePath) (maxL := 1) (ret := (some .long)) (by decide) rfl ?_
  intro p e s m args below meth c s₁ B hml hv
  obtain ⟨rfl, hP, hK, hN⟩ := hv
  have hx := B.exec
  have hb := B.bytes
  have hr := B.returns
  have hts := atoms_spec (ws := (Cond.code yQ_wholePath cQ_wholePath 1 (some .long) :: tb)) B.pre
  have ht : ∀ w ∈ tb, w.before _ s = true := fun w h => hts w (List.mem_cons_of_mem _ h)
  have hown : s.vm.findClass RQ = some m.cls := findClass_of_methodNamed B.named
  have hlocks := B.notSynchronized
  have hl := lv_entry ([.ref (q 13)]) (n := 1) (Nat.le_of_ble_eq_true rfl)
  rw [lg_entry_eq]
  generalize (lg_sl ([.ref (q 13)]) ++ List.replicate (1 - (lg_sl ([.ref (q 13)])).length) Slot.unset).toArray = ls at hl ⊢
  have hl : lv_has ls 1 [(0, .ref (q 13))] := hl
  refine lv_aload_n hx hb dQ_wholePath_0 rfl (lv_at hl 0 rfl) ?_
  refine va_get (D := (dC, dI)) (ci := 4) (v := .long wp) (C := RQ) (T := TQ) (N := 8) hx hb ht inQ hown hK hP 13 rfl rfl 7 (by decide) (ht _ m_94) (fun _ h9 => h9) rfl dQ_wholePath_1 ?_
  exact W.lret (v := wp) hx hb hr (fun t ht hW => ⟨_, rfl, rfl, ht⟩) (fun q h => by cases h) dQ_wholePath_4

set_option maxHeartbeats 4000000 in
set_option maxRecDepth 100000 in
theorem c_Q_leaving (l : Launch) (dC : Nat → ClassId) (dI : Nat → Nat → Nat) (cI cZ cL : ClassId) (q : Nat → Nat) (ph : Nat → Nat) (pa : Nat → Nat) (ch : Nat → Nat) (en : Nat → Bool) (sz : Nat) (pr : Nat) (gc : Nat → Int32) (gb : Nat → Int32) (sc : Nat → Int32) (sh : Nat → Int32) (sl : Nat → Int32) (ct : Nat) (tok : Nat → Int64) (wt : Nat → Int64) (pn : Nat → Nat) (lt : Nat → Int64) (wp : Int64) (sd : Bool) (cx : Nat) (nd : Nat) (ss : Nat) (hcx : cx < 25) (hnd : nd < 25) (hss : ss < 3) : Met l yQ_leaving (Cond.code yQ_leaving cQ_leaving 4 (some .long) :: tb) ({ frames := 1, cells := 0, slots := 0, locals := 22 }) (va_Pc [.ref (q 13), .int (nI cx), .int (nI nd), .int (nI ss)] (wt_ro (dC, dI) vwCl [(cI, .int), (cZ, .boolean), (cL, .long)] (wX cI cZ cL q ph pa ch en sz pr gc gb sc sh sl ct tok wt pn lt wp sd))) (vp_Sl (fun r => r = (wt_lv sl tok cx nd ss))) 0 0 (fun _ => False) := by
  refine Met.ofW (cc := cQ_leaving) (maxL := 4) (ret := (some .long)) (by decide) rfl ?_
  intro p e s m args below meth c s₁ B hml hv
  obtain ⟨rfl, hP, hK, hN⟩ := hv
  have hx := B.exec
  have hb := B.bytes
  have hr := B.returns
  have hts := atoms_spec (ws := (Cond.code yQ_leaving cQ_leaving 4 (some .long) :: tb)) B.pre
  have ht : ∀ w ∈ tb, w.before _ s = true := fun w h => hts w (List.mem_cons_of_mem _ h)
  have hown : s.vm.findClass RQ = some m.cls := findClass_of_methodNamed B.named
  have hlocks := B.notSynchronized
  have hl := lv_entry ([.ref (q 13), .int (nI cx), .int (nI nd), .int (nI ss)]) (n := 4) (Nat.le_of_ble_eq_true rfl)
  rw [lg_entry_eq]
  generalize (lg_sl ([.ref (q 13), .int (nI cx), .int (nI nd), .int (nI ss)]) ++ List.replicate (4 - (lg_sl ([.ref (q 13), .int (nI cx), .int (nI nd), .int (nI ss)])).length) Slot.unset).toArray = ls at hl ⊢
  have hl : lv_has ls 4 [(0, .ref (q 13)), (1, .int (nI cx)), (2, .int (nI nd)), (3, .int (nI ss))] := hl
  refine lv_aload_n hx hb dQ_leaving_0 rfl (lv_at hl 0 rfl) ?_
  refine va_get (D := (dC, dI)) (ci := 4) (v := .ref (q 14)) (C := RQ) (T := TQ) (N := 8) hx hb ht inQ hown hK hP 13 rfl rfl 3 (by decide) (ht _ m_90) (fun _ h9 => h9) rfl dQ_leaving_1 ?_
  refine lv_iload_n hx hb dQ_leaving_4 rfl (lv_at hl 1 rfl) ?_
  refine lv_iload_n hx hb dQ_leaving_5 rfl (lv_at hl 2 rfl) ?_
  refine lv_iload_n hx hb dQ_leaving_6 rfl (lv_at hl 3 rfl) ?_
  refine wt_roi (va_runS (As := [.int (nI cx), .int (nI nd), .int (nI ss)]) (rest := [.ref (q 14)]) ⟨hx, hb, hml, hown, ht⟩ (c_Q_place l dC dI cI cZ cL cx nd ss) (va_cwS 3 ht (good_S m_287 m_288 m_6 m_289) rfl rfl rfl (by decide +kernel) ⟨Nat.le_of_ble_eq_true rfl, Nat.le_of_ble_eq_true rfl⟩) (wt_preS hK hN (hP.sub [] rfl)) rfl rfl hl.1 rfl (lv_room (Nat.le_of_ble_eq_true rfl)) dQ_leaving_7 ⟨Nat.le_of_ble_eq_true rfl, Nat.le_of_ble_eq_true rfl⟩) ?_
  refine wt_lald hx hb hK hP 14 2 rfl rfl (k := wt_pl cx nd ss) (wt_pl_lt (by omega) (by omega) (by omega)) (by decide) dQ_leaving_10 ?_
  refine lv_aload_n hx hb dQ_leaving_11 rfl (lv_at hl 0 rfl) ?_
  refine va_get (D := (dC, dI)) (ci := 4) (v := .ref (q 9)) (C := RQ) (T := TQ) (N := 8) hx hb ht inQ hown hK hP 13 rfl rfl 2 (by decide) (ht _ m_89) (fun _ h9 => h9) rfl dQ_leaving_12 ?_
  refine lv_iload_n hx hb dQ_leaving_15 rfl (lv_at hl 3 rfl) ?_
  refine wt_roi (va_runV (As := [.int (nI ss)]) (rest := [.long (tok (wt_pl cx nd ss))]) ⟨hx, hb, hml, hown, ht⟩ (c_S_leaveOf l dC dI cI cZ cL q ph pa ch en sz pr gc gb sc sh sl ct tok wt pn lt wp sd ss hss) (cwV 1 ht (good_V m_306 m_307 m_308 m_5 m_309) rfl rfl rfl (by decide +kernel) ⟨Nat.le_of_ble_eq_true rfl, Nat.le_of_ble_eq_true rfl⟩) (wt_preV hK hN hP (va_recv hK hP (ci := 3) (q0 := 9) rfl rfl)) rfl rfl hl.1 rfl (lv_room (Nat.le_of_ble_eq_true rfl)) dQ_leaving_16 ⟨Nat.le_of_ble_eq_true rfl, Nat.le_of_ble_eq_true rfl⟩) ?_
  refine wt_rol (va_runS (As := [.long (tok (wt_pl cx nd ss)), .int (sl ss)]) (rest := []) ⟨hx, hb, hml, hown, ht⟩ (c_K_plusCost l dC dI cI cZ cL (tok (wt_pl cx nd ss)) (sl ss)) (va_cwS 2 ht (good_S m_294 m_295 m_8 m_296) rfl rfl rfl (by decide +kernel) ⟨Nat.le_of_ble_eq_true rfl, Nat.le_of_ble_eq_true rfl⟩) (wt_preS hK hN (hP.sub [] rfl)) rfl rfl hl.1 rfl (lv_room (Nat.le_of_ble_eq_true rfl)) dQ_leaving_19 ⟨Nat.le_of_ble_eq_true rfl, Nat.le_of_ble_eq_true rfl⟩) ?_
  exact W.lret (v := wt_pc (tok (wt_pl cx nd ss)) (sl ss)) hx hb hr (fun t ht hW => ⟨_, rfl, rfl, ht⟩) (fun q h => by cases h) dQ_leaving_22

set_option maxHeartbeats 4000000 in
set_option maxRecDepth 100000 in
theorem c_Q_coming (l : Launch) (dC : Nat → ClassId) (dI : Nat → Nat → Nat) (cI cZ cL : ClassId) (q : Nat → Nat) (ph : Nat → Nat) (pa : Nat → Nat) (ch : Nat → Nat) (en : Nat → Bool) (sz : Nat) (pr : Nat) (gc : Nat → Int32) (gb : Nat → Int32) (sc : Nat → Int32) (sh : Nat → Int32) (sl : Nat → Int32) (ct : Nat) (tok : Nat → Int64) (wt : Nat → Int64) (pn : Nat → Nat) (lt : Nat → Int64) (wp : Int64) (sd : Bool) (cx : Nat) (nd : Nat) (ss : Nat) (hcx : cx < 25) (hnd : nd < 25) (hss : ss < 3) (hpa : ∀ n, pa n < 25) : Met l yQ_coming (Cond.code yQ_coming cQ_coming 5 (some .long) :: tb) ({ frames := 2, cells := 0, slots := 0, locals := 45 }) (va_Pc [.ref (q 13), .int (nI cx), .int (nI nd), .int (nI ss)] (wt_ro (dC, dI) vwCl [(cI, .int), (cZ, .boolean), (cL, .long)] (wX cI cZ cL q ph pa ch en sz pr gc gb sc sh sl ct tok wt pn lt wp sd))) (vp_Sl (fun r => r = (wt_cm pa sl tok wt cx nd ss))) 0 0 (fun _ => False) := by
  refine Met.ofW (cc := cQ_coming) (maxL := 5) (ret := (some .long)) (by decide) rfl ?_
  intro p e s m args below meth c s₁ B hml hv
  obtain ⟨rfl, hP, hK, hN⟩ := hv
  have hx := B.exec
  have hb := B.bytes
  have hr := B.returns
  have hts := atoms_spec (ws := (Cond.code yQ_coming cQ_coming 5 (some .long) :: tb)) B.pre
  have ht : ∀ w ∈ tb, w.before _ s = true := fun w h => hts w (List.mem_cons_of_mem _ h)
  have hown : s.vm.findClass RQ = some m.cls := findClass_of_methodNamed B.named
  have hlocks := B.notSynchronized
  have hl := lv_entry ([.ref (q 13), .int (nI cx), .int (nI nd), .int (nI ss)]) (n := 5) (Nat.le_of_ble_eq_true rfl)
  rw [lg_entry_eq]
  generalize (lg_sl ([.ref (q 13), .int (nI cx), .int (nI nd), .int (nI ss)]) ++ List.replicate (5 - (lg_sl ([.ref (q 13), .int (nI cx), .int (nI nd), .int (nI ss)])).length) Slot.unset).toArray = ls at hl ⊢
  have hl : lv_has ls 5 [(0, .ref (q 13)), (1, .int (nI cx)), (2, .int (nI nd)), (3, .int (nI ss))] := hl
  refine lv_iload_n hx hb dQ_coming_0 rfl (lv_at hl 3 rfl) ?_
  refine wt_if_le (tgt := 14) hx hb dQ_coming_1 (by decide) (by first | omega | (have := hpa nd; omega)) (fun c_1 => ?_) (fun c_1 => ?_)
  · skip
    refine lv_aload_n hx hb dQ_coming_14 rfl (lv_at hl 0 rfl) ?_
    refine va_get (D := (dC, dI)) (ci := 4) (v := .ref (q 1)) (C := RQ) (T := TQ) (N := 8) hx hb ht inQ hown hK hP 13 rfl rfl 0 (by decide) (ht _ m_87) (fun _ h9 => h9) rfl dQ_coming_15 ?_
    refine lv_iload_n hx hb dQ_coming_18 rfl (lv_at hl 2 rfl) ?_
    refine wt_roi (va_runV (As := [.int (nI nd)]) (rest := []) ⟨hx, hb, hml, hown, ht⟩ (c_T_parentOf l dC dI cI cZ cL q ph pa ch en sz pr gc gb sc sh sl ct tok wt pn lt wp sd nd hnd) (cwV 1 ht (good_V m_310 m_311 m_312 m_2 m_313) rfl rfl rfl (by decide +kernel) ⟨Nat.le_of_ble_eq_true rfl, Nat.le_of_ble_eq_true rfl⟩) (wt_preV hK hN hP (va_recv hK hP (ci := 1) (q0 := 1) rfl rfl)) rfl rfl hl.1 rfl (lv_room (Nat.le_of_ble_eq_true rfl)) dQ_coming_19 ⟨Nat.le_of_ble_eq_true rfl, Nat.le_of_ble_eq_true rfl⟩) ?_
    refine lv_istore (lv' := [(4, .int (nI (pa nd))), (0, .ref (q 13)), (1, .int (nI cx)), (2, .int (nI nd)), (3, .int (nI ss))]) hx hb dQ_coming_22 hl (by decide) rfl (fun ls hl => ?_)
    refine lv_iload hx hb dQ_coming_24 (lv_at hl 0 rfl) ?_
    refine wt_if_ne (tgt := 38) hx hb dQ_coming_26 (by decide) (by first | omega | (have := hpa nd; omega)) (fun c_2 => ?_) (fun c_2 => ?_)
    · skip
      refine lv_aload_n hx hb dQ_coming_38 rfl (lv_at hl 1 rfl) ?_
      refine lv_iload_n hx hb dQ_coming_39 rfl (lv_at hl 2 rfl) ?_
      refine lv_iload hx hb dQ_coming_40 (lv_at hl 0 rfl) ?_
      refine lv_iconst (v := nI 2) hx hb dQ_coming_42 (by decide) ?_
      refine wt_rol (va_runV (As := [.int (nI cx), .int (nI (pa nd)), .int (nI 2)]) (rest := []) ⟨hx, hb, hml, hown, ht⟩ (c_Q_leaving l dC dI cI cZ cL q ph pa ch en sz pr gc gb sc sh sl ct tok wt pn lt wp sd cx (pa nd) 2 hcx (hpa nd) (by omega)) (cwV 3 ht (good_V m_302 m_304 ms_6 m_6 m_305) rfl rfl rfl (by decide +kernel) ⟨Nat.le_of_ble_eq_true rfl, Nat.le_of_ble_eq_true rfl⟩) (wt_preV hK hN hP (va_recv hK hP (ci := 4) (q0 := 13) rfl rfl)) rfl rfl hl.1 rfl (lv_room (Nat.le_of_ble_eq_true rfl)) dQ_coming_43 ⟨Nat.le_of_ble_eq_true rfl, Nat.le_of_ble_eq_true rfl⟩) ?_
      exact W.lret (v := wt_lv sl tok cx (pa nd) 2) hx hb hr (fun t ht hW => ⟨_, rfl, (by unfold wt_cm; first | rw [if_neg (show ¬ 0 < ss by omega), if_pos c_2] | rw [if_neg (show ¬ 0 < ss by omega), if_neg (show ¬ pa nd = 0 by omega)]), ht⟩) (fun q h => by cases h) dQ_coming_46
    · skip
      refine lv_aload_n hx hb dQ_coming_29 rfl (lv_at hl 1 rfl) ?_
      refine va_get (D := (dC, dI)) (ci := 4) (v := .ref (q 15)) (C := RQ) (T := TQ) (N := 8) hx hb ht inQ hown hK hP 13 rfl rfl 4 (by decide) (ht _ m_91) (fun _ h9 => h9) rfl dQ_coming_30 ?_
      refine lv_iload_n hx hb dQ_coming_33 rfl (lv_at hl 2 rfl) ?_
      refine wt_lald hx hb hK hP 15 2 rfl rfl (k := cx) (by first | omega | (have := hpa nd; omega)) (by decide) dQ_coming_34 ?_
      refine lv_goto (tgt := 46) hx hb dQ_coming_35 (by decide) ?_
      exact W.lret (v := wt cx) hx hb hr (fun t ht hW => ⟨_, rfl, (by unfold wt_cm; first | rw [if_neg (show ¬ 0 < ss by omega), if_pos c_2] | rw [if_neg (show ¬ 0 < ss by omega), if_neg (show ¬ pa nd = 0 by omega)]), ht⟩) (fun q h => by cases h) dQ_coming_46
  · skip
    refine lv_aload_n hx hb dQ_coming_4 rfl (lv_at hl 0 rfl) ?_
    refine lv_iload_n hx hb dQ_coming_5 rfl (lv_at hl 1 rfl) ?_
    refine lv_iload_n hx hb dQ_coming_6 rfl (lv_at hl 2 rfl) ?_
    refine lv_iload_n hx hb dQ_coming_7 rfl (lv_at hl 3 rfl) ?_
    refine lv_iconst (v := nI 1) hx hb dQ_coming_8 (by decide) ?_
    refine wt_isub hx hb dQ_coming_9 (by first | omega | (have := hpa nd; omega)) ?_
    refine wt_rol (va_runV (As := [.int (nI cx), .int (nI nd), .int (nI (ss - 1))]) (rest := []) ⟨hx, hb, hml, hown, ht⟩ (c_Q_leaving l dC dI cI cZ cL q ph pa ch en sz pr gc gb sc sh sl ct tok wt pn lt wp sd cx nd (ss - 1) hcx hnd (by omega)) (cwV 3 ht (good_V m_302 m_304 ms_6 m_6 m_305) rfl rfl rfl (by decide +kernel) ⟨Nat.le_of_ble_eq_true rfl, Nat.le_of_ble_eq_true rfl⟩) (wt_preV hK hN hP (va_recv hK hP (ci := 4) (q0 := 13) rfl rfl)) rfl rfl hl.1 rfl (lv_room (Nat.le_of_ble_eq_true rfl)) dQ_coming_10 ⟨Nat.le_of_ble_eq_true rfl, Nat.le_of_ble_eq_true rfl⟩) ?_
    exact W.lret (v := wt_lv sl tok cx nd (ss - 1)) hx hb hr (fun t ht hW => ⟨_, rfl, (by unfold wt_cm; rw [if_pos c_1]), ht⟩) (fun q h => by cases h) dQ_coming_13

set_option maxHeartbeats 4000000 in
set_option maxRecDepth 100000 in
theorem c_Q_hear (l : Launch) (dC : Nat → ClassId) (dI : Nat → Nat → Nat) (cI cZ cL : ClassId) (q : Nat → Nat) (sz0 : Nat) (ph : Nat → Nat) (pa : Nat → Nat) (ch : Nat → Nat) (en : Nat → Bool) (sz : Nat) (pr : Nat) (gc : Nat → Int32) (gb : Nat → Int32) (sc : Nat → Int32) (sh : Nat → Int32) (sl : Nat → Int32) (ct : Nat) (tok : Nat → Int64) (wt : Nat → Int64) (pn : Nat → Nat) (lt : Nat → Int64) (wp : Int64) (sd : Bool) (tt : Nat) (cx : Nat) (htt : tt < 15) (hcx : cx < 25) (hph : ∀ n, ph n < 4) (hpa : ∀ n, pa n < 25) (hsz : sz ≤ 24) : Met l yQ_hear (Cond.code yQ_hear cQ_hear 10 none :: tb) ({ frames := 3, cells := 0, slots := 0, locals := 69 }) (va_Pc [.ref (q 13), .int (nI tt), .int (nI cx)] (wt_rw (dC, dI) vwCl [(cI, .int), (cZ, .boolean), (cL, .long)] (wX cI cZ cL q ph pa ch en sz pr gc gb sc sh sl ct tok wt pn lt wp sd) sz0)) (va_Qv (fun _ : Unit => True) (wt_B (dC, dI) vwCl (va_A (wX cI cZ cL q ph pa ch en sz pr gc gb sc sh sl ct tok wt pn lt wp sd) sz0) (wX cI cZ cL q ph pa ch en sz pr gc gb sc sh sl ct (wt_hear ph pa sz sc sh sl wt tt cx tok) wt pn lt wp sd)) (va_A (wX cI cZ cL q ph pa ch en sz pr gc gb sc sh sl ct tok wt pn lt wp sd) sz0)) 0 0 (va_A (wX cI cZ cL q ph pa ch en sz pr gc gb sc sh sl ct tok wt pn lt wp sd) sz0) := by
  refine Met.ofW (cc := cQ_hear) (maxL := 10) (ret := none) (by decide) rfl ?_
  intro p e s m args below meth c s₁ B hml hv
  obtain ⟨rfl, hsz, hP, hK, hN, hD0⟩ := hv
  have hx := B.exec
  have hb := B.bytes
  have hr := B.returns
  have hts := atoms_spec (ws := (Cond.code yQ_hear cQ_hear 10 none :: tb)) B.pre
  have ht : ∀ w ∈ tb, w.before _ s = true := fun w h => hts w (List.mem_cons_of_mem _ h)
  have hown : s.vm.findClass RQ = some m.cls := findClass_of_methodNamed B.named
  have hlocks := B.notSynchronized
  subst hsz
  have hD := hD0.self (sz := s.heap.size)
  generalize hAe : va_A (wX cI cZ cL q ph pa ch en sz pr gc gb sc sh sl ct tok wt pn lt wp sd) s.heap.size = A at hD ⊢
  have hA : ∀ q : Nat, s.heap.size ≤ q → A q := fun q h => by rw [← hAe]; exact Or.inr h
  clear hAe hD0
  have hS : va_S A s.heap s.heap [] := va_S.rf
  have hl := lv_entry ([.ref (q 13), .int (nI tt), .int (nI cx)]) (n := 10) (Nat.le_of_ble_eq_true rfl)
  rw [lg_entry_eq]
  generalize (lg_sl ([.ref (q 13), .int (nI tt), .int (nI cx)]) ++ List.replicate (10 - (lg_sl ([.ref (q 13), .int (nI tt), .int (nI cx)])).length) Slot.unset).toArray = ls at hl ⊢
  have hl : lv_has ls 10 [(0, .ref (q 13)), (1, .int (nI tt)), (2, .int (nI cx))] := hl
  refine lv_aload_n hx hb dQ_hear_0 rfl (lv_at hl 0 rfl) ?_
  refine va_get (D := (dC, dI)) (ci := 4) (v := .ref (q 1)) (C := RQ) (T := TQ) (N := 8) hx hb ht inQ hown hK hP 13 rfl rfl 0 (by decide) (ht _ m_87) (fun _ h9 => h9) rfl dQ_hear_1 ?_
  refine wt_roi (va_runV (As := []) (rest := []) ⟨hx, hb, hml, hown, ht⟩ (c_T_size l dC dI cI cZ cL q ph pa ch en sz pr gc gb sc sh sl ct tok wt pn lt wp sd) (cwV 0 ht (good_V m_286 m_167 m_168 m_2 m_169) rfl rfl rfl (by decide +kernel) ⟨Nat.le_of_ble_eq_true rfl, Nat.le_of_ble_eq_true rfl⟩) (wt_preV hK hN hP (va_recv hK hP (ci := 1) (q0 := 1) rfl rfl)) rfl rfl hl.1 rfl (lv_room (Nat.le_of_ble_eq_true rfl)) dQ_hear_4 ⟨Nat.le_of_ble_eq_true rfl, Nat.le_of_ble_eq_true rfl⟩) ?_
  refine lv_istore_n (lv' := [(3, .int (nI sz)), (0, .ref (q 13)), (1, .int (nI tt)), (2, .int (nI cx))]) hx hb dQ_hear_7 rfl hl (by decide) rfl (fun ls hl => ?_)
  have LP8 : ∀ (r : Nat) (tokx : Nat → Int64) (hrs : r ≤ sz) (hE : wt_dn (fun n f => wt_hn ph pa sc sh sl wt tt cx (n + 1) f) r tokx = wt_hear ph pa sz sc sh sl wt tt cx tok) (H : Heap) (locs : List Loc) (hP : va_P (dC, dI) vwCl (wX cI cZ cL q ph pa ch en sz pr gc gb sc sh sl ct tokx wt pn lt wp sd) H) (hD : va_D A (wX cI cZ cL q ph pa ch en sz pr gc gb sc sh sl ct tokx wt pn lt wp sd)) (hS : va_S A s.heap H locs) (ls : Array Slot) (hl : lv_has ls 10 [(0, .ref (q 13)), (1, .int (nI tt)), (2, .int (nI cx)), (3, .int (nI r))]), W p l e (headSpec (Cond.code yQ_hear cQ_hear 10 none :: tb) ({ frames := 3, cells := 0, slots := 0, locals := 69 })).room s m ([.ref (q 13), .int (nI tt), .int (nI cx)] : List Value).toArray below meth c H locs 0 0 (MQ below (va_Qv (fun _ : Unit => True) (wt_B (dC, dI) vwCl A (wX cI cZ cL q ph pa ch en sz pr gc gb sc sh sl ct (wt_hear ph pa sz sc sh sl wt tt cx tok) wt pn lt wp sd)) A) ([.ref (q 13), .int (nI tt), .int (nI cx)] : List Value).toArray s 0 0 A) (F0 m 8 ls []) := by
    intro r
    induction r with
    | zero =>
      intro tokx hrs hE H locs hP hD hS ls hl
      have hl : lv_has ls 10 [(0, .ref (q 13)), (1, .int (nI tt)), (2, .int (nI cx)), (3, .int (nI 0))] := hl
      refine lv_iload_n hx hb dQ_hear_8 rfl (lv_at hl 3 rfl) ?_
      refine wt_if_le (tgt := 107) hx hb dQ_hear_9 (by decide) (by omega) (fun c_1 => ?_) (fun c_1 => ?_)
      · skip
        have hP9 : va_P (dC, dI) vwCl (wX cI cZ cL q ph pa ch en sz pr gc gb sc sh sl ct (wt_hear ph pa sz sc sh sl wt tt cx tok) wt pn lt wp sd) H := by rw [show (wt_hear ph pa sz sc sh sl wt tt cx tok) = tokx from hE.symm]; exact hP
        have hD9 : va_D A (wX cI cZ cL q ph pa ch en sz pr gc gb sc sh sl ct (wt_hear ph pa sz sc sh sl wt tt cx tok) wt pn lt wp sd) := by rw [show (wt_hear ph pa sz sc sh sl wt tt cx tok) = tokx from hE.symm]; exact hD
        exact W.vret hx hb hr (fun t ht hW => ⟨⟨(), rfl, trivial, by rw [ht]; exact hP9, hD9⟩, hS.F ht⟩) hS.2.2 dQ_hear_107
      · exact absurd c_1 (by decide)
    | succ r ih8 =>
      intro tokx hrs hE H locs hP hD hS ls hl
      have hl : lv_has ls 10 [(0, .ref (q 13)), (1, .int (nI tt)), (2, .int (nI cx)), (3, .int (nI (r + 1)))] := hl
      refine lv_iload_n hx hb dQ_hear_8 rfl (lv_at hl 3 rfl) ?_
      refine wt_if_le (tgt := 107) hx hb dQ_hear_9 (by decide) (by omega) (fun c_2 => ?_) (fun c_2 => ?_)
      · first | exact absurd c_2 (by omega) | exact absurd c_2 (by decide) | exact absurd (by decide) c_2
      · skip
        refine lv_iconst (v := nI 2) hx hb dQ_hear_12 (by decide) ?_
        refine lv_istore (lv' := [(4, .int (nI 2)), (0, .ref (q 13)), (1, .int (nI tt)), (2, .int (nI cx)), (3, .int (nI (r + 1)))]) hx hb dQ_hear_13 hl (by decide) rfl (fun ls hl => ?_)
        have LP15 : ∀ (r2 : Nat) (toky : Nat → Int64) (hr2 : r2 ≤ 3) (hE2 : wt_dn (fun s f => wt_h1 ph pa sc sh sl wt tt cx (r + 1) s f) r2 toky = wt_hn ph pa sc sh sl wt tt cx (r + 1) tokx) (H : Heap) (locs : List Loc) (hP : va_P (dC, dI) vwCl (wX cI cZ cL q ph pa ch en sz pr gc gb sc sh sl ct toky wt pn lt wp sd) H) (hD : va_D A (wX cI cZ cL q ph pa ch en sz pr gc gb sc sh sl ct toky wt pn lt wp sd)) (hS : va_S A s.heap H locs) (ls : Array Slot) (hl : lv_has ls 10 [(0, .ref (q 13)), (1, .int (nI tt)), (2, .int (nI cx)), (3, .int (nI (r + 1))), (4, .int (wt_pd r2))]), W p l e (headSpec (Cond.code yQ_hear cQ_hear 10 none :: tb) ({ frames := 3, cells := 0, slots := 0, locals := 69 })).room s m ([.ref (q 13), .int (nI tt), .int (nI cx)] : List Value).toArray below meth c H locs 0 0 (MQ below (va_Qv (fun _ : Unit => True) (wt_B (dC, dI) vwCl A (wX cI cZ cL q ph pa ch en sz pr gc gb sc sh sl ct (wt_hear ph pa sz sc sh sl wt tt cx tok) wt pn lt wp sd)) A) ([.ref (q 13), .int (nI tt), .int (nI cx)] : List Value).toArray s 0 0 A) (F0 m 15 ls []) := by
          intro r2
          induction r2 with
          | zero =>
            intro toky hr2 hE2 H locs hP hD hS ls hl
            have hl : lv_has ls 10 [(0, .ref (q 13)), (1, .int (nI tt)), (2, .int (nI cx)), (3, .int (nI (r + 1))), (4, .int (-1))] := hl
            refine lv_iload hx hb dQ_hear_15 (lv_at hl 4 rfl) ?_
            refine lv_if_lt (tgt := 101) hx hb dQ_hear_17 (by decide) (fun c_3 => ?_) (fun c_3 => ?_)
            · skip
              refine lv_iinc (v := nI r) (lv' := [(3, .int (nI r)), (0, .ref (q 13)), (1, .int (nI tt)), (2, .int (nI cx)), (4, .int (-1))]) hx hb dQ_hear_101 hl (k := 3) rfl (wt_dec1 r) (by decide) rfl (fun ls hl => ?_)
              refine lv_goto (tgt := 8) hx hb dQ_hear_104 (by decide) ?_
              exact ih8 toky (by omega) (by rw [show toky = wt_hn ph pa sc sh sl wt tt cx (r + 1) tokx from hE2]; exact hE) _ _ hP hD hS ls (lv_sub hl [1, 2, 3, 0] rfl)
            · exact absurd (by decide) c_3
          | succ r2 ih15 =>
            intro toky hr2 hE2 H locs hP hD hS ls hl
            have hl : lv_has ls 10 [(0, .ref (q 13)), (1, .int (nI tt)), (2, .int (nI cx)), (3, .int (nI (r + 1))), (4, .int (nI r2))] := hl
            refine lv_iload hx hb dQ_hear_15 (lv_at hl 4 rfl) ?_
            refine wt_if_lt (tgt := 101) hx hb dQ_hear_17 (by decide) (by omega) ?_
            refine lv_iload_n hx hb dQ_hear_20 rfl (lv_at hl 2 rfl) ?_
            refine lv_iload_n hx hb dQ_hear_21 rfl (lv_at hl 3 rfl) ?_
            refine lv_iload hx hb dQ_hear_22 (lv_at hl 4 rfl) ?_
            refine wt_roi (va_runS (As := [.int (nI cx), .int (nI (r + 1)), .int (nI r2)]) (rest := []) ⟨hx, hb, hml, hown, ht⟩ (c_Q_place l dC dI cI cZ cL cx (r + 1) r2) (va_cwS 3 ht (good_S m_287 m_288 m_6 m_289) rfl rfl rfl (by decide +kernel) ⟨Nat.le_of_ble_eq_true rfl, Nat.le_of_ble_eq_true rfl⟩) (wt_preS hK hN (hP.sub [] rfl)) rfl rfl hl.1 rfl (lv_room (Nat.le_of_ble_eq_true rfl)) dQ_hear_24 ⟨Nat.le_of_ble_eq_true rfl, Nat.le_of_ble_eq_true rfl⟩) ?_
            refine lv_istore (lv' := [(5, .int (nI (wt_pl cx (r + 1) r2))), (0, .ref (q 13)), (1, .int (nI tt)), (2, .int (nI cx)), (3, .int (nI (r + 1))), (4, .int (nI r2))]) hx hb dQ_hear_27 hl (by decide) rfl (fun ls hl => ?_)
            refine lv_aload_n hx hb dQ_hear_29 rfl (lv_at hl 1 rfl) ?_
            refine va_get (D := (dC, dI)) (ci := 4) (v := .ref (q 14)) (C := RQ) (T := TQ) (N := 8) hx hb ht inQ hown hK hP 13 rfl rfl 3 (by decide) (ht _ m_90) (fun _ h9 => h9) rfl dQ_hear_30 ?_
            refine lv_iload hx hb dQ_hear_33 (lv_at hl 0 rfl) ?_
            refine wt_lald hx hb hK hP 14 2 rfl rfl (k := wt_pl cx (r + 1) r2) (wt_pl_lt (by omega) (by omega) (by omega)) (by decide) dQ_hear_35 ?_
            refine lv_aload_n hx hb dQ_hear_36 rfl (lv_at hl 1 rfl) ?_
            refine va_get (D := (dC, dI)) (ci := 4) (v := .ref (q 9)) (C := RQ) (T := TQ) (N := 8) hx hb ht inQ hown hK hP 13 rfl rfl 2 (by decide) (ht _ m_89) (fun _ h9 => h9) rfl dQ_hear_37 ?_
            refine lv_iload hx hb dQ_hear_40 (lv_at hl 5 rfl) ?_
            refine wt_roi (va_runV (As := [.int (nI r2)]) (rest := [.long (toky (wt_pl cx (r + 1) r2))]) ⟨hx, hb, hml, hown, ht⟩ (c_S_holdOf l dC dI cI cZ cL q ph pa ch en sz pr gc gb sc sh sl ct toky wt pn lt wp sd r2 (by omega)) (cwV 1 ht (good_V m_290 m_291 m_292 m_5 m_293) rfl rfl rfl (by decide +kernel) ⟨Nat.le_of_ble_eq_true rfl, Nat.le_of_ble_eq_true rfl⟩) (wt_preV hK hN hP (va_recv hK hP (ci := 3) (q0 := 9) rfl rfl)) rfl rfl hl.1 rfl (lv_room (Nat.le_of_ble_eq_true rfl)) dQ_hear_42 ⟨Nat.le_of_ble_eq_true rfl, Nat.le_of_ble_eq_true rfl⟩) ?_
            refine wt_rol (va_runS (As := [.long (toky (wt_pl cx (r + 1) r2)), .int (sh r2)]) (rest := []) ⟨hx, hb, hml, hown, ht⟩ (c_K_plusCost l dC dI cI cZ cL (toky (wt_pl cx (r + 1) r2)) (sh r2)) (va_cwS 2 ht (good_S m_294 m_295 m_8 m_296) rfl rfl rfl (by decide +kernel) ⟨Nat.le_of_ble_eq_true rfl, Nat.le_of_ble_eq_true rfl⟩) (wt_preS hK hN (hP.sub [] rfl)) rfl rfl hl.1 rfl (lv_room (Nat.le_of_ble_eq_true rfl)) dQ_hear_45 ⟨Nat.le_of_ble_eq_true rfl, Nat.le_of_ble_eq_true rfl⟩) ?_
            refine lv_lstore (lv' := [(6, .long (wt_pc (toky (wt_pl cx (r + 1) r2)) (sh r2))), (5, .int (nI (wt_pl cx (r + 1) r2))), (0, .ref (q 13)), (1, .int (nI tt)), (2, .int (nI cx)), (3, .int (nI (r + 1))), (4, .int (nI r2))]) hx hb dQ_hear_48 hl (by decide) rfl (fun ls hl => ?_)
            refine lv_lload hx hb dQ_hear_50 (lv_at hl 0 rfl) ?_
            refine lv_aload_n hx hb dQ_hear_52 rfl (lv_at hl 2 rfl) ?_
            refine lv_iload_n hx hb dQ_hear_53 rfl (lv_at hl 4 rfl) ?_
            refine lv_iload_n hx hb dQ_hear_54 rfl (lv_at hl 5 rfl) ?_
            refine lv_iload hx hb dQ_hear_55 (lv_at hl 6 rfl) ?_
            refine wt_rol (va_runV (As := [.int (nI cx), .int (nI (r + 1)), .int (nI r2)]) (rest := [.long (wt_pc (toky (wt_pl cx (r + 1) r2)) (sh r2))]) ⟨hx, hb, hml, hown, ht⟩ (c_Q_coming l dC dI cI cZ cL q ph pa ch en sz pr gc gb sc sh sl ct toky wt pn lt wp sd cx (r + 1) r2 hcx (by omega) (by omega) hpa) (cwV 3 ht (good_V m_298 m_300 ms_5 m_6 m_301) rfl rfl rfl (by decide +kernel) ⟨Nat.le_of_ble_eq_true rfl, Nat.le_of_ble_eq_true rfl⟩) (wt_preV hK hN hP (va_recv hK hP (ci := 4) (q0 := 13) rfl rfl)) rfl rfl hl.1 rfl (lv_room (Nat.le_of_ble_eq_true rfl)) dQ_hear_57 ⟨Nat.le_of_ble_eq_true rfl, Nat.le_of_ble_eq_true rfl⟩) ?_
            refine va_mmin_long hx hb (by rw [hml]; exact hl.1.symm) hown (ht _ m_314) (ht _ m_315) (ht _ m_9) (ht _ m_316) (Nat.le_of_ble_eq_true rfl) (Nat.le_of_ble_eq_true rfl) (Nat.le_of_ble_eq_true rfl) (Nat.le_of_ble_eq_true rfl) dQ_hear_60 ?_
            refine W.eq (g2 := F0 m 63 ls [.long (wt_lm (wt_pc (toky (wt_pl cx (r + 1) r2)) (sh r2)) (wt_cm pa sl toky wt cx (r + 1) r2))]) rfl ?_
            refine lv_lstore (lv' := [(8, .long (wt_lm (wt_pc (toky (wt_pl cx (r + 1) r2)) (sh r2)) (wt_cm pa sl toky wt cx (r + 1) r2))), (6, .long (wt_pc (toky (wt_pl cx (r + 1) r2)) (sh r2))), (5, .int (nI (wt_pl cx (r + 1) r2))), (0, .ref (q 13)), (1, .int (nI tt)), (2, .int (nI cx)), (3, .int (nI (r + 1))), (4, .int (nI r2))]) hx hb dQ_hear_63 hl (by decide) rfl (fun ls hl => ?_)
            refine lv_aload_n hx hb dQ_hear_65 rfl (lv_at hl 3 rfl) ?_
            refine va_get (D := (dC, dI)) (ci := 4) (v := .ref (q 14)) (C := RQ) (T := TQ) (N := 8) hx hb ht inQ hown hK hP 13 rfl rfl 3 (by decide) (ht _ m_90) (fun _ h9 => h9) rfl dQ_hear_66 ?_
            refine lv_iload hx hb dQ_hear_69 (lv_at hl 2 rfl) ?_
            refine lv_lload hx hb dQ_hear_71 (lv_at hl 0 rfl) ?_
            refine lv_aload_n hx hb dQ_hear_73 rfl (lv_at hl 3 rfl) ?_
            refine va_get (D := (dC, dI)) (ci := 4) (v := .ref (q 9)) (C := RQ) (T := TQ) (N := 8) hx hb ht inQ hown hK hP 13 rfl rfl 2 (by decide) (ht _ m_89) (fun _ h9 => h9) rfl dQ_hear_74 ?_
            refine lv_iload_n hx hb dQ_hear_77 rfl (lv_at hl 4 rfl) ?_
            refine lv_aload_n hx hb dQ_hear_78 rfl (lv_at hl 3 rfl) ?_
            refine va_get (D := (dC, dI)) (ci := 4) (v := .ref (q 1)) (C := RQ) (T := TQ) (N := 8) hx hb ht inQ hown hK hP 13 rfl rfl 0 (by decide) (ht _ m_87) (fun _ h9 => h9) rfl dQ_hear_79 ?_
            refine lv_iload_n hx hb dQ_hear_82 rfl (lv_at hl 6 rfl) ?_
            refine wt_roi (va_runV (As := [.int (nI (r + 1))]) (rest := [.int (nI tt), .ref (q 9), .long (wt_lm (wt_pc (toky (wt_pl cx (r + 1) r2)) (sh r2)) (wt_cm pa sl toky wt cx (r + 1) r2)), .int (nI (wt_pl cx (r + 1) r2)), .ref (q 14)]) ⟨hx, hb, hml, hown, ht⟩ (c_T_phoneOf l dC dI cI cZ cL q ph pa ch en sz pr gc gb sc sh sl ct toky wt pn lt wp sd (r + 1) (by omega)) (cwV 1 ht (good_V m_317 m_318 m_319 m_2 m_320) rfl rfl rfl (by decide +kernel) ⟨Nat.le_of_ble_eq_true rfl, Nat.le_of_ble_eq_true rfl⟩) (wt_preV hK hN hP (va_recv hK hP (ci := 1) (q0 := 1) rfl rfl)) rfl rfl hl.1 rfl (lv_room (Nat.le_of_ble_eq_true rfl)) dQ_hear_83 ⟨Nat.le_of_ble_eq_true rfl, Nat.le_of_ble_eq_true rfl⟩) ?_
            refine lv_iload hx hb dQ_hear_86 (lv_at hl 7 rfl) ?_
            refine wt_roi (va_runV (As := [.int (nI tt), .int (nI (ph (r + 1))), .int (nI r2)]) (rest := [.long (wt_lm (wt_pc (toky (wt_pl cx (r + 1) r2)) (sh r2)) (wt_cm pa sl toky wt cx (r + 1) r2)), .int (nI (wt_pl cx (r + 1) r2)), .ref (q 14)]) ⟨hx, hb, hml, hown, ht⟩ (c_S_costOf l dC dI cI cZ cL q ph pa ch en sz pr gc gb sc sh sl ct toky wt pn lt wp sd tt (ph (r + 1)) r2 htt (hph _) (by omega)) (cwV 3 ht (good_V m_321 m_322 m_323 m_5 m_324) rfl rfl rfl (by decide +kernel) ⟨Nat.le_of_ble_eq_true rfl, Nat.le_of_ble_eq_true rfl⟩) (wt_preV hK hN hP (va_recv hK hP (ci := 3) (q0 := 9) rfl rfl)) rfl rfl hl.1 rfl (lv_room (Nat.le_of_ble_eq_true rfl)) dQ_hear_88 ⟨Nat.le_of_ble_eq_true rfl, Nat.le_of_ble_eq_true rfl⟩) ?_
            refine wt_rol (va_runS (As := [.long (wt_lm (wt_pc (toky (wt_pl cx (r + 1) r2)) (sh r2)) (wt_cm pa sl toky wt cx (r + 1) r2)), .int (sc (tt * 12 + (ph (r + 1)) * 3 + r2))]) (rest := [.int (nI (wt_pl cx (r + 1) r2)), .ref (q 14)]) ⟨hx, hb, hml, hown, ht⟩ (c_K_plusCost l dC dI cI cZ cL (wt_lm (wt_pc (toky (wt_pl cx (r + 1) r2)) (sh r2)) (wt_cm pa sl toky wt cx (r + 1) r2)) (sc (tt * 12 + (ph (r + 1)) * 3 + r2))) (va_cwS 2 ht (good_S m_294 m_295 m_8 m_296) rfl rfl rfl (by decide +kernel) ⟨Nat.le_of_ble_eq_true rfl, Nat.le_of_ble_eq_true rfl⟩) (wt_preS hK hN (hP.sub [] rfl)) rfl rfl hl.1 rfl (lv_room (Nat.le_of_ble_eq_true rfl)) dQ_hear_91 ⟨Nat.le_of_ble_eq_true rfl, Nat.le_of_ble_eq_true rfl⟩) ?_
            refine wt_last hx hb hK hP hD hS 14 2 rfl rfl (k := wt_pl cx (r + 1) r2) (wt_pl_lt (by omega) (by omega) (by omega)) (by decide) dQ_hear_94 (fun H locs hP hD hS => ?_)
            have hP : va_P (dC, dI) vwCl (wX cI cZ cL q ph pa ch en sz pr gc gb sc sh sl ct (vp_updL toky (wt_pl cx (r + 1) r2) (wt_pc (wt_lm (wt_pc (toky (wt_pl cx (r + 1) r2)) (sh r2)) (wt_cm pa sl toky wt cx (r + 1) r2)) (sc (tt * 12 + (ph (r + 1)) * 3 + r2)))) wt pn lt wp sd) H := hP
            have hD : va_D A (wX cI cZ cL q ph pa ch en sz pr gc gb sc sh sl ct (vp_updL toky (wt_pl cx (r + 1) r2) (wt_pc (wt_lm (wt_pc (toky (wt_pl cx (r + 1) r2)) (sh r2)) (wt_cm pa sl toky wt cx (r + 1) r2)) (sc (tt * 12 + (ph (r + 1)) * 3 + r2)))) wt pn lt wp sd) := hD
            refine lv_iinc (v := wt_pd r2) (lv' := [(4, .int (wt_pd r2)), (8, .long (wt_lm (wt_pc (toky (wt_pl cx (r + 1) r2)) (sh r2)) (wt_cm pa sl toky wt cx (r + 1) r2))), (6, .long (wt_pc (toky (wt_pl cx (r + 1) r2)) (sh r2))), (5, .int (nI (wt_pl cx (r + 1) r2))), (0, .ref (q 13)), (1, .int (nI tt)), (2, .int (nI cx)), (3, .int (nI (r + 1)))]) hx hb dQ_hear_95 hl (k := 7) rfl (wt_pd_dec r2) (by decide) rfl (fun ls hl => ?_)
            refine lv_goto (tgt := 15) hx hb dQ_hear_98 (by decide) ?_
            exact ih15 (vp_updL toky (wt_pl cx (r + 1) r2) (wt_pc (wt_lm (wt_pc (toky (wt_pl cx (r + 1) r2)) (sh r2)) (wt_cm pa sl toky wt cx (r + 1) r2)) (sc (tt * 12 + (ph (r + 1)) * 3 + r2)))) (by omega) hE2 _ _ hP hD hS ls (lv_sub hl [4, 5, 6, 7, 0] rfl)
        exact LP15 3 tokx (Nat.le_refl 3) rfl _ _ hP hD hS ls (lv_sub hl [1, 2, 3, 4, 0] rfl)
  exact LP8 sz tok (Nat.le_refl sz) rfl _ _ hP hD hS ls (lv_sub hl [1, 2, 3, 0] rfl)

set_option maxHeartbeats 4000000 in
set_option maxRecDepth 100000 in
theorem c_Q_endWords (l : Launch) (dC : Nat → ClassId) (dI : Nat → Nat → Nat) (cI cZ cL : ClassId) (q : Nat → Nat) (sz0 : Nat) (ph : Nat → Nat) (pa : Nat → Nat) (ch : Nat → Nat) (en : Nat → Bool) (sz : Nat) (pr : Nat) (gc : Nat → Int32) (gb : Nat → Int32) (sc : Nat → Int32) (sh : Nat → Int32) (sl : Nat → Int32) (ct : Nat) (tok : Nat → Int64) (wt : Nat → Int64) (pn : Nat → Nat) (lt : Nat → Int64) (wp : Int64) (sd : Bool) (cx : Nat) (hcx : cx < 25) (hsz : sz ≤ 24) : Met l yQ_endWords (Cond.code yQ_endWords cQ_endWords 11 none :: tb) ({ frames := 3, cells := 0, slots := 0, locals := 71 }) (va_Pc [.ref (q 13), .int (nI cx)] (wt_rw (dC, dI) vwCl [(cI, .int), (cZ, .boolean), (cL, .long)] (wX cI cZ cL q ph pa ch en sz pr gc gb sc sh sl ct tok wt pn lt wp sd) sz0)) (va_Qv (fun _ : Unit => True) (wt_B (dC, dI) vwCl (va_A (wX cI cZ cL q ph pa ch en sz pr gc gb sc sh sl ct tok wt pn lt wp sd) sz0) (wX cI cZ cL q ph pa ch en sz pr gc gb sc sh sl ct tok (wt_end en sz gc gb sl tok cx wt) pn lt wp sd)) (va_A (wX cI cZ cL q ph pa ch en sz pr gc gb sc sh sl ct tok wt pn lt wp sd) sz0)) 0 0 (va_A (wX cI cZ cL q ph pa ch en sz pr gc gb sc sh sl ct tok wt pn lt wp sd) sz0) := by
  refine Met.ofW (cc := cQ_endWords) (maxL := 11) (ret := none) (by decide) rfl ?_
  intro p e s m args below meth c s₁ B hml hv
  obtain ⟨rfl, hsz, hP, hK, hN, hD0⟩ := hv
  have hx := B.exec
  have hb := B.bytes
  have hr := B.returns
  have hts := atoms_spec (ws := (Cond.code yQ_endWords cQ_endWords 11 none :: tb)) B.pre
  have ht : ∀ w ∈ tb, w.before _ s = true := fun w h => hts w (List.mem_cons_of_mem _ h)
  have hown : s.vm.findClass RQ = some m.cls := findClass_of_methodNamed B.named
  have hlocks := B.notSynchronized
  subst hsz
  have hD := hD0.self (sz := s.heap.size)
  generalize hAe : va_A (wX cI cZ cL q ph pa ch en sz pr gc gb sc sh sl ct tok wt pn lt wp sd) s.heap.size = A at hD ⊢
  have hA : ∀ q : Nat, s.heap.size ≤ q → A q := fun q h => by rw [← hAe]; exact Or.inr h
  clear hAe hD0
  have hS : va_S A s.heap s.heap [] := va_S.rf
  have hl := lv_entry ([.ref (q 13), .int (nI cx)]) (n := 11) (Nat.le_of_ble_eq_true rfl)
  rw [lg_entry_eq]
  generalize (lg_sl ([.ref (q 13), .int (nI cx)]) ++ List.replicate (11 - (lg_sl ([.ref (q 13), .int (nI cx)])).length) Slot.unset).toArray = ls at hl ⊢
  have hl : lv_has ls 11 [(0, .ref (q 13)), (1, .int (nI cx))] := hl
  refine lv_iload_n hx hb dQ_endWords_0 rfl (lv_at hl 1 rfl) ?_
  refine lv_iconst (v := nI 5) hx hb dQ_endWords_1 (by decide) ?_
  refine wt_idiv hx hb dQ_endWords_2 (by omega) (by decide) (by decide) ?_
  refine lv_istore_n (lv' := [(2, .int (nI (cx / 5))), (0, .ref (q 13)), (1, .int (nI cx))]) hx hb dQ_endWords_3 rfl hl (by decide) rfl (fun ls hl => ?_)
  refine lv_iload_n hx hb dQ_endWords_4 rfl (lv_at hl 2 rfl) ?_
  refine lv_iconst (v := nI 5) hx hb dQ_endWords_5 (by decide) ?_
  refine wt_irem hx hb dQ_endWords_6 (by omega) (by decide) (by decide) ?_
  refine lv_istore_n (lv' := [(3, .int (nI (cx % 5))), (2, .int (nI (cx / 5))), (0, .ref (q 13)), (1, .int (nI cx))]) hx hb dQ_endWords_7 rfl hl (by decide) rfl (fun ls hl => ?_)
  refine lv_iconst (v := nI 1) hx hb dQ_endWords_8 (by decide) ?_
  refine lv_istore (lv' := [(4, .int (nI 1)), (3, .int (nI (cx % 5))), (2, .int (nI (cx / 5))), (0, .ref (q 13)), (1, .int (nI cx))]) hx hb dQ_endWords_9 hl (by decide) rfl (fun ls hl => ?_)
  have LP11 : ∀ (r : Nat) (i : Nat) (wtx : Nat → Int64) (hi : i + r = sz + 1) (hi1 : 1 ≤ i) (hE : wt_up (fun n f => wt_en en gc gb sl tok cx n f) r i wtx = wt_end en sz gc gb sl tok cx wt) (H : Heap) (locs : List Loc) (hP : va_P (dC, dI) vwCl (wX cI cZ cL q ph pa ch en sz pr gc gb sc sh sl ct tok wtx pn lt wp sd) H) (hD : va_D A (wX cI cZ cL q ph pa ch en sz pr gc gb sc sh sl ct tok wtx pn lt wp sd)) (hS : va_S A s.heap H locs) (ls : Array Slot) (hl : lv_has ls 11 [(0, .ref (q 13)), (1, .int (nI cx)), (2, .int (nI (cx / 5))), (3, .int (nI (cx % 5))), (4, .int (nI i))]), W p l e (headSpec (Cond.code yQ_endWords cQ_endWords 11 none :: tb) ({ frames := 3, cells := 0, slots := 0, locals := 71 })).room s m ([.ref (q 13), .int (nI cx)] : List Value).toArray below meth c H locs 0 0 (MQ below (va_Qv (fun _ : Unit => True) (wt_B (dC, dI) vwCl A (wX cI cZ cL q ph pa ch en sz pr gc gb sc sh sl ct tok (wt_end en sz gc gb sl tok cx wt) pn lt wp sd)) A) ([.ref (q 13), .int (nI cx)] : List Value).toArray s 0 0 A) (F0 m 11 ls []) := by
    intro r
    induction r with
    | zero =>
      intro i wtx hi hi1 hE H locs hP hD hS ls hl
      have hl : lv_has ls 11 [(0, .ref (q 13)), (1, .int (nI cx)), (2, .int (nI (cx / 5))), (3, .int (nI (cx % 5))), (4, .int (nI i))] := hl
      refine lv_iload hx hb dQ_endWords_11 (lv_at hl 4 rfl) ?_
      refine lv_aload_n hx hb dQ_endWords_13 rfl (lv_at hl 0 rfl) ?_
      refine va_get (D := (dC, dI)) (ci := 4) (v := .ref (q 1)) (C := RQ) (T := TQ) (N := 8) hx hb ht inQ hown hK hP 13 rfl rfl 0 (by decide) (ht _ m_87) (fun _ h9 => h9) rfl dQ_endWords_14 ?_
      refine wt_roi (va_runV (As := []) (rest := [.int (nI i)]) ⟨hx, hb, hml, hown, ht⟩ (c_T_size l dC dI cI cZ cL q ph pa ch en sz pr gc gb sc sh sl ct tok wtx pn lt wp sd) (cwV 0 ht (good_V m_286 m_167 m_168 m_2 m_169) rfl rfl rfl (by decide +kernel) ⟨Nat.le_of_ble_eq_true rfl, Nat.le_of_ble_eq_true rfl⟩) (wt_preV hK hN hP (va_recv hK hP (ci := 1) (q0 := 1) rfl rfl)) rfl rfl hl.1 rfl (lv_room (Nat.le_of_ble_eq_true rfl)) dQ_endWords_17 ⟨Nat.le_of_ble_eq_true rfl, Nat.le_of_ble_eq_true rfl⟩) ?_
      refine wt_icmp_gt (tgt := 127) hx hb dQ_endWords_20 (by decide) (by omega) (by omega) (fun c_1 => ?_) (fun c_1 => ?_)
      · skip
        have hP9 : va_P (dC, dI) vwCl (wX cI cZ cL q ph pa ch en sz pr gc gb sc sh sl ct tok (wt_end en sz gc gb sl tok cx wt) pn lt wp sd) H := by rw [show (wt_end en sz gc gb sl tok cx wt) = wtx from hE.symm]; exact hP
        have hD9 : va_D A (wX cI cZ cL q ph pa ch en sz pr gc gb sc sh sl ct tok (wt_end en sz gc gb sl tok cx wt) pn lt wp sd) := by rw [show (wt_end en sz gc gb sl tok cx wt) = wtx from hE.symm]; exact hD
        exact W.vret hx hb hr (fun t ht hW => ⟨⟨(), rfl, trivial, by rw [ht]; exact hP9, hD9⟩, hS.F ht⟩) hS.2.2 dQ_endWords_127
      · first | exact absurd c_1 (by omega) | exact absurd c_1 (by decide) | exact absurd (by decide) c_1
    | succ r ih11 =>
      intro i wtx hi hi1 hE H locs hP hD hS ls hl
      have hl : lv_has ls 11 [(0, .ref (q 13)), (1, .int (nI cx)), (2, .int (nI (cx / 5))), (3, .int (nI (cx % 5))), (4, .int (nI i))] := hl
      refine lv_iload hx hb dQ_endWords_11 (lv_at hl 4 rfl) ?_
      refine lv_aload_n hx hb dQ_endWords_13 rfl (lv_at hl 0 rfl) ?_
      refine va_get (D := (dC, dI)) (ci := 4) (v := .ref (q 1)) (C := RQ) (T := TQ) (N := 8) hx hb ht inQ hown hK hP 13 rfl rfl 0 (by decide) (ht _ m_87) (fun _ h9 => h9) rfl dQ_endWords_14 ?_
      refine wt_roi (va_runV (As := []) (rest := [.int (nI i)]) ⟨hx, hb, hml, hown, ht⟩ (c_T_size l dC dI cI cZ cL q ph pa ch en sz pr gc gb sc sh sl ct tok wtx pn lt wp sd) (cwV 0 ht (good_V m_286 m_167 m_168 m_2 m_169) rfl rfl rfl (by decide +kernel) ⟨Nat.le_of_ble_eq_true rfl, Nat.le_of_ble_eq_true rfl⟩) (wt_preV hK hN hP (va_recv hK hP (ci := 1) (q0 := 1) rfl rfl)) rfl rfl hl.1 rfl (lv_room (Nat.le_of_ble_eq_true rfl)) dQ_endWords_17 ⟨Nat.le_of_ble_eq_true rfl, Nat.le_of_ble_eq_true rfl⟩) ?_
      refine wt_icmp_gt (tgt := 127) hx hb dQ_endWords_20 (by decide) (by omega) (by omega) (fun c_2 => ?_) (fun c_2 => ?_)
      · first | exact absurd c_2 (by omega) | exact absurd c_2 (by decide) | exact absurd (by decide) c_2
      · skip
        refine lv_aload_n hx hb dQ_endWords_23 rfl (lv_at hl 0 rfl) ?_
        refine lv_iload_n hx hb dQ_endWords_24 rfl (lv_at hl 1 rfl) ?_
        refine lv_iload hx hb dQ_endWords_25 (lv_at hl 4 rfl) ?_
        refine lv_iconst (v := nI 2) hx hb dQ_endWords_27 (by decide) ?_
        refine wt_rol (va_runV (As := [.int (nI cx), .int (nI i), .int (nI 2)]) (rest := []) ⟨hx, hb, hml, hown, ht⟩ (c_Q_leaving l dC dI cI cZ cL q ph pa ch en sz pr gc gb sc sh sl ct tok wtx pn lt wp sd cx i 2 hcx (by omega) (by omega)) (cwV 3 ht (good_V m_302 m_304 ms_6 m_6 m_305) rfl rfl rfl (by decide +kernel) ⟨Nat.le_of_ble_eq_true rfl, Nat.le_of_ble_eq_true rfl⟩) (wt_preV hK hN hP (va_recv hK hP (ci := 4) (q0 := 13) rfl rfl)) rfl rfl hl.1 rfl (lv_room (Nat.le_of_ble_eq_true rfl)) dQ_endWords_28 ⟨Nat.le_of_ble_eq_true rfl, Nat.le_of_ble_eq_true rfl⟩) ?_
        refine lv_lstore (lv' := [(5, .long (wt_lv sl tok cx i 2)), (0, .ref (q 13)), (1, .int (nI cx)), (2, .int (nI (cx / 5))), (3, .int (nI (cx % 5))), (4, .int (nI i))]) hx hb dQ_endWords_31 hl (by decide) rfl (fun ls hl => ?_)
        refine lv_iconst (v := nI 0) hx hb dQ_endWords_33 (by decide) ?_
        refine lv_istore (lv' := [(7, .int (nI 0)), (5, .long (wt_lv sl tok cx i 2)), (0, .ref (q 13)), (1, .int (nI cx)), (2, .int (nI (cx / 5))), (3, .int (nI (cx % 5))), (4, .int (nI i))]) hx hb dQ_endWords_34 hl (by decide) rfl (fun ls hl => ?_)
        have LP36 : ∀ (r2 : Nat) (j : Nat) (wty : Nat → Int64) (hj : j + r2 = 4) (hE2 : wt_up (fun w f => wt_e1 en gc gb cx i (wt_lv sl tok cx i 2) w f) r2 j wty = wt_en en gc gb sl tok cx i wtx) (H : Heap) (locs : List Loc) (hP : va_P (dC, dI) vwCl (wX cI cZ cL q ph pa ch en sz pr gc gb sc sh sl ct tok wty pn lt wp sd) H) (hD : va_D A (wX cI cZ cL q ph pa ch en sz pr gc gb sc sh sl ct tok wty pn lt wp sd)) (hS : va_S A s.heap H locs) (ls : Array Slot) (hl : lv_has ls 11 [(0, .ref (q 13)), (1, .int (nI cx)), (2, .int (nI (cx / 5))), (3, .int (nI (cx % 5))), (4, .int (nI i)), (5, .long (wt_lv sl tok cx i 2)), (7, .int (nI j))]), W p l e (headSpec (Cond.code yQ_endWords cQ_endWords 11 none :: tb) ({ frames := 3, cells := 0, slots := 0, locals := 71 })).room s m ([.ref (q 13), .int (nI cx)] : List Value).toArray below meth c H locs 0 0 (MQ below (va_Qv (fun _ : Unit => True) (wt_B (dC, dI) vwCl A (wX cI cZ cL q ph pa ch en sz pr gc gb sc sh sl ct tok (wt_end en sz gc gb sl tok cx wt) pn lt wp sd)) A) ([.ref (q 13), .int (nI cx)] : List Value).toArray s 0 0 A) (F0 m 36 ls []) := by
          intro r2
          induction r2 with
          | zero =>
            intro j wty hj hE2 H locs hP hD hS ls hl
            have hl : lv_has ls 11 [(0, .ref (q 13)), (1, .int (nI cx)), (2, .int (nI (cx / 5))), (3, .int (nI (cx % 5))), (4, .int (nI i)), (5, .long (wt_lv sl tok cx i 2)), (7, .int (nI j))] := hl
            refine lv_iload hx hb dQ_endWords_36 (lv_at hl 6 rfl) ?_
            refine lv_iconst (v := nI 4) hx hb dQ_endWords_38 (by decide) ?_
            refine wt_icmp_ge (tgt := 121) hx hb dQ_endWords_39 (by decide) (by omega) (by omega) (fun c_3 => ?_) (fun c_3 => ?_)
            · skip
              refine lv_iinc (v := nI (i + 1)) (lv' := [(4, .int (nI (i + 1))), (0, .ref (q 13)), (1, .int (nI cx)), (2, .int (nI (cx / 5))), (3, .int (nI (cx % 5))), (5, .long (wt_lv sl tok cx i 2)), (7, .int (nI j))]) hx hb dQ_endWords_121 hl (k := 4) rfl (wt_inc1 i) (by decide) rfl (fun ls hl => ?_)
              refine lv_goto (tgt := 11) hx hb dQ_endWords_124 (by decide) ?_
              exact ih11 (i + 1) wty (by omega) (by omega) (by rw [show wty = wt_en en gc gb sl tok cx i wtx from hE2]; exact hE) _ _ hP hD hS ls (lv_sub hl [1, 2, 3, 4, 0] rfl)
            · first | exact absurd c_3 (by omega) | exact absurd c_3 (by decide) | exact absurd (by decide) c_3
          | succ r2 ih36 =>
            intro j wty hj hE2 H locs hP hD hS ls hl
            have hl : lv_has ls 11 [(0, .ref (q 13)), (1, .int (nI cx)), (2, .int (nI (cx / 5))), (3, .int (nI (cx % 5))), (4, .int (nI i)), (5, .long (wt_lv sl tok cx i 2)), (7, .int (nI j))] := hl
            refine lv_iload hx hb dQ_endWords_36 (lv_at hl 6 rfl) ?_
            refine lv_iconst (v := nI 4) hx hb dQ_endWords_38 (by decide) ?_
            refine wt_icmp_ge (tgt := 121) hx hb dQ_endWords_39 (by decide) (by omega) (by omega) (fun c_4 => ?_) (fun c_4 => ?_)
            · first | exact absurd c_4 (by omega) | exact absurd c_4 (by decide) | exact absurd (by decide) c_4
            · skip
              refine lv_lload hx hb dQ_endWords_42 (lv_at hl 5 rfl) ?_
              refine lv_ldc2 (v := wt_dead) hx hb hown (ht _ m_86) dQ_endWords_44 ?_
              refine W.lcmp hx hb dQ_endWords_47 ?_
              refine wt_lif_eq (tgt := 115) hx hb dQ_endWords_48 (by decide) (fun c_5 => ?_) (fun c_5 => ?_)
              · skip
                refine lv_iinc (v := nI (j + 1)) (lv' := [(7, .int (nI (j + 1))), (0, .ref (q 13)), (1, .int (nI cx)), (2, .int (nI (cx / 5))), (3, .int (nI (cx % 5))), (4, .int (nI i)), (5, .long (wt_lv sl tok cx i 2))]) hx hb dQ_endWords_115 hl (k := 6) rfl (wt_inc1 j) (by decide) rfl (fun ls hl => ?_)
                refine lv_goto (tgt := 36) hx hb dQ_endWords_118 (by decide) ?_
                exact ih36 (j + 1) wty (by omega) (by first | exact (congrArg (fun f => wt_up (fun w f => wt_e1 en gc gb cx i (wt_lv sl tok cx i 2) w f) r2 (j + 1) f) (e1_do c_4 c_5)).symm.trans hE2 | exact (congrArg (fun f => wt_up (fun w f => wt_e1 en gc gb cx i (wt_lv sl tok cx i 2) w f) r2 (j + 1) f) (e1_s1 c_5)).symm.trans hE2 | exact (congrArg (fun f => wt_up (fun w f => wt_e1 en gc gb cx i (wt_lv sl tok cx i 2) w f) r2 (j + 1) f) (e1_s2 c_5)).symm.trans hE2) _ _ hP hD hS ls (lv_sub hl [1, 2, 3, 4, 5, 6, 0] rfl)
              · skip
                refine lv_aload_n hx hb dQ_endWords_51 rfl (lv_at hl 0 rfl) ?_
                refine va_get (D := (dC, dI)) (ci := 4) (v := .ref (q 1)) (C := RQ) (T := TQ) (N := 8) hx hb ht inQ hown hK hP 13 rfl rfl 0 (by decide) (ht _ m_87) (fun _ h9 => h9) rfl dQ_endWords_52 ?_
                refine lv_iload hx hb dQ_endWords_55 (lv_at hl 4 rfl) ?_
                refine lv_iload hx hb dQ_endWords_57 (lv_at hl 6 rfl) ?_
                refine wt_roi (va_runV (As := [.int (nI i), .int (nI j)]) (rest := []) ⟨hx, hb, hml, hown, ht⟩ (c_T_endsWord l dC dI cI cZ cL q ph pa ch en sz pr gc gb sc sh sl ct tok wty pn lt wp sd i j (by omega) (by omega)) (cwV 2 ht (good_V m_329 m_155 m_156 m_2 m_157) rfl rfl rfl (by decide +kernel) ⟨Nat.le_of_ble_eq_true rfl, Nat.le_of_ble_eq_true rfl⟩) (wt_preV hK hN hP (va_recv hK hP (ci := 1) (q0 := 1) rfl rfl)) rfl rfl hl.1 rfl (lv_room (Nat.le_of_ble_eq_true rfl)) dQ_endWords_59 ⟨Nat.le_of_ble_eq_true rfl, Nat.le_of_ble_eq_true rfl⟩) ?_
                refine wt_bif_eq (tgt := 115) hx hb dQ_endWords_62 (by decide) (fun c_6 => ?_) (fun c_6 => ?_)
                · skip
                  refine lv_iinc (v := nI (j + 1)) (lv' := [(7, .int (nI (j + 1))), (0, .ref (q 13)), (1, .int (nI cx)), (2, .int (nI (cx / 5))), (3, .int (nI (cx % 5))), (4, .int (nI i)), (5, .long (wt_lv sl tok cx i 2))]) hx hb dQ_endWords_115 hl (k := 6) rfl (wt_inc1 j) (by decide) rfl (fun ls hl => ?_)
                  refine lv_goto (tgt := 36) hx hb dQ_endWords_118 (by decide) ?_
                  exact ih36 (j + 1) wty (by omega) (by first | exact (congrArg (fun f => wt_up (fun w f => wt_e1 en gc gb cx i (wt_lv sl tok cx i 2) w f) r2 (j + 1) f) (e1_do c_5 c_6)).symm.trans hE2 | exact (congrArg (fun f => wt_up (fun w f => wt_e1 en gc gb cx i (wt_lv sl tok cx i 2) w f) r2 (j + 1) f) (e1_s1 c_6)).symm.trans hE2 | exact (congrArg (fun f => wt_up (fun w f => wt_e1 en gc gb cx i (wt_lv sl tok cx i 2) w f) r2 (j + 1) f) (e1_s2 c_6)).symm.trans hE2) _ _ hP hD hS ls (lv_sub hl [1, 2, 3, 4, 5, 6, 0] rfl)
                · skip
                  refine lv_iload_n hx hb dQ_endWords_65 rfl (lv_at hl 3 rfl) ?_
                  refine lv_iload hx hb dQ_endWords_66 (lv_at hl 6 rfl) ?_
                  refine wt_roi (va_runS (As := [.int (nI (cx % 5)), .int (nI j)]) (rest := []) ⟨hx, hb, hml, hown, ht⟩ (c_Q_context l dC dI cI cZ cL (cx % 5) j) (va_cwS 2 ht (good_S m_278 m_279 m_6 m_280) rfl rfl rfl (by decide +kernel) ⟨Nat.le_of_ble_eq_true rfl, Nat.le_of_ble_eq_true rfl⟩) (wt_preS hK hN (hP.sub [] rfl)) rfl rfl hl.1 rfl (lv_room (Nat.le_of_ble_eq_true rfl)) dQ_endWords_68 ⟨Nat.le_of_ble_eq_true rfl, Nat.le_of_ble_eq_true rfl⟩) ?_
                  refine lv_istore (lv' := [(8, .int (nI (wt_cx (cx % 5) j))), (0, .ref (q 13)), (1, .int (nI cx)), (2, .int (nI (cx / 5))), (3, .int (nI (cx % 5))), (4, .int (nI i)), (5, .long (wt_lv sl tok cx i 2)), (7, .int (nI j))]) hx hb dQ_endWords_71 hl (by decide) rfl (fun ls hl => ?_)
                  refine lv_lload hx hb dQ_endWords_73 (lv_at hl 6 rfl) ?_
                  refine lv_aload_n hx hb dQ_endWords_75 rfl (lv_at hl 1 rfl) ?_
                  refine va_get (D := (dC, dI)) (ci := 4) (v := .ref (q 6)) (C := RQ) (T := TQ) (N := 8) hx hb ht inQ hown hK hP 13 rfl rfl 1 (by decide) (ht _ m_88) (fun _ h9 => h9) rfl dQ_endWords_76 ?_
                  refine lv_iload_n hx hb dQ_endWords_79 rfl (lv_at hl 3 rfl) ?_
                  refine lv_iload_n hx hb dQ_endWords_80 rfl (lv_at hl 4 rfl) ?_
                  refine lv_iload hx hb dQ_endWords_81 (lv_at hl 7 rfl) ?_
                  refine wt_roi (va_runV (As := [.int (nI (cx / 5)), .int (nI (cx % 5)), .int (nI j)]) (rest := [.long (wt_lv sl tok cx i 2)]) ⟨hx, hb, hml, hown, ht⟩ (c_G_costAfter l dC dI cI cZ cL q ph pa ch en sz pr gc gb sc sh sl ct tok wty pn lt wp sd (cx / 5) (cx % 5) j (by omega) (by omega) (by omega)) (cwV 3 ht (good_V m_330 m_209 m_210 m_3 m_211) rfl rfl rfl (by decide +kernel) ⟨Nat.le_of_ble_eq_true rfl, Nat.le_of_ble_eq_true rfl⟩) (wt_preV hK hN hP (va_recv hK hP (ci := 2) (q0 := 6) rfl rfl)) rfl rfl hl.1 rfl (lv_room (Nat.le_of_ble_eq_true rfl)) dQ_endWords_83 ⟨Nat.le_of_ble_eq_true rfl, Nat.le_of_ble_eq_true rfl⟩) ?_
                  refine wt_rol (va_runS (As := [.long (wt_lv sl tok cx i 2), .int (wt_aft gc gb (cx / 5) (cx % 5) j)]) (rest := []) ⟨hx, hb, hml, hown, ht⟩ (c_K_plusCost l dC dI cI cZ cL (wt_lv sl tok cx i 2) (wt_aft gc gb (cx / 5) (cx % 5) j)) (va_cwS 2 ht (good_S m_294 m_295 m_8 m_296) rfl rfl rfl (by decide +kernel) ⟨Nat.le_of_ble_eq_true rfl, Nat.le_of_ble_eq_true rfl⟩) (wt_preS hK hN (hP.sub [] rfl)) rfl rfl hl.1 rfl (lv_room (Nat.le_of_ble_eq_true rfl)) dQ_endWords_86 ⟨Nat.le_of_ble_eq_true rfl, Nat.le_of_ble_eq_true rfl⟩) ?_
                  refine lv_iload hx hb dQ_endWords_89 (lv_at hl 7 rfl) ?_
                  refine wt_rol (va_runS (As := [.long (wt_pc (wt_lv sl tok cx i 2) (wt_aft gc gb (cx / 5) (cx % 5) j)), .int (nI j)]) (rest := []) ⟨hx, hb, hml, hown, ht⟩ (c_K_plusWord l dC dI cI cZ cL (wt_pc (wt_lv sl tok cx i 2) (wt_aft gc gb (cx / 5) (cx % 5) j)) (nI j)) (va_cwS 2 ht (good_S m_331 m_332 m_8 m_333) rfl rfl rfl (by decide +kernel) ⟨Nat.le_of_ble_eq_true rfl, Nat.le_of_ble_eq_true rfl⟩) (wt_preS hK hN (hP.sub [] rfl)) rfl rfl hl.1 rfl (lv_room (Nat.le_of_ble_eq_true rfl)) dQ_endWords_91 ⟨Nat.le_of_ble_eq_true rfl, Nat.le_of_ble_eq_true rfl⟩) ?_
                  refine lv_lstore (lv' := [(9, .long (wt_pw (wt_pc (wt_lv sl tok cx i 2) (wt_aft gc gb (cx / 5) (cx % 5) j)) (nI j))), (8, .int (nI (wt_cx (cx % 5) j))), (0, .ref (q 13)), (1, .int (nI cx)), (2, .int (nI (cx / 5))), (3, .int (nI (cx % 5))), (4, .int (nI i)), (5, .long (wt_lv sl tok cx i 2)), (7, .int (nI j))]) hx hb dQ_endWords_94 hl (by decide) rfl (fun ls hl => ?_)
                  refine lv_aload_n hx hb dQ_endWords_96 rfl (lv_at hl 2 rfl) ?_
                  refine va_get (D := (dC, dI)) (ci := 4) (v := .ref (q 15)) (C := RQ) (T := TQ) (N := 8) hx hb ht inQ hown hK hP 13 rfl rfl 4 (by decide) (ht _ m_91) (fun _ h9 => h9) rfl dQ_endWords_97 ?_
                  refine lv_iload hx hb dQ_endWords_100 (lv_at hl 1 rfl) ?_
                  refine lv_aload_n hx hb dQ_endWords_102 rfl (lv_at hl 2 rfl) ?_
                  refine va_get (D := (dC, dI)) (ci := 4) (v := .ref (q 15)) (C := RQ) (T := TQ) (N := 8) hx hb ht inQ hown hK hP 13 rfl rfl 4 (by decide) (ht _ m_91) (fun _ h9 => h9) rfl dQ_endWords_103 ?_
                  refine lv_iload hx hb dQ_endWords_106 (lv_at hl 1 rfl) ?_
                  refine wt_lald hx hb hK hP 15 2 rfl rfl (k := wt_cx (cx % 5) j) (by unfold wt_cx; omega) (by decide) dQ_endWords_108 ?_
                  refine lv_lload hx hb dQ_endWords_109 (lv_at hl 0 rfl) ?_
                  refine va_mmin_long hx hb (by rw [hml]; exact hl.1.symm) hown (ht _ m_314) (ht _ m_315) (ht _ m_9) (ht _ m_316) (Nat.le_of_ble_eq_true rfl) (Nat.le_of_ble_eq_true rfl) (Nat.le_of_ble_eq_true rfl) (Nat.le_of_ble_eq_true rfl) dQ_endWords_111 ?_
                  refine W.eq (g2 := F0 m 114 ls [.long (wt_lm (wty (wt_cx (cx % 5) j)) (wt_pw (wt_pc (wt_lv sl tok cx i 2) (wt_aft gc gb (cx / 5) (cx % 5) j)) (nI j))), .int (nI (wt_cx (cx % 5) j)), .ref (q 15)]) rfl ?_
                  refine wt_last hx hb hK hP hD hS 15 2 rfl rfl (k := wt_cx (cx % 5) j) (by unfold wt_cx; omega) (by decide) dQ_endWords_114 (fun H locs hP hD hS => ?_)
                  have hP : va_P (dC, dI) vwCl (wX cI cZ cL q ph pa ch en sz pr gc gb sc sh sl ct tok (vp_updL wty (wt_cx (cx % 5) j) (wt_lm (wty (wt_cx (cx % 5) j)) (wt_pw (wt_pc (wt_lv sl tok cx i 2) (wt_aft gc gb (cx / 5) (cx % 5) j)) (nI j)))) pn lt wp sd) H := hP
                  have hD : va_D A (wX cI cZ cL q ph pa ch en sz pr gc gb sc sh sl ct tok (vp_updL wty (wt_cx (cx % 5) j) (wt_lm (wty (wt_cx (cx % 5) j)) (wt_pw (wt_pc (wt_lv sl tok cx i 2) (wt_aft gc gb (cx / 5) (cx % 5) j)) (nI j)))) pn lt wp sd) := hD
                  refine lv_iinc (v := nI (j + 1)) (lv' := [(7, .int (nI (j + 1))), (9, .long (wt_pw (wt_pc (wt_lv sl tok cx i 2) (wt_aft gc gb (cx / 5) (cx % 5) j)) (nI j))), (8, .int (nI (wt_cx (cx % 5) j))), (0, .ref (q 13)), (1, .int (nI cx)), (2, .int (nI (cx / 5))), (3, .int (nI (cx % 5))), (4, .int (nI i)), (5, .long (wt_lv sl tok cx i 2))]) hx hb dQ_endWords_115 hl (k := 8) rfl (wt_inc1 j) (by decide) rfl (fun ls hl => ?_)
                  refine lv_goto (tgt := 36) hx hb dQ_endWords_118 (by decide) ?_
                  exact ih36 (j + 1) (vp_updL wty (wt_cx (cx % 5) j) (wt_lm (wty (wt_cx (cx % 5) j)) (wt_pw (wt_pc (wt_lv sl tok cx i 2) (wt_aft gc gb (cx / 5) (cx % 5) j)) (nI j)))) (by omega) (by first | exact (congrArg (fun f => wt_up (fun w f => wt_e1 en gc gb cx i (wt_lv sl tok cx i 2) w f) r2 (j + 1) f) (e1_do c_5 c_6)).symm.trans hE2 | exact (congrArg (fun f => wt_up (fun w f => wt_e1 en gc gb cx i (wt_lv sl tok cx i 2) w f) r2 (j + 1) f) (e1_s1 c_6)).symm.trans hE2 | exact (congrArg (fun f => wt_up (fun w f => wt_e1 en gc gb cx i (wt_lv sl tok cx i 2) w f) r2 (j + 1) f) (e1_s2 c_6)).symm.trans hE2) _ _ hP hD hS ls (lv_sub hl [3, 4, 5, 6, 7, 8, 0] rfl)
        exact LP36 4 0 wtx rfl rfl _ _ hP hD hS ls (lv_sub hl [2, 3, 4, 5, 6, 1, 0] rfl)
  exact LP11 sz 1 wt (by omega) (Nat.le_refl 1) rfl _ _ hP hD hS ls (lv_sub hl [3, 4, 2, 1, 0] rfl)

set_option maxHeartbeats 4000000 in
set_option maxRecDepth 100000 in
theorem c_Q_measure (l : Launch) (dC : Nat → ClassId) (dI : Nat → Nat → Nat) (cI cZ cL : ClassId) (q : Nat → Nat) (sz0 : Nat) (ph : Nat → Nat) (pa : Nat → Nat) (ch : Nat → Nat) (en : Nat → Bool) (sz : Nat) (pr : Nat) (gc : Nat → Int32) (gb : Nat → Int32) (sc : Nat → Int32) (sh : Nat → Int32) (sl : Nat → Int32) (ct : Nat) (tok : Nat → Int64) (wt : Nat → Int64) (pn : Nat → Nat) (lt : Nat → Int64) (wp : Int64) (sd : Bool) (nn : Nat) (hnn : nn < 16) : Met l yQ_measure (Cond.code yQ_measure cQ_measure 6 none :: tb) ({ frames := 1, cells := 0, slots := 0, locals := 15 }) (va_Pc [.ref (q 13), .int (nI nn)] (wt_rw (dC, dI) vwCl [(cI, .int), (cZ, .boolean), (cL, .long)] (wX cI cZ cL q ph pa ch en sz pr gc gb sc sh sl ct tok wt pn lt wp sd) sz0)) (va_Qv (fun _ : Unit => True) (wt_B (dC, dI) vwCl (va_A (wX cI cZ cL q ph pa ch en sz pr gc gb sc sh sl ct tok wt pn lt wp sd) sz0) (wX cI cZ cL q ph pa ch en sz pr gc gb sc sh sl ct tok wt (va_up pn nn (wt_ms tok).1) (vp_updL lt nn (wt_ms tok).2) wp sd)) (va_A (wX cI cZ cL q ph pa ch en sz pr gc gb sc sh sl ct tok wt pn lt wp sd) sz0)) 0 0 (va_A (wX cI cZ cL q ph pa ch en sz pr gc gb sc sh sl ct tok wt pn lt wp sd) sz0) := by
  refine Met.ofW (cc := cQ_measure) (maxL := 6) (ret := none) (by decide) rfl ?_
  intro p e s m args below meth c s₁ B hml hv
  obtain ⟨rfl, hsz, hP, hK, hN, hD0⟩ := hv
  have hx := B.exec
  have hb := B.bytes
  have hr := B.returns
  have hts := atoms_spec (ws := (Cond.code yQ_measure cQ_measure 6 none :: tb)) B.pre
  have ht : ∀ w ∈ tb, w.before _ s = true := fun w h => hts w (List.mem_cons_of_mem _ h)
  have hown : s.vm.findClass RQ = some m.cls := findClass_of_methodNamed B.named
  have hlocks := B.notSynchronized
  subst hsz
  have hD := hD0.self (sz := s.heap.size)
  generalize hAe : va_A (wX cI cZ cL q ph pa ch en sz pr gc gb sc sh sl ct tok wt pn lt wp sd) s.heap.size = A at hD ⊢
  have hA : ∀ q : Nat, s.heap.size ≤ q → A q := fun q h => by rw [← hAe]; exact Or.inr h
  clear hAe hD0
  have hS : va_S A s.heap s.heap [] := va_S.rf
  have hl := lv_entry ([.ref (q 13), .int (nI nn)]) (n := 6) (Nat.le_of_ble_eq_true rfl)
  rw [lg_entry_eq]
  generalize (lg_sl ([.ref (q 13), .int (nI nn)]) ++ List.replicate (6 - (lg_sl ([.ref (q 13), .int (nI nn)])).length) Slot.unset).toArray = ls at hl ⊢
  have hl : lv_has ls 6 [(0, .ref (q 13)), (1, .int (nI nn))] := hl
  refine lv_iconst (v := nI 0) hx hb dQ_measure_0 (by decide) ?_
  refine lv_istore_n (lv' := [(2, .int (nI 0)), (0, .ref (q 13)), (1, .int (nI nn))]) hx hb dQ_measure_1 rfl hl (by decide) rfl (fun ls hl => ?_)
  refine lv_ldc2 (v := wt_dead) hx hb hown (ht _ m_86) dQ_measure_2 ?_
  refine lv_lstore_n (lv' := [(3, .long wt_dead), (2, .int (nI 0)), (0, .ref (q 13)), (1, .int (nI nn))]) hx hb dQ_measure_5 rfl hl (by decide) rfl (fun ls hl => ?_)
  refine lv_iconst (v := nI 0) hx hb dQ_measure_6 (by decide) ?_
  refine lv_istore (lv' := [(5, .int (nI 0)), (3, .long wt_dead), (2, .int (nI 0)), (0, .ref (q 13)), (1, .int (nI nn))]) hx hb dQ_measure_7 hl (by decide) rfl (fun ls hl => ?_)
  have LP9 : ∀ (r : Nat) (k : Nat) (cn : Nat) (lx : Int64) (hk : k + r = 1875) (hE : wt_up (fun k x => wt_ms1 tok k x) r k (cn, lx) = wt_ms tok) (H : Heap) (locs : List Loc) (hP : va_P (dC, dI) vwCl (wX cI cZ cL q ph pa ch en sz pr gc gb sc sh sl ct tok wt pn lt wp sd) H) (hD : va_D A (wX cI cZ cL q ph pa ch en sz pr gc gb sc sh sl ct tok wt pn lt wp sd)) (hS : va_S A s.heap H locs) (ls : Array Slot) (hl : lv_has ls 6 [(0, .ref (q 13)), (1, .int (nI nn)), (2, .int (nI cn)), (3, .long lx), (5, .int (nI k))]), W p l e (headSpec (Cond.code yQ_measure cQ_measure 6 none :: tb) ({ frames := 1, cells := 0, slots := 0, locals := 15 })).room s m ([.ref (q 13), .int (nI nn)] : List Value).toArray below meth c H locs 0 0 (MQ below (va_Qv (fun _ : Unit => True) (wt_B (dC, dI) vwCl A (wX cI cZ cL q ph pa ch en sz pr gc gb sc sh sl ct tok wt (va_up pn nn (wt_ms tok).1) (vp_updL lt nn (wt_ms tok).2) wp sd)) A) ([.ref (q 13), .int (nI nn)] : List Value).toArray s 0 0 A) (F0 m 9 ls []) := by
    intro r
    induction r with
    | zero =>
      intro k cn lx hk hE H locs hP hD hS ls hl
      have hl : lv_has ls 6 [(0, .ref (q 13)), (1, .int (nI nn)), (2, .int (nI cn)), (3, .long lx), (5, .int (nI k))] := hl
      refine lv_iload hx hb dQ_measure_9 (lv_at hl 4 rfl) ?_
      refine lv_aload_n hx hb dQ_measure_11 rfl (lv_at hl 0 rfl) ?_
      refine va_get (D := (dC, dI)) (ci := 4) (v := .ref (q 14)) (C := RQ) (T := TQ) (N := 8) hx hb ht inQ hown hK hP 13 rfl rfl 3 (by decide) (ht _ m_90) (fun _ h9 => h9) rfl dQ_measure_12 ?_
      refine va_alen (v := nI 1875) hx hb hK hP 14 2 rfl rfl rfl dQ_measure_15 ?_
      refine wt_icmp_ge (tgt := 54) hx hb dQ_measure_16 (by decide) (by omega) (by omega) (fun c_1 => ?_) (fun c_1 => ?_)
      · skip
        refine lv_aload_n hx hb dQ_measure_54 rfl (lv_at hl 0 rfl) ?_
        refine va_get (D := (dC, dI)) (ci := 4) (v := .ref (q 16)) (C := RQ) (T := TQ) (N := 8) hx hb ht inQ hown hK hP 13 rfl rfl 5 (by decide) (ht _ m_92) (fun _ h9 => h9) rfl dQ_measure_55 ?_
        refine lv_iload_n hx hb dQ_measure_58 rfl (lv_at hl 1 rfl) ?_
        refine lv_iload_n hx hb dQ_measure_59 rfl (lv_at hl 2 rfl) ?_
        refine wt_iastN hx hb hK hP hD hS 16 0 rfl rfl (k := nn) (by omega) (by decide) dQ_measure_60 (fun H locs hP hD hS => ?_)
        have hP : va_P (dC, dI) vwCl (wX cI cZ cL q ph pa ch en sz pr gc gb sc sh sl ct tok wt (va_up pn nn cn) lt wp sd) H := hP
        have hD : va_D A (wX cI cZ cL q ph pa ch en sz pr gc gb sc sh sl ct tok wt (va_up pn nn cn) lt wp sd) := hD
        refine lv_aload_n hx hb dQ_measure_61 rfl (lv_at hl 0 rfl) ?_
        refine va_get (D := (dC, dI)) (ci := 4) (v := .ref (q 17)) (C := RQ) (T := TQ) (N := 8) hx hb ht inQ hown hK hP 13 rfl rfl 6 (by decide) (ht _ m_93) (fun _ h9 => h9) rfl dQ_measure_62 ?_
        refine lv_iload_n hx hb dQ_measure_65 rfl (lv_at hl 1 rfl) ?_
        refine lv_lload_n hx hb dQ_measure_66 rfl (lv_at hl 3 rfl) ?_
        refine wt_last hx hb hK hP hD hS 17 2 rfl rfl (k := nn) (by omega) (by decide) dQ_measure_67 (fun H locs hP hD hS => ?_)
        have hP : va_P (dC, dI) vwCl (wX cI cZ cL q ph pa ch en sz pr gc gb sc sh sl ct tok wt (va_up pn nn cn) (vp_updL lt nn lx) wp sd) H := hP
        have hD : va_D A (wX cI cZ cL q ph pa ch en sz pr gc gb sc sh sl ct tok wt (va_up pn nn cn) (vp_updL lt nn lx) wp sd) := hD
        have hP9 : va_P (dC, dI) vwCl (wX cI cZ cL q ph pa ch en sz pr gc gb sc sh sl ct tok wt (va_up pn nn (wt_ms tok).1) (vp_updL lt nn (wt_ms tok).2) wp sd) H := by rw [show (va_up pn nn (wt_ms tok).1) = (va_up pn nn cn) from (by rw [show wt_ms tok = (cn, lx) from hE.symm]), show (vp_updL lt nn (wt_ms tok).2) = (vp_updL lt nn lx) from (by rw [show wt_ms tok = (cn, lx) from hE.symm])]; exact hP
        have hD9 : va_D A (wX cI cZ cL q ph pa ch en sz pr gc gb sc sh sl ct tok wt (va_up pn nn (wt_ms tok).1) (vp_updL lt nn (wt_ms tok).2) wp sd) := by rw [show (va_up pn nn (wt_ms tok).1) = (va_up pn nn cn) from (by rw [show wt_ms tok = (cn, lx) from hE.symm]), show (vp_updL lt nn (wt_ms tok).2) = (vp_updL lt nn lx) from (by rw [show wt_ms tok = (cn, lx) from hE.symm])]; exact hD
        exact W.vret hx hb hr (fun t ht hW => ⟨⟨(), rfl, trivial, by rw [ht]; exact hP9, hD9⟩, hS.F ht⟩) hS.2.2 dQ_measure_68
      · first | exact absurd c_1 (by omega) | exact absurd c_1 (by decide) | exact absurd (by decide) c_1
    | succ r ih9 =>
      intro k cn lx hk hE H locs hP hD hS ls hl
      have hl : lv_has ls 6 [(0, .ref (q 13)), (1, .int (nI nn)), (2, .int (nI cn)), (3, .long lx), (5, .int (nI k))] := hl
      refine lv_iload hx hb dQ_measure_9 (lv_at hl 4 rfl) ?_
      refine lv_aload_n hx hb dQ_measure_11 rfl (lv_at hl 0 rfl) ?_
      refine va_get (D := (dC, dI)) (ci := 4) (v := .ref (q 14)) (C := RQ) (T := TQ) (N := 8) hx hb ht inQ hown hK hP 13 rfl rfl 3 (by decide) (ht _ m_90) (fun _ h9 => h9) rfl dQ_measure_12 ?_
      refine va_alen (v := nI 1875) hx hb hK hP 14 2 rfl rfl rfl dQ_measure_15 ?_
      refine wt_icmp_ge (tgt := 54) hx hb dQ_measure_16 (by decide) (by omega) (by omega) (fun c_2 => ?_) (fun c_2 => ?_)
      · first | exact absurd c_2 (by omega) | exact absurd c_2 (by decide) | exact absurd (by decide) c_2
      · skip
        refine lv_aload_n hx hb dQ_measure_19 rfl (lv_at hl 0 rfl) ?_
        refine va_get (D := (dC, dI)) (ci := 4) (v := .ref (q 14)) (C := RQ) (T := TQ) (N := 8) hx hb ht inQ hown hK hP 13 rfl rfl 3 (by decide) (ht _ m_90) (fun _ h9 => h9) rfl dQ_measure_20 ?_
        refine lv_iload hx hb dQ_measure_23 (lv_at hl 4 rfl) ?_
        refine wt_lald hx hb hK hP 14 2 rfl rfl (k := k) (by omega) (by decide) dQ_measure_25 ?_
        refine lv_ldc2 (v := wt_dead) hx hb hown (ht _ m_86) dQ_measure_26 ?_
        refine W.lcmp hx hb dQ_measure_29 ?_
        refine wt_lif_eq (tgt := 48) hx hb dQ_measure_30 (by decide) (fun c_3 => ?_) (fun c_3 => ?_)
        · skip
          refine lv_iinc (v := nI (k + 1)) (lv' := [(5, .int (nI (k + 1))), (0, .ref (q 13)), (1, .int (nI nn)), (2, .int (nI cn)), (3, .long lx)]) hx hb dQ_measure_48 hl (k := 4) rfl (wt_inc1 k) (by decide) rfl (fun ls hl => ?_)
          refine lv_goto (tgt := 9) hx hb dQ_measure_51 (by decide) ?_
          exact ih9 (k + 1) cn lx (by omega) (by first | exact (congrArg (fun x => wt_up (fun k x => wt_ms1 tok k x) r (k + 1) x) (if_pos c_3)).symm.trans hE | exact (congrArg (fun x => wt_up (fun k x => wt_ms1 tok k x) r (k + 1) x) (if_neg c_3)).symm.trans hE) _ _ hP hD hS ls (lv_sub hl [1, 2, 3, 4, 0] rfl)
        · skip
          refine lv_iinc (v := nI (cn + 1)) (lv' := [(2, .int (nI (cn + 1))), (0, .ref (q 13)), (1, .int (nI nn)), (3, .long lx), (5, .int (nI k))]) hx hb dQ_measure_33 hl (k := 2) rfl (wt_inc1 cn) (by decide) rfl (fun ls hl => ?_)
          refine lv_lload_n hx hb dQ_measure_36 rfl (lv_at hl 3 rfl) ?_
          refine lv_aload_n hx hb dQ_measure_37 rfl (lv_at hl 1 rfl) ?_
          refine va_get (D := (dC, dI)) (ci := 4) (v := .ref (q 14)) (C := RQ) (T := TQ) (N := 8) hx hb ht inQ hown hK hP 13 rfl rfl 3 (by decide) (ht _ m_90) (fun _ h9 => h9) rfl dQ_measure_38 ?_
          refine lv_iload hx hb dQ_measure_41 (lv_at hl 4 rfl) ?_
          refine wt_lald hx hb hK hP 14 2 rfl rfl (k := k) (by omega) (by decide) dQ_measure_43 ?_
          refine va_mmin_long hx hb (by rw [hml]; exact hl.1.symm) hown (ht _ m_314) (ht _ m_315) (ht _ m_9) (ht _ m_316) (Nat.le_of_ble_eq_true rfl) (Nat.le_of_ble_eq_true rfl) (Nat.le_of_ble_eq_true rfl) (Nat.le_of_ble_eq_true rfl) dQ_measure_44 ?_
          refine W.eq (g2 := F0 m 47 ls [.long (wt_lm lx (tok k))]) rfl ?_
          refine lv_lstore_n (lv' := [(3, .long (wt_lm lx (tok k))), (2, .int (nI (cn + 1))), (0, .ref (q 13)), (1, .int (nI nn)), (5, .int (nI k))]) hx hb dQ_measure_47 rfl hl (by decide) rfl (fun ls hl => ?_)
          refine lv_iinc (v := nI (k + 1)) (lv' := [(5, .int (nI (k + 1))), (3, .long (wt_lm lx (tok k))), (2, .int (nI (cn + 1))), (0, .ref (q 13)), (1, .int (nI nn))]) hx hb dQ_measure_48 hl (k := 4) rfl (wt_inc1 k) (by decide) rfl (fun ls hl => ?_)
          refine lv_goto (tgt := 9) hx hb dQ_measure_51 (by decide) ?_
          exact ih9 (k + 1) (cn + 1) (wt_lm lx (tok k)) (by omega) (by first | exact (congrArg (fun x => wt_up (fun k x => wt_ms1 tok k x) r (k + 1) x) (if_pos c_3)).symm.trans hE | exact (congrArg (fun x => wt_up (fun k x => wt_ms1 tok k x) r (k + 1) x) (if_neg c_3)).symm.trans hE) _ _ hP hD hS ls (lv_sub hl [3, 4, 2, 1, 0] rfl)
  exact LP9 1875 0 0 wt_dead rfl rfl _ _ hP hD hS ls (lv_sub hl [3, 4, 2, 1, 0] rfl)

set_option maxHeartbeats 4000000 in
set_option maxRecDepth 100000 in
theorem c_Q_endPath (l : Launch) (dC : Nat → ClassId) (dI : Nat → Nat → Nat) (cI cZ cL : ClassId) (q : Nat → Nat) (sz0 : Nat) (ph : Nat → Nat) (pa : Nat → Nat) (ch : Nat → Nat) (en : Nat → Bool) (sz : Nat) (pr : Nat) (gc : Nat → Int32) (gb : Nat → Int32) (sc : Nat → Int32) (sh : Nat → Int32) (sl : Nat → Int32) (ct : Nat) (tok : Nat → Int64) (wt : Nat → Int64) (pn : Nat → Nat) (lt : Nat → Int64) (wp : Int64) (sd : Bool) : Met l yQ_endPath (Cond.code yQ_endPath cQ_endPath 5 none :: tb) ({ frames := 3, cells := 0, slots := 0, locals := 71 }) (va_Pc [.ref (q 13)] (wt_rw (dC, dI) vwCl [(cI, .int), (cZ, .boolean), (cL, .long)] (wX cI cZ cL q ph pa ch en sz pr gc gb sc sh sl ct tok wt pn lt wp sd) sz0)) (va_Qv (fun _ : Unit => True) (wt_B (dC, dI) vwCl (va_A (wX cI cZ cL q ph pa ch en sz pr gc gb sc sh sl ct tok wt pn lt wp sd) sz0) (wX cI cZ cL q ph pa ch en sz pr gc gb sc sh sl ct tok wt pn lt (wt_ep gc gb wt) sd)) (va_A (wX cI cZ cL q ph pa ch en sz pr gc gb sc sh sl ct tok wt pn lt wp sd) sz0)) 0 0 (va_A (wX cI cZ cL q ph pa ch en sz pr gc gb sc sh sl ct tok wt pn lt wp sd) sz0) := by
  refine Met.ofW (cc := cQ_endPath) (maxL := 5) (ret := none) (by decide) rfl ?_
  intro p e s m args below meth c s₁ B hml hv
  obtain ⟨rfl, hsz, hP, hK, hN, hD0⟩ := hv
  have hx := B.exec
  have hb := B.bytes
  have hr := B.returns
  have hts := atoms_spec (ws := (Cond.code yQ_endPath cQ_endPath 5 none :: tb)) B.pre
  have ht : ∀ w ∈ tb, w.before _ s = true := fun w h => hts w (List.mem_cons_of_mem _ h)
  have hown : s.vm.findClass RQ = some m.cls := findClass_of_methodNamed B.named
  have hlocks := B.notSynchronized
  subst hsz
  have hD := hD0.self (sz := s.heap.size)
  generalize hAe : va_A (wX cI cZ cL q ph pa ch en sz pr gc gb sc sh sl ct tok wt pn lt wp sd) s.heap.size = A at hD ⊢
  have hA : ∀ q : Nat, s.heap.size ≤ q → A q := fun q h => by rw [← hAe]; exact Or.inr h
  clear hAe hD0
  have hS : va_S A s.heap s.heap [] := va_S.rf
  have hl := lv_entry ([.ref (q 13)]) (n := 5) (Nat.le_of_ble_eq_true rfl)
  rw [lg_entry_eq]
  generalize (lg_sl ([.ref (q 13)]) ++ List.replicate (5 - (lg_sl ([.ref (q 13)])).length) Slot.unset).toArray = ls at hl ⊢
  have hl : lv_has ls 5 [(0, .ref (q 13))] := hl
  refine lv_aload_n hx hb dQ_endPath_0 rfl (lv_at hl 0 rfl) ?_
  refine lv_ldc2 (v := wt_dead) hx hb hown (ht _ m_86) dQ_endPath_1 ?_
  refine va_put (D := (dC, dI)) (ci := 4) (v := .long wt_dead) (ty := .long) (C := RQ) (T := TQ) (N := 8) hx hb ht inQ tyQ tyQ_ok nmQ hown hK hP hD hS 13 rfl rfl 7 (by decide) (ht _ m_94) (fun _ h9 => h9) rfl (by decide +kernel) rfl rfl (Nat.le_of_ble_eq_true rfl) dQ_endPath_4 (fun H locs hP hD hS => ?_)
  have hP : va_P (dC, dI) vwCl (wX cI cZ cL q ph pa ch en sz pr gc gb sc sh sl ct tok wt pn lt wt_dead sd) H := hP
  have hD : va_D A (wX cI cZ cL q ph pa ch en sz pr gc gb sc sh sl ct tok wt pn lt wt_dead sd) := hD
  refine lv_iconst (v := nI 0) hx hb dQ_endPath_7 (by decide) ?_
  refine lv_istore_n (lv' := [(1, .int (nI 0)), (0, .ref (q 13))]) hx hb dQ_endPath_8 rfl hl (by decide) rfl (fun ls hl => ?_)
  have LP9 : ∀ (r : Nat) (i : Nat) (wpx : Int64) (hi : i + r = 5) (hE : wt_up (fun u x => wt_up (fun v x => wt_ep1 gc gb wt u v x) 4 0 x) r i wpx = wt_ep gc gb wt) (H : Heap) (locs : List Loc) (hP : va_P (dC, dI) vwCl (wX cI cZ cL q ph pa ch en sz pr gc gb sc sh sl ct tok wt pn lt wpx sd) H) (hD : va_D A (wX cI cZ cL q ph pa ch en sz pr gc gb sc sh sl ct tok wt pn lt wpx sd)) (hS : va_S A s.heap H locs) (ls : Array Slot) (hl : lv_has ls 5 [(0, .ref (q 13)), (1, .int (nI i))]), W p l e (headSpec (Cond.code yQ_endPath cQ_endPath 5 none :: tb) ({ frames := 3, cells := 0, slots := 0, locals := 71 })).room s m ([.ref (q 13)] : List Value).toArray below meth c H locs 0 0 (MQ below (va_Qv (fun _ : Unit => True) (wt_B (dC, dI) vwCl A (wX cI cZ cL q ph pa ch en sz pr gc gb sc sh sl ct tok wt pn lt (wt_ep gc gb wt) sd)) A) ([.ref (q 13)] : List Value).toArray s 0 0 A) (F0 m 9 ls []) := by
    intro r
    induction r with
    | zero =>
      intro i wpx hi hE H locs hP hD hS ls hl
      have hl : lv_has ls 5 [(0, .ref (q 13)), (1, .int (nI i))] := hl
      refine lv_iload_n hx hb dQ_endPath_9 rfl (lv_at hl 1 rfl) ?_
      refine lv_iconst (v := nI 4) hx hb dQ_endPath_10 (by decide) ?_
      refine wt_icmp_gt (tgt := 69) hx hb dQ_endPath_11 (by decide) (by omega) (by omega) (fun c_1 => ?_) (fun c_1 => ?_)
      · skip
        have hP9 : va_P (dC, dI) vwCl (wX cI cZ cL q ph pa ch en sz pr gc gb sc sh sl ct tok wt pn lt (wt_ep gc gb wt) sd) H := by rw [show (wt_ep gc gb wt) = wpx from hE.symm]; exact hP
        have hD9 : va_D A (wX cI cZ cL q ph pa ch en sz pr gc gb sc sh sl ct tok wt pn lt (wt_ep gc gb wt) sd) := by rw [show (wt_ep gc gb wt) = wpx from hE.symm]; exact hD
        exact W.vret hx hb hr (fun t ht hW => ⟨⟨(), rfl, trivial, by rw [ht]; exact hP9, hD9⟩, hS.F ht⟩) hS.2.2 dQ_endPath_69
      · first | exact absurd c_1 (by omega) | exact absurd c_1 (by decide) | exact absurd (by decide) c_1
    | succ r ih9 =>
      intro i wpx hi hE H locs hP hD hS ls hl
      have hl : lv_has ls 5 [(0, .ref (q 13)), (1, .int (nI i))] := hl
      refine lv_iload_n hx hb dQ_endPath_9 rfl (lv_at hl 1 rfl) ?_
      refine lv_iconst (v := nI 4) hx hb dQ_endPath_10 (by decide) ?_
      refine wt_icmp_gt (tgt := 69) hx hb dQ_endPath_11 (by decide) (by omega) (by omega) (fun c_2 => ?_) (fun c_2 => ?_)
      · first | exact absurd c_2 (by omega) | exact absurd c_2 (by decide) | exact absurd (by decide) c_2
      · skip
        refine lv_iconst (v := nI 0) hx hb dQ_endPath_14 (by decide) ?_
        refine lv_istore_n (lv' := [(2, .int (nI 0)), (0, .ref (q 13)), (1, .int (nI i))]) hx hb dQ_endPath_15 rfl hl (by decide) rfl (fun ls hl => ?_)
        have LP16 : ∀ (r2 : Nat) (j : Nat) (wpy : Int64) (hj : j + r2 = 4) (hE2 : wt_up (fun v x => wt_ep1 gc gb wt i v x) r2 j wpy = wt_up (fun v x => wt_ep1 gc gb wt i v x) 4 0 wpx) (H : Heap) (locs : List Loc) (hP : va_P (dC, dI) vwCl (wX cI cZ cL q ph pa ch en sz pr gc gb sc sh sl ct tok wt pn lt wpy sd) H) (hD : va_D A (wX cI cZ cL q ph pa ch en sz pr gc gb sc sh sl ct tok wt pn lt wpy sd)) (hS : va_S A s.heap H locs) (ls : Array Slot) (hl : lv_has ls 5 [(0, .ref (q 13)), (1, .int (nI i)), (2, .int (nI j))]), W p l e (headSpec (Cond.code yQ_endPath cQ_endPath 5 none :: tb) ({ frames := 3, cells := 0, slots := 0, locals := 71 })).room s m ([.ref (q 13)] : List Value).toArray below meth c H locs 0 0 (MQ below (va_Qv (fun _ : Unit => True) (wt_B (dC, dI) vwCl A (wX cI cZ cL q ph pa ch en sz pr gc gb sc sh sl ct tok wt pn lt (wt_ep gc gb wt) sd)) A) ([.ref (q 13)] : List Value).toArray s 0 0 A) (F0 m 16 ls []) := by
          intro r2
          induction r2 with
          | zero =>
            intro j wpy hj hE2 H locs hP hD hS ls hl
            have hl : lv_has ls 5 [(0, .ref (q 13)), (1, .int (nI i)), (2, .int (nI j))] := hl
            refine lv_iload_n hx hb dQ_endPath_16 rfl (lv_at hl 2 rfl) ?_
            refine lv_iconst (v := nI 4) hx hb dQ_endPath_17 (by decide) ?_
            refine wt_icmp_ge (tgt := 63) hx hb dQ_endPath_18 (by decide) (by omega) (by omega) (fun c_3 => ?_) (fun c_3 => ?_)
            · skip
              refine lv_iinc (v := nI (i + 1)) (lv' := [(1, .int (nI (i + 1))), (0, .ref (q 13)), (2, .int (nI j))]) hx hb dQ_endPath_63 hl (k := 1) rfl (wt_inc1 i) (by decide) rfl (fun ls hl => ?_)
              refine lv_goto (tgt := 9) hx hb dQ_endPath_66 (by decide) ?_
              exact ih9 (i + 1) wpy (by omega) (by rw [show wpy = wt_up (fun v x => wt_ep1 gc gb wt i v x) 4 0 wpx from hE2]; exact hE) _ _ hP hD hS ls (lv_sub hl [1, 0] rfl)
            · first | exact absurd c_3 (by omega) | exact absurd c_3 (by decide) | exact absurd (by decide) c_3
          | succ r2 ih16 =>
            intro j wpy hj hE2 H locs hP hD hS ls hl
            have hl : lv_has ls 5 [(0, .ref (q 13)), (1, .int (nI i)), (2, .int (nI j))] := hl
            refine lv_iload_n hx hb dQ_endPath_16 rfl (lv_at hl 2 rfl) ?_
            refine lv_iconst (v := nI 4) hx hb dQ_endPath_17 (by decide) ?_
            refine wt_icmp_ge (tgt := 63) hx hb dQ_endPath_18 (by decide) (by omega) (by omega) (fun c_4 => ?_) (fun c_4 => ?_)
            · first | exact absurd c_4 (by omega) | exact absurd c_4 (by decide) | exact absurd (by decide) c_4
            · skip
              refine lv_aload_n hx hb dQ_endPath_21 rfl (lv_at hl 0 rfl) ?_
              refine va_get (D := (dC, dI)) (ci := 4) (v := .ref (q 15)) (C := RQ) (T := TQ) (N := 8) hx hb ht inQ hown hK hP 13 rfl rfl 4 (by decide) (ht _ m_91) (fun _ h9 => h9) rfl dQ_endPath_22 ?_
              refine lv_iload_n hx hb dQ_endPath_25 rfl (lv_at hl 1 rfl) ?_
              refine lv_iload_n hx hb dQ_endPath_26 rfl (lv_at hl 2 rfl) ?_
              refine wt_roi (va_runS (As := [.int (nI i), .int (nI j)]) (rest := [.ref (q 15)]) ⟨hx, hb, hml, hown, ht⟩ (c_Q_context l dC dI cI cZ cL i j) (va_cwS 2 ht (good_S m_278 m_279 m_6 m_280) rfl rfl rfl (by decide +kernel) ⟨Nat.le_of_ble_eq_true rfl, Nat.le_of_ble_eq_true rfl⟩) (wt_preS hK hN (hP.sub [] rfl)) rfl rfl hl.1 rfl (lv_room (Nat.le_of_ble_eq_true rfl)) dQ_endPath_27 ⟨Nat.le_of_ble_eq_true rfl, Nat.le_of_ble_eq_true rfl⟩) ?_
              refine wt_lald hx hb hK hP 15 2 rfl rfl (k := wt_cx i j) (by unfold wt_cx; omega) (by decide) dQ_endPath_30 ?_
              refine lv_aload_n hx hb dQ_endPath_31 rfl (lv_at hl 0 rfl) ?_
              refine va_get (D := (dC, dI)) (ci := 4) (v := .ref (q 6)) (C := RQ) (T := TQ) (N := 8) hx hb ht inQ hown hK hP 13 rfl rfl 1 (by decide) (ht _ m_88) (fun _ h9 => h9) rfl dQ_endPath_32 ?_
              refine lv_iload_n hx hb dQ_endPath_35 rfl (lv_at hl 1 rfl) ?_
              refine lv_iload_n hx hb dQ_endPath_36 rfl (lv_at hl 2 rfl) ?_
              refine lv_iconst (v := nI 4) hx hb dQ_endPath_37 (by decide) ?_
              refine wt_roi (va_runV (As := [.int (nI i), .int (nI j), .int (nI 4)]) (rest := [.long (wt (wt_cx i j))]) ⟨hx, hb, hml, hown, ht⟩ (c_G_costAfter l dC dI cI cZ cL q ph pa ch en sz pr gc gb sc sh sl ct tok wt pn lt wpy sd i j 4 (by omega) (by omega) (by omega)) (cwV 3 ht (good_V m_330 m_209 m_210 m_3 m_211) rfl rfl rfl (by decide +kernel) ⟨Nat.le_of_ble_eq_true rfl, Nat.le_of_ble_eq_true rfl⟩) (wt_preV hK hN hP (va_recv hK hP (ci := 2) (q0 := 6) rfl rfl)) rfl rfl hl.1 rfl (lv_room (Nat.le_of_ble_eq_true rfl)) dQ_endPath_38 ⟨Nat.le_of_ble_eq_true rfl, Nat.le_of_ble_eq_true rfl⟩) ?_
              refine wt_rol (va_runS (As := [.long (wt (wt_cx i j)), .int (wt_aft gc gb i j 4)]) (rest := []) ⟨hx, hb, hml, hown, ht⟩ (c_K_plusCost l dC dI cI cZ cL (wt (wt_cx i j)) (wt_aft gc gb i j 4)) (va_cwS 2 ht (good_S m_294 m_295 m_8 m_296) rfl rfl rfl (by decide +kernel) ⟨Nat.le_of_ble_eq_true rfl, Nat.le_of_ble_eq_true rfl⟩) (wt_preS hK hN (hP.sub [] rfl)) rfl rfl hl.1 rfl (lv_room (Nat.le_of_ble_eq_true rfl)) dQ_endPath_41 ⟨Nat.le_of_ble_eq_true rfl, Nat.le_of_ble_eq_true rfl⟩) ?_
              refine lv_lstore_n (lv' := [(3, .long (wt_pc (wt (wt_cx i j)) (wt_aft gc gb i j 4))), (0, .ref (q 13)), (1, .int (nI i)), (2, .int (nI j))]) hx hb dQ_endPath_44 rfl hl (by decide) rfl (fun ls hl => ?_)
              refine lv_aload_n hx hb dQ_endPath_45 rfl (lv_at hl 1 rfl) ?_
              refine lv_aload_n hx hb dQ_endPath_46 rfl (lv_at hl 1 rfl) ?_
              refine va_get (D := (dC, dI)) (ci := 4) (v := .long wpy) (C := RQ) (T := TQ) (N := 8) hx hb ht inQ hown hK hP 13 rfl rfl 7 (by decide) (ht _ m_94) (fun _ h9 => h9) rfl dQ_endPath_47 ?_
              refine lv_lload_n hx hb dQ_endPath_50 rfl (lv_at hl 0 rfl) ?_
              refine va_mmin_long hx hb (by rw [hml]; exact hl.1.symm) hown (ht _ m_314) (ht _ m_315) (ht _ m_9) (ht _ m_316) (Nat.le_of_ble_eq_true rfl) (Nat.le_of_ble_eq_true rfl) (Nat.le_of_ble_eq_true rfl) (Nat.le_of_ble_eq_true rfl) dQ_endPath_51 ?_
              refine W.eq (g2 := F0 m 54 ls [.long (wt_lm wpy (wt_pc (wt (wt_cx i j)) (wt_aft gc gb i j 4))), .ref (q 13)]) rfl ?_
              refine va_put (D := (dC, dI)) (ci := 4) (v := .long (wt_lm wpy (wt_pc (wt (wt_cx i j)) (wt_aft gc gb i j 4)))) (ty := .long) (C := RQ) (T := TQ) (N := 8) hx hb ht inQ tyQ tyQ_ok nmQ hown hK hP hD hS 13 rfl rfl 7 (by decide) (ht _ m_94) (fun _ h9 => h9) rfl (by decide +kernel) rfl rfl (Nat.le_of_ble_eq_true rfl) dQ_endPath_54 (fun H locs hP hD hS => ?_)
              have hP : va_P (dC, dI) vwCl (wX cI cZ cL q ph pa ch en sz pr gc gb sc sh sl ct tok wt pn lt (wt_lm wpy (wt_pc (wt (wt_cx i j)) (wt_aft gc gb i j 4))) sd) H := hP
              have hD : va_D A (wX cI cZ cL q ph pa ch en sz pr gc gb sc sh sl ct tok wt pn lt (wt_lm wpy (wt_pc (wt (wt_cx i j)) (wt_aft gc gb i j 4))) sd) := hD
              refine lv_iinc (v := nI (j + 1)) (lv' := [(2, .int (nI (j + 1))), (3, .long (wt_pc (wt (wt_cx i j)) (wt_aft gc gb i j 4))), (0, .ref (q 13)), (1, .int (nI i))]) hx hb dQ_endPath_57 hl (k := 3) rfl (wt_inc1 j) (by decide) rfl (fun ls hl => ?_)
              refine lv_goto (tgt := 16) hx hb dQ_endPath_60 (by decide) ?_
              exact ih16 (j + 1) (wt_lm wpy (wt_pc (wt (wt_cx i j)) (wt_aft gc gb i j 4))) (by omega) hE2 _ _ hP hD hS ls (lv_sub hl [2, 3, 0] rfl)
        exact LP16 4 0 wpx rfl rfl _ _ hP hD hS ls (lv_sub hl [1, 2, 0] rfl)
  exact LP9 5 0 wt_dead rfl rfl _ _ hP hD hS ls (lv_sub hl [1, 0] rfl)

set_option maxHeartbeats 4000000 in
set_option maxRecDepth 100000 in
theorem c_Q_run (l : Launch) (dC : Nat → ClassId) (dI : Nat → Nat → Nat) (cI cZ cL : ClassId) (q : Nat → Nat) (sz0 : Nat) (ph : Nat → Nat) (pa : Nat → Nat) (ch : Nat → Nat) (en : Nat → Bool) (sz : Nat) (pr : Nat) (gc : Nat → Int32) (gb : Nat → Int32) (sc : Nat → Int32) (sh : Nat → Int32) (sl : Nat → Int32) (ct : Nat) (tok : Nat → Int64) (wt : Nat → Int64) (pn : Nat → Nat) (lt : Nat → Int64) (wp : Int64) (sd : Bool) (hph : ∀ n, ph n < 4) (hpa : ∀ n, pa n < 25) (hsz : sz ≤ 24) (hct : ct ≤ 15) : Met l yQ_run (Cond.code yQ_run cQ_run 3 none :: tb) ({ frames := 4, cells := 0, slots := 0, locals := 101 }) (va_Pc [.ref (q 13)] (wt_rw (dC, dI) vwCl [(cI, .int), (cZ, .boolean), (cL, .long)] (wX cI cZ cL q ph pa ch en sz pr gc gb sc sh sl ct tok wt pn lt wp sd) sz0)) (va_Qv (fun _ : Unit => True) (wt_B (dC, dI) vwCl (va_A (wX cI cZ cL q ph pa ch en sz pr gc gb sc sh sl ct tok wt pn lt wp sd) sz0) (wX cI cZ cL q ph pa ch en sz pr gc gb sc sh sl ct ((wt_run ph pa en sz gc gb sc sh sl ct pn lt).1) ((wt_run ph pa en sz gc gb sc sh sl ct pn lt).2.1) ((wt_run ph pa en sz gc gb sc sh sl ct pn lt).2.2.1) ((wt_run ph pa en sz gc gb sc sh sl ct pn lt).2.2.2) (wt_ep gc gb (wt_run ph pa en sz gc gb sc sh sl ct pn lt).2.1) sd)) (va_A (wX cI cZ cL q ph pa ch en sz pr gc gb sc sh sl ct tok wt pn lt wp sd) sz0)) 0 0 (va_A (wX cI cZ cL q ph pa ch en sz pr gc gb sc sh sl ct tok wt pn lt wp sd) sz0) := by
  refine Met.ofW (cc := cQ_run) (maxL := 3) (ret := none) (by decide) rfl ?_
  intro p e s m args below meth c s₁ B hml hv
  obtain ⟨rfl, hsz, hP, hK, hN, hD0⟩ := hv
  have hx := B.exec
  have hb := B.bytes
  have hr := B.returns
  have hts := atoms_spec (ws := (Cond.code yQ_run cQ_run 3 none :: tb)) B.pre
  have ht : ∀ w ∈ tb, w.before _ s = true := fun w h => hts w (List.mem_cons_of_mem _ h)
  have hown : s.vm.findClass RQ = some m.cls := findClass_of_methodNamed B.named
  have hlocks := B.notSynchronized
  subst hsz
  have hD := hD0.self (sz := s.heap.size)
  generalize hAe : va_A (wX cI cZ cL q ph pa ch en sz pr gc gb sc sh sl ct tok wt pn lt wp sd) s.heap.size = A at hD ⊢
  have hA : ∀ q : Nat, s.heap.size ≤ q → A q := fun q h => by rw [← hAe]; exact Or.inr h
  clear hAe hD0
  have hS : va_S A s.heap s.heap [] := va_S.rf
  have hl := lv_entry ([.ref (q 13)]) (n := 3) (Nat.le_of_ble_eq_true rfl)
  rw [lg_entry_eq]
  generalize (lg_sl ([.ref (q 13)]) ++ List.replicate (3 - (lg_sl ([.ref (q 13)])).length) Slot.unset).toArray = ls at hl ⊢
  have hl : lv_has ls 3 [(0, .ref (q 13))] := hl
  refine lv_aload_n hx hb dQ_run_0 rfl (lv_at hl 0 rfl) ?_
  refine va_get (D := (dC, dI)) (ci := 4) (v := .ref (q 14)) (C := RQ) (T := TQ) (N := 8) hx hb ht inQ hown hK hP 13 rfl rfl 3 (by decide) (ht _ m_90) (fun _ h9 => h9) rfl dQ_run_1 ?_
  refine lv_ldc2 (v := wt_dead) hx hb hown (ht _ m_86) dQ_run_4 ?_
  refine wt_cutv (wc := (wJL cL (q 14) 1875 tok)) (w1 := (wJL cL (q 14) 1875 (fun _ => wt_dead))) (wr := [(q 0, .inr (0, [.ref (q 1), .ref (q 6), .ref (q 9), .ref (q 13), .int (wt_bI sd)])), (q 1, .inr (1, [.ref (q 2), .ref (q 3), .ref (q 4), .ref (q 5), .int (nI sz), .int (nI pr)])), (q 2, .inl (cI, 25, .inl (fun j => nI (ph j)))), (q 3, .inl (cI, 25, .inl (fun j => nI (pa j)))), (q 4, .inl (cI, 100, .inl (fun j => nI (ch j)))), (q 5, .inl (cZ, 100, .inl (fun j => wt_bI (en j)))), (q 6, .inr (2, [.ref (q 7), .ref (q 8)])), (q 7, .inl (cI, 216, .inl gc)), (q 8, .inl (cI, 216, .inl gb)), (q 9, .inr (3, [.ref (q 10), .ref (q 11), .ref (q 12), .int (nI ct)])), (q 10, .inl (cI, 180, .inl sc)), (q 11, .inl (cI, 3, .inl sh)), (q 12, .inl (cI, 3, .inl sl)), (q 13, .inr (4, [.ref (q 1), .ref (q 6), .ref (q 9), .ref (q 14), .ref (q 15), .ref (q 16), .ref (q 17), .long wp])), (q 15, .inl (cL, 25, .inr (.inl wt))), (q 16, .inl (cI, 16, .inl (fun j => nI (pn j)))), (q 17, .inl (cL, 16, .inr (.inl lt)))]) (w2 := (wX cI cZ cL q ph pa ch en sz pr gc gb sc sh sl ct (fun _ => wt_dead) wt pn lt wp sd)) (va_runS (As := [.ref (q 14), .long wt_dead]) (rest := []) ⟨hx, hb, hml, hown, ht⟩ (c_J_fillL l dC dI cI cZ cL (q 14) 1875 s.heap.size tok wt_dead (by decide)) (va_cwS 2 ht (good_S m_275 m_276 m_4 m_277) rfl rfl rfl (by decide +kernel) ⟨Nat.le_of_ble_eq_true rfl, Nat.le_of_ble_eq_true rfl⟩) (wt_preSw hK hN (hP.sub [14] rfl) (hD.sub [14] (by decide) rfl)) rfl rfl hl.1 rfl (lv_room (Nat.le_of_ble_eq_true rfl)) dQ_run_7 ⟨Nat.le_of_ble_eq_true rfl, Nat.le_of_ble_eq_true rfl⟩) hP hD hS hA [14] [0, 1, 2, 3, 4, 5, 6, 7, 8, 9, 10, 11, 12, 13, 15, 16, 17] rfl rfl (by decide) (by decide) [0, 1, 2, 3, 4, 5, 6, 7, 8, 9, 10, 11, 12, 13, 17, 14, 15, 16] (by decide) rfl (fun H locs hP hD hS => ?_)
  have hP : va_P (dC, dI) vwCl (wX cI cZ cL q ph pa ch en sz pr gc gb sc sh sl ct (fun _ => wt_dead) wt pn lt wp sd) H := hP
  have hD : va_D A (wX cI cZ cL q ph pa ch en sz pr gc gb sc sh sl ct (fun _ => wt_dead) wt pn lt wp sd) := hD
  refine lv_aload_n hx hb dQ_run_10 rfl (lv_at hl 0 rfl) ?_
  refine va_get (D := (dC, dI)) (ci := 4) (v := .ref (q 15)) (C := RQ) (T := TQ) (N := 8) hx hb ht inQ hown hK hP 13 rfl rfl 4 (by decide) (ht _ m_91) (fun _ h9 => h9) rfl dQ_run_11 ?_
  refine lv_ldc2 (v := wt_dead) hx hb hown (ht _ m_86) dQ_run_14 ?_
  refine wt_cutv (wc := (wJL cL (q 15) 25 wt)) (w1 := (wJL cL (q 15) 25 (fun _ => wt_dead))) (wr := [(q 0, .inr (0, [.ref (q 1), .ref (q 6), .ref (q 9), .ref (q 13), .int (wt_bI sd)])), (q 1, .inr (1, [.ref (q 2), .ref (q 3), .ref (q 4), .ref (q 5), .int (nI sz), .int (nI pr)])), (q 2, .inl (cI, 25, .inl (fun j => nI (ph j)))), (q 3, .inl (cI, 25, .inl (fun j => nI (pa j)))), (q 4, .inl (cI, 100, .inl (fun j => nI (ch j)))), (q 5, .inl (cZ, 100, .inl (fun j => wt_bI (en j)))), (q 6, .inr (2, [.ref (q 7), .ref (q 8)])), (q 7, .inl (cI, 216, .inl gc)), (q 8, .inl (cI, 216, .inl gb)), (q 9, .inr (3, [.ref (q 10), .ref (q 11), .ref (q 12), .int (nI ct)])), (q 10, .inl (cI, 180, .inl sc)), (q 11, .inl (cI, 3, .inl sh)), (q 12, .inl (cI, 3, .inl sl)), (q 13, .inr (4, [.ref (q 1), .ref (q 6), .ref (q 9), .ref (q 14), .ref (q 15), .ref (q 16), .ref (q 17), .long wp])), (q 14, .inl (cL, 1875, .inr (.inl (fun _ => wt_dead)))), (q 16, .inl (cI, 16, .inl (fun j => nI (pn j)))), (q 17, .inl (cL, 16, .inr (.inl lt)))]) (w2 := (wX cI cZ cL q ph pa ch en sz pr gc gb sc sh sl ct (fun _ => wt_dead) (fun _ => wt_dead) pn lt wp sd)) (va_runS (As := [.ref (q 15), .long wt_dead]) (rest := []) ⟨hx, hb, hml, hown, ht⟩ (c_J_fillL l dC dI cI cZ cL (q 15) 25 H.size wt wt_dead (by decide)) (va_cwS 2 ht (good_S m_275 m_276 m_4 m_277) rfl rfl rfl (by decide +kernel) ⟨Nat.le_of_ble_eq_true rfl, Nat.le_of_ble_eq_true rfl⟩) (wt_preSw hK hN (hP.sub [15] rfl) (hD.sub [15] (by decide) rfl)) rfl rfl hl.1 rfl (lv_room (Nat.le_of_ble_eq_true rfl)) dQ_run_17 ⟨Nat.le_of_ble_eq_true rfl, Nat.le_of_ble_eq_true rfl⟩) hP hD hS hA [15] [0, 1, 2, 3, 4, 5, 6, 7, 8, 9, 10, 11, 12, 13, 14, 16, 17] rfl rfl (by decide) (by decide) [0, 1, 2, 3, 4, 5, 6, 7, 8, 9, 10, 11, 12, 13, 14, 17, 15, 16] (by decide) rfl (fun H locs hP hD hS => ?_)
  have hP : va_P (dC, dI) vwCl (wX cI cZ cL q ph pa ch en sz pr gc gb sc sh sl ct (fun _ => wt_dead) (fun _ => wt_dead) pn lt wp sd) H := hP
  have hD : va_D A (wX cI cZ cL q ph pa ch en sz pr gc gb sc sh sl ct (fun _ => wt_dead) (fun _ => wt_dead) pn lt wp sd) := hD
  refine lv_aload_n hx hb dQ_run_20 rfl (lv_at hl 0 rfl) ?_
  refine va_get (D := (dC, dI)) (ci := 4) (v := .ref (q 15)) (C := RQ) (T := TQ) (N := 8) hx hb ht inQ hown hK hP 13 rfl rfl 4 (by decide) (ht _ m_91) (fun _ h9 => h9) rfl dQ_run_21 ?_
  refine lv_iconst (v := nI 4) hx hb dQ_run_24 (by decide) ?_
  refine lv_iconst (v := nI 4) hx hb dQ_run_25 (by decide) ?_
  refine wt_roi (va_runS (As := [.int (nI 4), .int (nI 4)]) (rest := [.ref (q 15)]) ⟨hx, hb, hml, hown, ht⟩ (c_Q_context l dC dI cI cZ cL 4 4) (va_cwS 2 ht (good_S m_278 m_279 m_6 m_280) rfl rfl rfl (by decide +kernel) ⟨Nat.le_of_ble_eq_true rfl, Nat.le_of_ble_eq_true rfl⟩) (wt_preS hK hN (hP.sub [] rfl)) rfl rfl hl.1 rfl (lv_room (Nat.le_of_ble_eq_true rfl)) dQ_run_26 ⟨Nat.le_of_ble_eq_true rfl, Nat.le_of_ble_eq_true rfl⟩) ?_
  refine lv_lconst (v := 0) hx hb dQ_run_29 (by decide) ?_
  refine wt_last hx hb hK hP hD hS 15 2 rfl rfl (k := wt_cx 4 4) (by unfold wt_cx; omega) (by decide) dQ_run_30 (fun H locs hP hD hS => ?_)
  have hP : va_P (dC, dI) vwCl (wX cI cZ cL q ph pa ch en sz pr gc gb sc sh sl ct (fun _ => wt_dead) (vp_updL (fun _ => wt_dead) (wt_cx 4 4) 0) pn lt wp sd) H := hP
  have hD : va_D A (wX cI cZ cL q ph pa ch en sz pr gc gb sc sh sl ct (fun _ => wt_dead) (vp_updL (fun _ => wt_dead) (wt_cx 4 4) 0) pn lt wp sd) := hD
  refine lv_iconst (v := nI 0) hx hb dQ_run_31 (by decide) ?_
  refine lv_istore_n (lv' := [(1, .int (nI 0)), (0, .ref (q 13))]) hx hb dQ_run_32 rfl hl (by decide) rfl (fun ls hl => ?_)
  have LP33 : ∀ (r : Nat) (i : Nat) (tokx : Nat → Int64) (wtx : Nat → Int64) (pnx : Nat → Nat) (ltx : Nat → Int64) (hi : i + r = ct) (hE : wt_up (fun t x => wt_fr ph pa en sz gc gb sc sh sl t x) r i (tokx, wtx, pnx, ltx) = wt_run ph pa en sz gc gb sc sh sl ct pn lt) (H : Heap) (locs : List Loc) (hP : va_P (dC, dI) vwCl (wX cI cZ cL q ph pa ch en sz pr gc gb sc sh sl ct tokx wtx pnx ltx wp sd) H) (hD : va_D A (wX cI cZ cL q ph pa ch en sz pr gc gb sc sh sl ct tokx wtx pnx ltx wp sd)) (hS : va_S A s.heap H locs) (ls : Array Slot) (hl : lv_has ls 3 [(0, .ref (q 13)), (1, .int (nI i))]), W p l e (headSpec (Cond.code yQ_run cQ_run 3 none :: tb) ({ frames := 4, cells := 0, slots := 0, locals := 101 })).room s m ([.ref (q 13)] : List Value).toArray below meth c H locs 0 0 (MQ below (va_Qv (fun _ : Unit => True) (wt_B (dC, dI) vwCl A (wX cI cZ cL q ph pa ch en sz pr gc gb sc sh sl ct ((wt_run ph pa en sz gc gb sc sh sl ct pn lt).1) ((wt_run ph pa en sz gc gb sc sh sl ct pn lt).2.1) ((wt_run ph pa en sz gc gb sc sh sl ct pn lt).2.2.1) ((wt_run ph pa en sz gc gb sc sh sl ct pn lt).2.2.2) (wt_ep gc gb (wt_run ph pa en sz gc gb sc sh sl ct pn lt).2.1) sd)) A) ([.ref (q 13)] : List Value).toArray s 0 0 A) (F0 m 33 ls []) := by
    intro r
    induction r with
    | zero =>
      intro i tokx wtx pnx ltx hi hE H locs hP hD hS ls hl
      have hl : lv_has ls 3 [(0, .ref (q 13)), (1, .int (nI i))] := hl
      refine lv_iload_n hx hb dQ_run_33 rfl (lv_at hl 1 rfl) ?_
      refine lv_aload_n hx hb dQ_run_34 rfl (lv_at hl 0 rfl) ?_
      refine va_get (D := (dC, dI)) (ci := 4) (v := .ref (q 9)) (C := RQ) (T := TQ) (N := 8) hx hb ht inQ hown hK hP 13 rfl rfl 2 (by decide) (ht _ m_89) (fun _ h9 => h9) rfl dQ_run_35 ?_
      refine wt_roi (va_runV (As := []) (rest := [.int (nI i)]) ⟨hx, hb, hml, hown, ht⟩ (c_S_count l dC dI cI cZ cL q ph pa ch en sz pr gc gb sc sh sl ct tokx wtx pnx ltx wp sd) (cwV 0 ht (good_V m_281 m_232 m_233 m_5 m_234) rfl rfl rfl (by decide +kernel) ⟨Nat.le_of_ble_eq_true rfl, Nat.le_of_ble_eq_true rfl⟩) (wt_preV hK hN hP (va_recv hK hP (ci := 3) (q0 := 9) rfl rfl)) rfl rfl hl.1 rfl (lv_room (Nat.le_of_ble_eq_true rfl)) dQ_run_38 ⟨Nat.le_of_ble_eq_true rfl, Nat.le_of_ble_eq_true rfl⟩) ?_
      refine wt_icmp_ge (tgt := 106) hx hb dQ_run_41 (by decide) (by omega) (by omega) (fun c_1 => ?_) (fun c_1 => ?_)
      · skip
        refine lv_aload_n hx hb dQ_run_106 rfl (lv_at hl 0 rfl) ?_
        refine wt_rwv (va_runV (As := []) (rest := []) ⟨hx, hb, hml, hown, ht⟩ (c_Q_endPath l dC dI cI cZ cL q H.size ph pa ch en sz pr gc gb sc sh sl ct tokx wtx pnx ltx wp sd) (cwV 0 ht (good_V m_341 m_343 ms_9 m_6 m_344) rfl rfl rfl (by decide +kernel) ⟨Nat.le_of_ble_eq_true rfl, Nat.le_of_ble_eq_true rfl⟩) (wt_preVw hK hN hP hD (va_recv hK hP (ci := 4) (q0 := 13) rfl rfl)) rfl rfl hl.1 rfl (lv_room (Nat.le_of_ble_eq_true rfl)) dQ_run_107 ⟨Nat.le_of_ble_eq_true rfl, Nat.le_of_ble_eq_true rfl⟩) hD hS hA (fun H locs hP hD hS => ?_)
        have hP : va_P (dC, dI) vwCl (wX cI cZ cL q ph pa ch en sz pr gc gb sc sh sl ct tokx wtx pnx ltx (wt_ep gc gb wtx) sd) H := hP
        have hD : va_D A (wX cI cZ cL q ph pa ch en sz pr gc gb sc sh sl ct tokx wtx pnx ltx (wt_ep gc gb wtx) sd) := hD
        have hP9 : va_P (dC, dI) vwCl (wX cI cZ cL q ph pa ch en sz pr gc gb sc sh sl ct ((wt_run ph pa en sz gc gb sc sh sl ct pn lt).1) ((wt_run ph pa en sz gc gb sc sh sl ct pn lt).2.1) ((wt_run ph pa en sz gc gb sc sh sl ct pn lt).2.2.1) ((wt_run ph pa en sz gc gb sc sh sl ct pn lt).2.2.2) (wt_ep gc gb (wt_run ph pa en sz gc gb sc sh sl ct pn lt).2.1) sd) H := by rw [show ((wt_run ph pa en sz gc gb sc sh sl ct pn lt).1) = tokx from (by rw [show wt_run ph pa en sz gc gb sc sh sl ct pn lt = (tokx, wtx, pnx, ltx) from hE.symm]), show ((wt_run ph pa en sz gc gb sc sh sl ct pn lt).2.1) = wtx from (by rw [show wt_run ph pa en sz gc gb sc sh sl ct pn lt = (tokx, wtx, pnx, ltx) from hE.symm]), show ((wt_run ph pa en sz gc gb sc sh sl ct pn lt).2.2.1) = pnx from (by rw [show wt_run ph pa en sz gc gb sc sh sl ct pn lt = (tokx, wtx, pnx, ltx) from hE.symm]), show ((wt_run ph pa en sz gc gb sc sh sl ct pn lt).2.2.2) = ltx from (by rw [show wt_run ph pa en sz gc gb sc sh sl ct pn lt = (tokx, wtx, pnx, ltx) from hE.symm])]; exact hP
        have hD9 : va_D A (wX cI cZ cL q ph pa ch en sz pr gc gb sc sh sl ct ((wt_run ph pa en sz gc gb sc sh sl ct pn lt).1) ((wt_run ph pa en sz gc gb sc sh sl ct pn lt).2.1) ((wt_run ph pa en sz gc gb sc sh sl ct pn lt).2.2.1) ((wt_run ph pa en sz gc gb sc sh sl ct pn lt).2.2.2) (wt_ep gc gb (wt_run ph pa en sz gc gb sc sh sl ct pn lt).2.1) sd) := by rw [show ((wt_run ph pa en sz gc gb sc sh sl ct pn lt).1) = tokx from (by rw [show wt_run ph pa en sz gc gb sc sh sl ct pn lt = (tokx, wtx, pnx, ltx) from hE.symm]), show ((wt_run ph pa en sz gc gb sc sh sl ct pn lt).2.1) = wtx from (by rw [show wt_run ph pa en sz gc gb sc sh sl ct pn lt = (tokx, wtx, pnx, ltx) from hE.symm]), show ((wt_run ph pa en sz gc gb sc sh sl ct pn lt).2.2.1) = pnx from (by rw [show wt_run ph pa en sz gc gb sc sh sl ct pn lt = (tokx, wtx, pnx, ltx) from hE.symm]), show ((wt_run ph pa en sz gc gb sc sh sl ct pn lt).2.2.2) = ltx from (by rw [show wt_run ph pa en sz gc gb sc sh sl ct pn lt = (tokx, wtx, pnx, ltx) from hE.symm])]; exact hD
        exact W.vret hx hb hr (fun t ht hW => ⟨⟨(), rfl, trivial, by rw [ht]; exact hP9, hD9⟩, hS.F ht⟩) hS.2.2 dQ_run_110
      · first | exact absurd c_1 (by omega) | exact absurd c_1 (by decide) | exact absurd (by decide) c_1
    | succ r ih33 =>
      intro i tokx wtx pnx ltx hi hE H locs hP hD hS ls hl
      have hl : lv_has ls 3 [(0, .ref (q 13)), (1, .int (nI i))] := hl
      refine lv_iload_n hx hb dQ_run_33 rfl (lv_at hl 1 rfl) ?_
      refine lv_aload_n hx hb dQ_run_34 rfl (lv_at hl 0 rfl) ?_
      refine va_get (D := (dC, dI)) (ci := 4) (v := .ref (q 9)) (C := RQ) (T := TQ) (N := 8) hx hb ht inQ hown hK hP 13 rfl rfl 2 (by decide) (ht _ m_89) (fun _ h9 => h9) rfl dQ_run_35 ?_
      refine wt_roi (va_runV (As := []) (rest := [.int (nI i)]) ⟨hx, hb, hml, hown, ht⟩ (c_S_count l dC dI cI cZ cL q ph pa ch en sz pr gc gb sc sh sl ct tokx wtx pnx ltx wp sd) (cwV 0 ht (good_V m_281 m_232 m_233 m_5 m_234) rfl rfl rfl (by decide +kernel) ⟨Nat.le_of_ble_eq_true rfl, Nat.le_of_ble_eq_true rfl⟩) (wt_preV hK hN hP (va_recv hK hP (ci := 3) (q0 := 9) rfl rfl)) rfl rfl hl.1 rfl (lv_room (Nat.le_of_ble_eq_true rfl)) dQ_run_38 ⟨Nat.le_of_ble_eq_true rfl, Nat.le_of_ble_eq_true rfl⟩) ?_
      refine wt_icmp_ge (tgt := 106) hx hb dQ_run_41 (by decide) (by omega) (by omega) (fun c_2 => ?_) (fun c_2 => ?_)
      · first | exact absurd c_2 (by omega) | exact absurd c_2 (by decide) | exact absurd (by decide) c_2
      · skip
        refine lv_iconst (v := nI 0) hx hb dQ_run_44 (by decide) ?_
        refine lv_istore_n (lv' := [(2, .int (nI 0)), (0, .ref (q 13)), (1, .int (nI i))]) hx hb dQ_run_45 rfl hl (by decide) rfl (fun ls hl => ?_)
        have LP46 : ∀ (r2 : Nat) (j : Nat) (toky : Nat → Int64) (hj : j + r2 = 25) (hE2 : wt_up (fun c f => wt_hear ph pa sz sc sh sl wtx i c f) r2 j toky = wt_ha ph pa sz sc sh sl wtx i tokx) (H : Heap) (locs : List Loc) (hP : va_P (dC, dI) vwCl (wX cI cZ cL q ph pa ch en sz pr gc gb sc sh sl ct toky wtx pnx ltx wp sd) H) (hD : va_D A (wX cI cZ cL q ph pa ch en sz pr gc gb sc sh sl ct toky wtx pnx ltx wp sd)) (hS : va_S A s.heap H locs) (ls : Array Slot) (hl : lv_has ls 3 [(0, .ref (q 13)), (1, .int (nI i)), (2, .int (nI j))]), W p l e (headSpec (Cond.code yQ_run cQ_run 3 none :: tb) ({ frames := 4, cells := 0, slots := 0, locals := 101 })).room s m ([.ref (q 13)] : List Value).toArray below meth c H locs 0 0 (MQ below (va_Qv (fun _ : Unit => True) (wt_B (dC, dI) vwCl A (wX cI cZ cL q ph pa ch en sz pr gc gb sc sh sl ct ((wt_run ph pa en sz gc gb sc sh sl ct pn lt).1) ((wt_run ph pa en sz gc gb sc sh sl ct pn lt).2.1) ((wt_run ph pa en sz gc gb sc sh sl ct pn lt).2.2.1) ((wt_run ph pa en sz gc gb sc sh sl ct pn lt).2.2.2) (wt_ep gc gb (wt_run ph pa en sz gc gb sc sh sl ct pn lt).2.1) sd)) A) ([.ref (q 13)] : List Value).toArray s 0 0 A) (F0 m 46 ls []) := by
          intro r2
          induction r2 with
          | zero =>
            intro j toky hj hE2 H locs hP hD hS ls hl
            have hl : lv_has ls 3 [(0, .ref (q 13)), (1, .int (nI i)), (2, .int (nI j))] := hl
            refine lv_iload_n hx hb dQ_run_46 rfl (lv_at hl 2 rfl) ?_
            refine lv_bipush (v := nI 25) hx hb dQ_run_47 (by decide) ?_
            refine wt_icmp_ge (tgt := 64) hx hb dQ_run_49 (by decide) (by omega) (by omega) (fun c_3 => ?_) (fun c_3 => ?_)
            · skip
              refine lv_aload_n hx hb dQ_run_64 rfl (lv_at hl 0 rfl) ?_
              refine va_get (D := (dC, dI)) (ci := 4) (v := .ref (q 15)) (C := RQ) (T := TQ) (N := 8) hx hb ht inQ hown hK hP 13 rfl rfl 4 (by decide) (ht _ m_91) (fun _ h9 => h9) rfl dQ_run_65 ?_
              refine lv_ldc2 (v := wt_dead) hx hb hown (ht _ m_86) dQ_run_68 ?_
              refine wt_cutv (wc := (wJL cL (q 15) 25 wtx)) (w1 := (wJL cL (q 15) 25 (fun _ => wt_dead))) (wr := [(q 0, .inr (0, [.ref (q 1), .ref (q 6), .ref (q 9), .ref (q 13), .int (wt_bI sd)])), (q 1, .inr (1, [.ref (q 2), .ref (q 3), .ref (q 4), .ref (q 5), .int (nI sz), .int (nI pr)])), (q 2, .inl (cI, 25, .inl (fun j => nI (ph j)))), (q 3, .inl (cI, 25, .inl (fun j => nI (pa j)))), (q 4, .inl (cI, 100, .inl (fun j => nI (ch j)))), (q 5, .inl (cZ, 100, .inl (fun j => wt_bI (en j)))), (q 6, .inr (2, [.ref (q 7), .ref (q 8)])), (q 7, .inl (cI, 216, .inl gc)), (q 8, .inl (cI, 216, .inl gb)), (q 9, .inr (3, [.ref (q 10), .ref (q 11), .ref (q 12), .int (nI ct)])), (q 10, .inl (cI, 180, .inl sc)), (q 11, .inl (cI, 3, .inl sh)), (q 12, .inl (cI, 3, .inl sl)), (q 13, .inr (4, [.ref (q 1), .ref (q 6), .ref (q 9), .ref (q 14), .ref (q 15), .ref (q 16), .ref (q 17), .long wp])), (q 14, .inl (cL, 1875, .inr (.inl toky))), (q 16, .inl (cI, 16, .inl (fun j => nI (pnx j)))), (q 17, .inl (cL, 16, .inr (.inl ltx)))]) (w2 := (wX cI cZ cL q ph pa ch en sz pr gc gb sc sh sl ct toky (fun _ => wt_dead) pnx ltx wp sd)) (va_runS (As := [.ref (q 15), .long wt_dead]) (rest := []) ⟨hx, hb, hml, hown, ht⟩ (c_J_fillL l dC dI cI cZ cL (q 15) 25 H.size wtx wt_dead (by decide)) (va_cwS 2 ht (good_S m_275 m_276 m_4 m_277) rfl rfl rfl (by decide +kernel) ⟨Nat.le_of_ble_eq_true rfl, Nat.le_of_ble_eq_true rfl⟩) (wt_preSw hK hN (hP.sub [15] rfl) (hD.sub [15] (by decide) rfl)) rfl rfl hl.1 rfl (lv_room (Nat.le_of_ble_eq_true rfl)) dQ_run_71 ⟨Nat.le_of_ble_eq_true rfl, Nat.le_of_ble_eq_true rfl⟩) hP hD hS hA [15] [0, 1, 2, 3, 4, 5, 6, 7, 8, 9, 10, 11, 12, 13, 14, 16, 17] rfl rfl (by decide) (by decide) [0, 1, 2, 3, 4, 5, 6, 7, 8, 9, 10, 11, 12, 13, 14, 17, 15, 16] (by decide) rfl (fun H locs hP hD hS => ?_)
              have hP : va_P (dC, dI) vwCl (wX cI cZ cL q ph pa ch en sz pr gc gb sc sh sl ct toky (fun _ => wt_dead) pnx ltx wp sd) H := hP
              have hD : va_D A (wX cI cZ cL q ph pa ch en sz pr gc gb sc sh sl ct toky (fun _ => wt_dead) pnx ltx wp sd) := hD
              refine lv_iconst (v := nI 0) hx hb dQ_run_74 (by decide) ?_
              refine lv_istore_n (lv' := [(2, .int (nI 0)), (0, .ref (q 13)), (1, .int (nI i))]) hx hb dQ_run_75 rfl hl (by decide) rfl (fun ls hl => ?_)
              have LP76 : ∀ (r3 : Nat) (j3 : Nat) (wty : Nat → Int64) (hj3 : j3 + r3 = 25) (hE3 : wt_up (fun c f => wt_end en sz gc gb sl toky c f) r3 j3 wty = wt_ea en sz gc gb sl toky) (H : Heap) (locs : List Loc) (hP : va_P (dC, dI) vwCl (wX cI cZ cL q ph pa ch en sz pr gc gb sc sh sl ct toky wty pnx ltx wp sd) H) (hD : va_D A (wX cI cZ cL q ph pa ch en sz pr gc gb sc sh sl ct toky wty pnx ltx wp sd)) (hS : va_S A s.heap H locs) (ls : Array Slot) (hl : lv_has ls 3 [(0, .ref (q 13)), (1, .int (nI i)), (2, .int (nI j3))]), W p l e (headSpec (Cond.code yQ_run cQ_run 3 none :: tb) ({ frames := 4, cells := 0, slots := 0, locals := 101 })).room s m ([.ref (q 13)] : List Value).toArray below meth c H locs 0 0 (MQ below (va_Qv (fun _ : Unit => True) (wt_B (dC, dI) vwCl A (wX cI cZ cL q ph pa ch en sz pr gc gb sc sh sl ct ((wt_run ph pa en sz gc gb sc sh sl ct pn lt).1) ((wt_run ph pa en sz gc gb sc sh sl ct pn lt).2.1) ((wt_run ph pa en sz gc gb sc sh sl ct pn lt).2.2.1) ((wt_run ph pa en sz gc gb sc sh sl ct pn lt).2.2.2) (wt_ep gc gb (wt_run ph pa en sz gc gb sc sh sl ct pn lt).2.1) sd)) A) ([.ref (q 13)] : List Value).toArray s 0 0 A) (F0 m 76 ls []) := by
                intro r3
                induction r3 with
                | zero =>
                  intro j3 wty hj3 hE3 H locs hP hD hS ls hl
                  have hl : lv_has ls 3 [(0, .ref (q 13)), (1, .int (nI i)), (2, .int (nI j3))] := hl
                  refine lv_iload_n hx hb dQ_run_76 rfl (lv_at hl 2 rfl) ?_
                  refine lv_bipush (v := nI 25) hx hb dQ_run_77 (by decide) ?_
                  refine wt_icmp_ge (tgt := 93) hx hb dQ_run_79 (by decide) (by omega) (by omega) (fun c_4 => ?_) (fun c_4 => ?_)
                  · skip
                    refine lv_aload_n hx hb dQ_run_93 rfl (lv_at hl 0 rfl) ?_
                    refine lv_iload_n hx hb dQ_run_94 rfl (lv_at hl 1 rfl) ?_
                    refine lv_iconst (v := nI 1) hx hb dQ_run_95 (by decide) ?_
                    refine wt_iadd hx hb dQ_run_96 ?_
                    refine wt_rwv (va_runV (As := [.int (nI (i + 1))]) (rest := []) ⟨hx, hb, hml, hown, ht⟩ (c_Q_measure l dC dI cI cZ cL q H.size ph pa ch en sz pr gc gb sc sh sl ct toky wty pnx ltx wp sd (i + 1) (by omega)) (cwV 1 ht (good_V m_337 m_339 ms_8 m_6 m_340) rfl rfl rfl (by decide +kernel) ⟨Nat.le_of_ble_eq_true rfl, Nat.le_of_ble_eq_true rfl⟩) (wt_preVw hK hN hP hD (va_recv hK hP (ci := 4) (q0 := 13) rfl rfl)) rfl rfl hl.1 rfl (lv_room (Nat.le_of_ble_eq_true rfl)) dQ_run_97 ⟨Nat.le_of_ble_eq_true rfl, Nat.le_of_ble_eq_true rfl⟩) hD hS hA (fun H locs hP hD hS => ?_)
                    have hP : va_P (dC, dI) vwCl (wX cI cZ cL q ph pa ch en sz pr gc gb sc sh sl ct toky wty (va_up pnx (i + 1) (wt_ms toky).1) (vp_updL ltx (i + 1) (wt_ms toky).2) wp sd) H := hP
                    have hD : va_D A (wX cI cZ cL q ph pa ch en sz pr gc gb sc sh sl ct toky wty (va_up pnx (i + 1) (wt_ms toky).1) (vp_updL ltx (i + 1) (wt_ms toky).2) wp sd) := hD
                    refine lv_iinc (v := nI (i + 1)) (lv' := [(1, .int (nI (i + 1))), (0, .ref (q 13)), (2, .int (nI j3))]) hx hb dQ_run_100 hl (k := 1) rfl (wt_inc1 i) (by decide) rfl (fun ls hl => ?_)
                    refine lv_goto (tgt := 33) hx hb dQ_run_103 (by decide) ?_
                    exact ih33 (i + 1) toky wty (va_up pnx (i + 1) (wt_ms toky).1) (vp_updL ltx (i + 1) (wt_ms toky).2) (by omega) (by rw [show wty = wt_ea en sz gc gb sl toky from hE3, show toky = wt_ha ph pa sz sc sh sl wtx i tokx from hE2]; exact hE) _ _ hP hD hS ls (lv_sub hl [1, 0] rfl)
                  · first | exact absurd c_4 (by omega) | exact absurd c_4 (by decide) | exact absurd (by decide) c_4
                | succ r3 ih76 =>
                  intro j3 wty hj3 hE3 H locs hP hD hS ls hl
                  have hl : lv_has ls 3 [(0, .ref (q 13)), (1, .int (nI i)), (2, .int (nI j3))] := hl
                  refine lv_iload_n hx hb dQ_run_76 rfl (lv_at hl 2 rfl) ?_
                  refine lv_bipush (v := nI 25) hx hb dQ_run_77 (by decide) ?_
                  refine wt_icmp_ge (tgt := 93) hx hb dQ_run_79 (by decide) (by omega) (by omega) (fun c_5 => ?_) (fun c_5 => ?_)
                  · first | exact absurd c_5 (by omega) | exact absurd c_5 (by decide) | exact absurd (by decide) c_5
                  · skip
                    refine lv_aload_n hx hb dQ_run_82 rfl (lv_at hl 0 rfl) ?_
                    refine lv_iload_n hx hb dQ_run_83 rfl (lv_at hl 2 rfl) ?_
                    refine wt_rwv (va_runV (As := [.int (nI j3)]) (rest := []) ⟨hx, hb, hml, hown, ht⟩ (c_Q_endWords l dC dI cI cZ cL q H.size ph pa ch en sz pr gc gb sc sh sl ct toky wty pnx ltx wp sd j3 (by omega) hsz) (cwV 1 ht (good_V m_325 m_327 ms_7 m_6 m_328) rfl rfl rfl (by decide +kernel) ⟨Nat.le_of_ble_eq_true rfl, Nat.le_of_ble_eq_true rfl⟩) (wt_preVw hK hN hP hD (va_recv hK hP (ci := 4) (q0 := 13) rfl rfl)) rfl rfl hl.1 rfl (lv_room (Nat.le_of_ble_eq_true rfl)) dQ_run_84 ⟨Nat.le_of_ble_eq_true rfl, Nat.le_of_ble_eq_true rfl⟩) hD hS hA (fun H locs hP hD hS => ?_)
                    have hP : va_P (dC, dI) vwCl (wX cI cZ cL q ph pa ch en sz pr gc gb sc sh sl ct toky (wt_end en sz gc gb sl toky j3 wty) pnx ltx wp sd) H := hP
                    have hD : va_D A (wX cI cZ cL q ph pa ch en sz pr gc gb sc sh sl ct toky (wt_end en sz gc gb sl toky j3 wty) pnx ltx wp sd) := hD
                    refine lv_iinc (v := nI (j3 + 1)) (lv' := [(2, .int (nI (j3 + 1))), (0, .ref (q 13)), (1, .int (nI i))]) hx hb dQ_run_87 hl (k := 2) rfl (wt_inc1 j3) (by decide) rfl (fun ls hl => ?_)
                    refine lv_goto (tgt := 76) hx hb dQ_run_90 (by decide) ?_
                    exact ih76 (j3 + 1) (wt_end en sz gc gb sl toky j3 wty) (by omega) hE3 _ _ hP hD hS ls (lv_sub hl [1, 2, 0] rfl)
              exact LP76 25 0 (fun _ => wt_dead) rfl rfl _ _ hP hD hS ls (lv_sub hl [1, 2, 0] rfl)
            · first | exact absurd c_3 (by omega) | exact absurd c_3 (by decide) | exact absurd (by decide) c_3
          | succ r2 ih46 =>
            intro j toky hj hE2 H locs hP hD hS ls hl
            have hl : lv_has ls 3 [(0, .ref (q 13)), (1, .int (nI i)), (2, .int (nI j))] := hl
            refine lv_iload_n hx hb dQ_run_46 rfl (lv_at hl 2 rfl) ?_
            refine lv_bipush (v := nI 25) hx hb dQ_run_47 (by decide) ?_
            refine wt_icmp_ge (tgt := 64) hx hb dQ_run_49 (by decide) (by omega) (by omega) (fun c_6 => ?_) (fun c_6 => ?_)
            · first | exact absurd c_6 (by omega) | exact absurd c_6 (by decide) | exact absurd (by decide) c_6
            · skip
              refine lv_aload_n hx hb dQ_run_52 rfl (lv_at hl 0 rfl) ?_
              refine lv_iload_n hx hb dQ_run_53 rfl (lv_at hl 1 rfl) ?_
              refine lv_iload_n hx hb dQ_run_54 rfl (lv_at hl 2 rfl) ?_
              refine wt_rwv (va_runV (As := [.int (nI i), .int (nI j)]) (rest := []) ⟨hx, hb, hml, hown, ht⟩ (c_Q_hear l dC dI cI cZ cL q H.size ph pa ch en sz pr gc gb sc sh sl ct toky wtx pnx ltx wp sd i j (by omega) (by omega) hph hpa hsz) (cwV 2 ht (good_V m_282 m_284 ms_4 m_6 m_285) rfl rfl rfl (by decide +kernel) ⟨Nat.le_of_ble_eq_true rfl, Nat.le_of_ble_eq_true rfl⟩) (wt_preVw hK hN hP hD (va_recv hK hP (ci := 4) (q0 := 13) rfl rfl)) rfl rfl hl.1 rfl (lv_room (Nat.le_of_ble_eq_true rfl)) dQ_run_55 ⟨Nat.le_of_ble_eq_true rfl, Nat.le_of_ble_eq_true rfl⟩) hD hS hA (fun H locs hP hD hS => ?_)
              have hP : va_P (dC, dI) vwCl (wX cI cZ cL q ph pa ch en sz pr gc gb sc sh sl ct (wt_hear ph pa sz sc sh sl wtx i j toky) wtx pnx ltx wp sd) H := hP
              have hD : va_D A (wX cI cZ cL q ph pa ch en sz pr gc gb sc sh sl ct (wt_hear ph pa sz sc sh sl wtx i j toky) wtx pnx ltx wp sd) := hD
              refine lv_iinc (v := nI (j + 1)) (lv' := [(2, .int (nI (j + 1))), (0, .ref (q 13)), (1, .int (nI i))]) hx hb dQ_run_58 hl (k := 2) rfl (wt_inc1 j) (by decide) rfl (fun ls hl => ?_)
              refine lv_goto (tgt := 46) hx hb dQ_run_61 (by decide) ?_
              exact ih46 (j + 1) (wt_hear ph pa sz sc sh sl wtx i j toky) (by omega) hE2 _ _ hP hD hS ls (lv_sub hl [1, 2, 0] rfl)
        exact LP46 25 0 tokx rfl rfl _ _ hP hD hS ls (lv_sub hl [1, 2, 0] rfl)
  exact LP33 ct 0 (fun _ => wt_dead) (vp_updL (fun _ => wt_dead) (wt_cx 4 4) 0) pn lt (Nat.zero_add ct) rfl _ _ hP hD hS ls (lv_sub hl [1, 0] rfl)
