theorem wt_rn {j n : Nat} (h : j < n) (hn : n < 2 ^ 31) : ¬ wt_rng (nI j) n = 0 := by rw [wt_rng_nI h hn]; decide
theorem isP1 {p : Nat} (hp : p < 4) : wt_isP (nI p) (-1) (-1) = true := by
  unfold wt_isP; rw [decide_eq_true (wt_rn hp (by decide)), if_pos rfl]; rfl
theorem isP2 {p q : Nat} (hp : p < 4) (hq : q < 4) : wt_isP (nI p) (nI q) (-1) = true := by
  unfold wt_isP; rw [decide_eq_true (wt_rn hp (by decide)), if_neg (wt_nI_nem1 (by omega)), decide_eq_true (wt_rn hq (by decide))]; rfl
theorem isP3 {p q r : Nat} (hp : p < 4) (hq : q < 4) (hr : r < 4) : wt_isP (nI p) (nI q) (nI r) = true := by
  unfold wt_isP; rw [decide_eq_true (wt_rn hp (by decide)), if_neg (wt_nI_nem1 (by omega)), decide_eq_true (wt_rn hq (by decide)), decide_eq_true (wt_rn hr (by decide)), Bool.or_true]; rfl
theorem wt_and4 {a b : Bool} (h : (a && b) = false) (ha : a = true) : b = false := by rw [ha, Bool.true_and] at h; exact h

set_option maxHeartbeats 4000000 in
set_option maxRecDepth 100000 in
theorem c_X_say_0 (l : Launch) (dC : Nat → ClassId) (dI : Nat → Nat → Nat) (cI cZ cL : ClassId) (q : Nat → Nat) (ph : Nat → Nat) (pa : Nat → Nat) (ch : Nat → Nat) (en : Nat → Bool) (sz : Nat) (pr : Nat) (gc : Nat → Int32) (gb : Nat → Int32) (sc : Nat → Int32) (sh : Nat → Int32) (sl : Nat → Int32) (ct : Nat) (tok : Nat → Int64) (wt : Nat → Int64) (pn : Nat → Nat) (lt : Nat → Int64) (wp : Int64) (sd : Bool) (ww : Int32) (pp : Int32) (qq : Int32) (rr : Int32) (hbad : (decide (¬ wt_rng ww 4 = 0) && wt_isP pp qq rr) = false) (hpr : pr ≤ 8) : Met l yX_say (Cond.code yX_say cX_say 5 (some .int) :: tb) ({ frames := 2, cells := 0, slots := 0, locals := 42 }) (va_Pc [.ref (q 0), .int ww, .int pp, .int qq, .int rr] (wt_ro (dC, dI) vwCl [(cI, .int), (cZ, .boolean), (cL, .long)] (wX cI cZ cL q ph pa ch en sz pr gc gb sc sh sl ct tok wt pn lt wp sd))) (vp_Si (fun r => r = (-1))) 0 0 (fun _ => False) := by
  refine Met.ofW (cc := cX_say) (maxL := 5) (ret := (some .int)) (by decide) rfl ?_
  intro p e s m args below meth c s₁ B hml hv
  obtain ⟨rfl, hP, hK, hN⟩ := hv
  have hx := B.exec
  have hb := B.bytes
  have hr := B.returns
  have hts := atoms_spec (ws := (Cond.code yX_say cX_say 5 (some .int) :: tb)) B.pre
  have ht : ∀ w ∈ tb, w.before _ s = true := fun w h => hts w (List.mem_cons_of_mem _ h)
  have hown : s.vm.findClass RX = some m.cls := findClass_of_methodNamed B.named
  have hlocks := B.notSynchronized
  have hl := lv_entry ([.ref (q 0), .int ww, .int pp, .int qq, .int rr]) (n := 5) (Nat.le_of_ble_eq_true rfl)
  rw [lg_entry_eq]
  generalize (lg_sl ([.ref (q 0), .int ww, .int pp, .int qq, .int rr]) ++ List.replicate (5 - (lg_sl ([.ref (q 0), .int ww, .int pp, .int qq, .int rr])).length) Slot.unset).toArray = ls at hl ⊢
  have hl : lv_has ls 5 [(0, .ref (q 0)), (1, .int ww), (2, .int pp), (3, .int qq), (4, .int rr)] := hl
  refine lv_iload_n hx hb dX_say_0 rfl (lv_at hl 1 rfl) ?_
  refine wt_roi (va_runS (As := [.int ww]) (rest := []) ⟨hx, hb, hml, hown, ht⟩ (c_X_isWord l dC dI cI cZ cL ww) (va_cwS 1 ht (good_S m_133 m_134 m_1 m_135) rfl rfl rfl (by decide +kernel) ⟨Nat.le_of_ble_eq_true rfl, Nat.le_of_ble_eq_true rfl⟩) (wt_preS hK hN (hP.sub [] rfl)) rfl rfl hl.1 rfl (lv_room (Nat.le_of_ble_eq_true rfl)) dX_say_1 ⟨Nat.le_of_ble_eq_true rfl, Nat.le_of_ble_eq_true rfl⟩) ?_
  refine lv_if_eq (tgt := 42) hx hb dX_say_4 (by decide) (fun c_1 => ?_) (fun c_1 => ?_)
  · skip
    refine lv_iconst (v := (-1)) hx hb dX_say_42 (by decide) ?_
    exact W.iret (v := (-1)) hx hb hr (fun t ht hW => ⟨_, rfl, rfl, ht⟩) (fun q h => by cases h) dX_say_43
  · skip
    refine lv_iload_n hx hb dX_say_7 rfl (lv_at hl 2 rfl) ?_
    refine lv_iload_n hx hb dX_say_8 rfl (lv_at hl 3 rfl) ?_
    refine lv_iload hx hb dX_say_9 (lv_at hl 4 rfl) ?_
    refine wt_roi (va_runS (As := [.int pp, .int qq, .int rr]) (rest := []) ⟨hx, hb, hml, hown, ht⟩ (c_X_isPronunciation l dC dI cI cZ cL pp qq rr) (va_cwS 3 ht (good_S m_136 m_137 m_1 m_138) rfl rfl rfl (by decide +kernel) ⟨Nat.le_of_ble_eq_true rfl, Nat.le_of_ble_eq_true rfl⟩) (wt_preS hK hN (hP.sub [] rfl)) rfl rfl hl.1 rfl (lv_room (Nat.le_of_ble_eq_true rfl)) dX_say_11 ⟨Nat.le_of_ble_eq_true rfl, Nat.le_of_ble_eq_true rfl⟩) ?_
    refine wt_bif_eq (tgt := 42) hx hb dX_say_14 (by decide) (fun c_2 => ?_) (fun c_2 => ?_)
    · skip
      refine lv_iconst (v := (-1)) hx hb dX_say_42 (by decide) ?_
      exact W.iret (v := (-1)) hx hb hr (fun t ht hW => ⟨_, rfl, rfl, ht⟩) (fun q h => by cases h) dX_say_43
    · exact absurd hbad (by simp [c_1, c_2])

set_option maxHeartbeats 4000000 in
set_option maxRecDepth 100000 in
theorem c_X_say_1f (l : Launch) (dC : Nat → ClassId) (dI : Nat → Nat → Nat) (cI cZ cL : ClassId) (q : Nat → Nat) (ph : Nat → Nat) (pa : Nat → Nat) (ch : Nat → Nat) (en : Nat → Bool) (sz : Nat) (pr : Nat) (gc : Nat → Int32) (gb : Nat → Int32) (sc : Nat → Int32) (sh : Nat → Int32) (sl : Nat → Int32) (ct : Nat) (tok : Nat → Int64) (wt : Nat → Int64) (pn : Nat → Nat) (lt : Nat → Int64) (wp : Int64) (sd : Bool) (ww : Nat) (pp : Nat) (hww : ww < 4) (hpp : pp < 4) (hch : ∀ j, ch j ≤ 24) (hpr : pr ≤ 8) (hfull : 8 ≤ pr) : Met l yX_say (Cond.code yX_say cX_say 5 (some .int) :: tb) ({ frames := 2, cells := 0, slots := 0, locals := 42 }) (va_Pc [.ref (q 0), .int (nI ww), .int (nI pp), .int (-1), .int (-1)] (wt_ro (dC, dI) vwCl [(cI, .int), (cZ, .boolean), (cL, .long)] (wX cI cZ cL q ph pa ch en sz pr gc gb sc sh sl ct tok wt pn lt wp sd))) (vp_Si (fun r => r = (-1))) 0 0 (fun _ => False) := by
  refine Met.ofW (cc := cX_say) (maxL := 5) (ret := (some .int)) (by decide) rfl ?_
  intro p e s m args below meth c s₁ B hml hv
  obtain ⟨rfl, hP, hK, hN⟩ := hv
  have hx := B.exec
  have hb := B.bytes
  have hr := B.returns
  have hts := atoms_spec (ws := (Cond.code yX_say cX_say 5 (some .int) :: tb)) B.pre
  have ht : ∀ w ∈ tb, w.before _ s = true := fun w h => hts w (List.mem_cons_of_mem _ h)
  have hown : s.vm.findClass RX = some m.cls := findClass_of_methodNamed B.named
  have hlocks := B.notSynchronized
  have hl := lv_entry ([.ref (q 0), .int (nI ww), .int (nI pp), .int (-1), .int (-1)]) (n := 5) (Nat.le_of_ble_eq_true rfl)
  rw [lg_entry_eq]
  generalize (lg_sl ([.ref (q 0), .int (nI ww), .int (nI pp), .int (-1), .int (-1)]) ++ List.replicate (5 - (lg_sl ([.ref (q 0), .int (nI ww), .int (nI pp), .int (-1), .int (-1)])).length) Slot.unset).toArray = ls at hl ⊢
  have hl : lv_has ls 5 [(0, .ref (q 0)), (1, .int (nI ww)), (2, .int (nI pp)), (3, .int (-1)), (4, .int (-1))] := hl
  refine lv_iload_n hx hb dX_say_0 rfl (lv_at hl 1 rfl) ?_
  refine wt_roi (va_runS (As := [.int (nI ww)]) (rest := []) ⟨hx, hb, hml, hown, ht⟩ (c_X_isWord l dC dI cI cZ cL (nI ww)) (va_cwS 1 ht (good_S m_133 m_134 m_1 m_135) rfl rfl rfl (by decide +kernel) ⟨Nat.le_of_ble_eq_true rfl, Nat.le_of_ble_eq_true rfl⟩) (wt_preS hK hN (hP.sub [] rfl)) rfl rfl hl.1 rfl (lv_room (Nat.le_of_ble_eq_true rfl)) dX_say_1 ⟨Nat.le_of_ble_eq_true rfl, Nat.le_of_ble_eq_true rfl⟩) ?_
  refine lv_if_eq (tgt := 42) hx hb dX_say_4 (by decide) (fun c_1 => ?_) (fun c_1 => ?_)
  · exact absurd c_1 (wt_rn hww (by decide))
  · skip
    refine lv_iload_n hx hb dX_say_7 rfl (lv_at hl 2 rfl) ?_
    refine lv_iload_n hx hb dX_say_8 rfl (lv_at hl 3 rfl) ?_
    refine lv_iload hx hb dX_say_9 (lv_at hl 4 rfl) ?_
    refine wt_roi (va_runS (As := [.int (nI pp), .int (-1), .int (-1)]) (rest := []) ⟨hx, hb, hml, hown, ht⟩ (c_X_isPronunciation l dC dI cI cZ cL (nI pp) (-1) (-1)) (va_cwS 3 ht (good_S m_136 m_137 m_1 m_138) rfl rfl rfl (by decide +kernel) ⟨Nat.le_of_ble_eq_true rfl, Nat.le_of_ble_eq_true rfl⟩) (wt_preS hK hN (hP.sub [] rfl)) rfl rfl hl.1 rfl (lv_room (Nat.le_of_ble_eq_true rfl)) dX_say_11 ⟨Nat.le_of_ble_eq_true rfl, Nat.le_of_ble_eq_true rfl⟩) ?_
    refine wt_bif_eq (tgt := 42) hx hb dX_say_14 (by decide) (fun c_2 => ?_) (fun c_2 => ?_)
    · exact absurd c_2 (by rw [isP1 hpp]; decide)
    · skip
      refine lv_aload_n hx hb dX_say_17 rfl (lv_at hl 0 rfl) ?_
      refine va_get (D := (dC, dI)) (ci := 0) (v := .ref (q 1)) (C := RX) (T := TX) (N := 5) hx hb ht inX hown hK hP 0 rfl rfl 0 (by decide) (ht _ m_113) (fun _ h9 => h9) rfl dX_say_18 ?_
      refine wt_roi (va_runV (As := []) (rest := []) ⟨hx, hb, hml, hown, ht⟩ (c_T_isFull l dC dI cI cZ cL q ph pa ch en sz pr gc gb sc sh sl ct tok wt pn lt wp sd hpr) (cwV 0 ht (good_V m_142 m_143 m_144 m_2 m_145) rfl rfl rfl (by decide +kernel) ⟨Nat.le_of_ble_eq_true rfl, Nat.le_of_ble_eq_true rfl⟩) (wt_preV hK hN hP (va_recv hK hP (ci := 1) (q0 := 1) rfl rfl)) rfl rfl hl.1 rfl (lv_room (Nat.le_of_ble_eq_true rfl)) dX_say_21 ⟨Nat.le_of_ble_eq_true rfl, Nat.le_of_ble_eq_true rfl⟩) ?_
      refine wt_bif_ne (tgt := 42) hx hb dX_say_24 (by decide) (fun c_3 => ?_) (fun c_3 => ?_)
      · skip
        refine lv_iconst (v := (-1)) hx hb dX_say_42 (by decide) ?_
        exact W.iret (v := (-1)) hx hb hr (fun t ht hW => ⟨_, rfl, rfl, ht⟩) (fun q h => by cases h) dX_say_43
      · exact absurd (of_decide_eq_false c_3) (by omega)

set_option maxHeartbeats 4000000 in
set_option maxRecDepth 100000 in
theorem c_X_say_1h (l : Launch) (dC : Nat → ClassId) (dI : Nat → Nat → Nat) (cI cZ cL : ClassId) (q : Nat → Nat) (ph : Nat → Nat) (pa : Nat → Nat) (ch : Nat → Nat) (en : Nat → Bool) (sz : Nat) (pr : Nat) (gc : Nat → Int32) (gb : Nat → Int32) (sc : Nat → Int32) (sh : Nat → Int32) (sl : Nat → Int32) (ct : Nat) (tok : Nat → Int64) (wt : Nat → Int64) (pn : Nat → Nat) (lt : Nat → Int64) (wp : Int64) (sd : Bool) (ww : Nat) (pp : Nat) (hww : ww < 4) (hpp : pp < 4) (hch : ∀ j, ch j ≤ 24) (hpr : pr ≤ 8) (hhas : (decide (¬ ch (0 * 4 + pp) = 0) && en (ch (0 * 4 + pp) * 4 + ww)) = true) : Met l yX_say (Cond.code yX_say cX_say 5 (some .int) :: tb) ({ frames := 2, cells := 0, slots := 0, locals := 48 }) (va_Pc [.ref (q 0), .int (nI ww), .int (nI pp), .int (-1), .int (-1)] (wt_ro (dC, dI) vwCl [(cI, .int), (cZ, .boolean), (cL, .long)] (wX cI cZ cL q ph pa ch en sz pr gc gb sc sh sl ct tok wt pn lt wp sd))) (vp_Si (fun r => r = (-1))) 0 0 (fun _ => False) := by
  refine Met.ofW (cc := cX_say) (maxL := 5) (ret := (some .int)) (by decide) rfl ?_
  intro p e s m args below meth c s₁ B hml hv
  obtain ⟨rfl, hP, hK, hN⟩ := hv
  have hx := B.exec
  have hb := B.bytes
  have hr := B.returns
  have hts := atoms_spec (ws := (Cond.code yX_say cX_say 5 (some .int) :: tb)) B.pre
  have ht : ∀ w ∈ tb, w.before _ s = true := fun w h => hts w (List.mem_cons_of_mem _ h)
  have hown : s.vm.findClass RX = some m.cls := findClass_of_methodNamed B.named
  have hlocks := B.notSynchronized
  have hl := lv_entry ([.ref (q 0), .int (nI ww), .int (nI pp), .int (-1), .int (-1)]) (n := 5) (Nat.le_of_ble_eq_true rfl)
  rw [lg_entry_eq]
  generalize (lg_sl ([.ref (q 0), .int (nI ww), .int (nI pp), .int (-1), .int (-1)]) ++ List.replicate (5 - (lg_sl ([.ref (q 0), .int (nI ww), .int (nI pp), .int (-1), .int (-1)])).length) Slot.unset).toArray = ls at hl ⊢
  have hl : lv_has ls 5 [(0, .ref (q 0)), (1, .int (nI ww)), (2, .int (nI pp)), (3, .int (-1)), (4, .int (-1))] := hl
  refine lv_iload_n hx hb dX_say_0 rfl (lv_at hl 1 rfl) ?_
  refine wt_roi (va_runS (As := [.int (nI ww)]) (rest := []) ⟨hx, hb, hml, hown, ht⟩ (c_X_isWord l dC dI cI cZ cL (nI ww)) (va_cwS 1 ht (good_S m_133 m_134 m_1 m_135) rfl rfl rfl (by decide +kernel) ⟨Nat.le_of_ble_eq_true rfl, Nat.le_of_ble_eq_true rfl⟩) (wt_preS hK hN (hP.sub [] rfl)) rfl rfl hl.1 rfl (lv_room (Nat.le_of_ble_eq_true rfl)) dX_say_1 ⟨Nat.le_of_ble_eq_true rfl, Nat.le_of_ble_eq_true rfl⟩) ?_
  refine lv_if_eq (tgt := 42) hx hb dX_say_4 (by decide) (fun c_1 => ?_) (fun c_1 => ?_)
  · exact absurd c_1 (wt_rn hww (by decide))
  · skip
    refine lv_iload_n hx hb dX_say_7 rfl (lv_at hl 2 rfl) ?_
    refine lv_iload_n hx hb dX_say_8 rfl (lv_at hl 3 rfl) ?_
    refine lv_iload hx hb dX_say_9 (lv_at hl 4 rfl) ?_
    refine wt_roi (va_runS (As := [.int (nI pp), .int (-1), .int (-1)]) (rest := []) ⟨hx, hb, hml, hown, ht⟩ (c_X_isPronunciation l dC dI cI cZ cL (nI pp) (-1) (-1)) (va_cwS 3 ht (good_S m_136 m_137 m_1 m_138) rfl rfl rfl (by decide +kernel) ⟨Nat.le_of_ble_eq_true rfl, Nat.le_of_ble_eq_true rfl⟩) (wt_preS hK hN (hP.sub [] rfl)) rfl rfl hl.1 rfl (lv_room (Nat.le_of_ble_eq_true rfl)) dX_say_11 ⟨Nat.le_of_ble_eq_true rfl, Nat.le_of_ble_eq_true rfl⟩) ?_
    refine wt_bif_eq (tgt := 42) hx hb dX_say_14 (by decide) (fun c_2 => ?_) (fun c_2 => ?_)
    · exact absurd c_2 (by rw [isP1 hpp]; decide)
    · skip
      refine lv_aload_n hx hb dX_say_17 rfl (lv_at hl 0 rfl) ?_
      refine va_get (D := (dC, dI)) (ci := 0) (v := .ref (q 1)) (C := RX) (T := TX) (N := 5) hx hb ht inX hown hK hP 0 rfl rfl 0 (by decide) (ht _ m_113) (fun _ h9 => h9) rfl dX_say_18 ?_
      refine wt_roi (va_runV (As := []) (rest := []) ⟨hx, hb, hml, hown, ht⟩ (c_T_isFull l dC dI cI cZ cL q ph pa ch en sz pr gc gb sc sh sl ct tok wt pn lt wp sd hpr) (cwV 0 ht (good_V m_142 m_143 m_144 m_2 m_145) rfl rfl rfl (by decide +kernel) ⟨Nat.le_of_ble_eq_true rfl, Nat.le_of_ble_eq_true rfl⟩) (wt_preV hK hN hP (va_recv hK hP (ci := 1) (q0 := 1) rfl rfl)) rfl rfl hl.1 rfl (lv_room (Nat.le_of_ble_eq_true rfl)) dX_say_21 ⟨Nat.le_of_ble_eq_true rfl, Nat.le_of_ble_eq_true rfl⟩) ?_
      refine wt_bif_ne (tgt := 42) hx hb dX_say_24 (by decide) (fun c_3 => ?_) (fun c_3 => ?_)
      · skip
        refine lv_iconst (v := (-1)) hx hb dX_say_42 (by decide) ?_
        exact W.iret (v := (-1)) hx hb hr (fun t ht hW => ⟨_, rfl, rfl, ht⟩) (fun q h => by cases h) dX_say_43
      · skip
        refine lv_aload_n hx hb dX_say_27 rfl (lv_at hl 0 rfl) ?_
        refine va_get (D := (dC, dI)) (ci := 0) (v := .ref (q 1)) (C := RX) (T := TX) (N := 5) hx hb ht inX hown hK hP 0 rfl rfl 0 (by decide) (ht _ m_113) (fun _ h9 => h9) rfl dX_say_28 ?_
        refine lv_iload_n hx hb dX_say_31 rfl (lv_at hl 1 rfl) ?_
        refine lv_iload_n hx hb dX_say_32 rfl (lv_at hl 2 rfl) ?_
        refine lv_iload_n hx hb dX_say_33 rfl (lv_at hl 3 rfl) ?_
        refine lv_iload hx hb dX_say_34 (lv_at hl 4 rfl) ?_
        refine wt_roi (va_runV (As := [.int (nI ww), .int (nI pp), .int (-1), .int (-1)]) (rest := []) ⟨hx, hb, hml, hown, ht⟩ (c_T_has_1 l dC dI cI cZ cL q ph pa ch en sz pr gc gb sc sh sl ct tok wt pn lt wp sd ww pp hww hpp hch) (cwV 4 ht (good_V m_146 m_147 m_148 m_2 m_149) rfl rfl rfl (by decide +kernel) ⟨Nat.le_of_ble_eq_true rfl, Nat.le_of_ble_eq_true rfl⟩) (wt_preV hK hN hP (va_recv hK hP (ci := 1) (q0 := 1) rfl rfl)) rfl rfl hl.1 rfl (lv_room (Nat.le_of_ble_eq_true rfl)) dX_say_36 ⟨Nat.le_of_ble_eq_true rfl, Nat.le_of_ble_eq_true rfl⟩) ?_
        refine wt_bif_eq (tgt := 44) hx hb dX_say_39 (by decide) (fun c_4 => ?_) (fun c_4 => ?_)
        · exact absurd c_4 (by rw [hhas]; decide)
        · skip
          refine lv_iconst (v := (-1)) hx hb dX_say_42 (by decide) ?_
          exact W.iret (v := (-1)) hx hb hr (fun t ht hW => ⟨_, rfl, rfl, ht⟩) (fun q h => by cases h) dX_say_43

set_option maxHeartbeats 4000000 in
set_option maxRecDepth 100000 in
theorem c_X_say_1a (l : Launch) (dC : Nat → ClassId) (dI : Nat → Nat → Nat) (cI cZ cL : ClassId) (q : Nat → Nat) (sz0 : Nat) (ph : Nat → Nat) (pa : Nat → Nat) (ch : Nat → Nat) (en : Nat → Bool) (sz : Nat) (pr : Nat) (gc : Nat → Int32) (gb : Nat → Int32) (sc : Nat → Int32) (sh : Nat → Int32) (sl : Nat → Int32) (ct : Nat) (tok : Nat → Int64) (wt : Nat → Int64) (pn : Nat → Nat) (lt : Nat → Int64) (wp : Int64) (sd : Bool) (ww : Nat) (pp : Nat) (hww : ww < 4) (hpp : pp < 4) (hch : ∀ j, ch j ≤ 24) (hpr : pr ≤ 8) (hnf : pr ≤ 7) (hno : (decide (¬ ch (0 * 4 + pp) = 0) && en (ch (0 * 4 + pp) * 4 + ww)) = false) (hsz : sz + 3 ≤ 24) : Met l yX_say (Cond.code yX_say cX_say 5 (some .int) :: tb) ({ frames := 3, cells := 0, slots := 0, locals := 71 }) (va_Pc [.ref (q 0), .int (nI ww), .int (nI pp), .int (-1), .int (-1)] (wt_rw (dC, dI) vwCl [(cI, .int), (cZ, .boolean), (cL, .long)] (wX cI cZ cL q ph pa ch en sz pr gc gb sc sh sl ct tok wt pn lt wp sd) sz0)) (va_Qi (fun r (_ : Unit) => r = (nI ((wt_gr ph pa ch sz 0 pp).2.2.2.1))) (wt_B (dC, dI) vwCl (va_A (wX cI cZ cL q ph pa ch en sz pr gc gb sc sh sl ct tok wt pn lt wp sd) sz0) (wX cI cZ cL q ((wt_gr ph pa ch sz 0 pp).1) ((wt_gr ph pa ch sz 0 pp).2.1) ((wt_gr ph pa ch sz 0 pp).2.2.1) (va_up en ((wt_gr ph pa ch sz 0 pp).2.2.2.2 * 4 + ww) true) ((wt_gr ph pa ch sz 0 pp).2.2.2.1) (pr + 1) gc gb sc sh sl ct tok wt pn lt wp false)) (va_A (wX cI cZ cL q ph pa ch en sz pr gc gb sc sh sl ct tok wt pn lt wp sd) sz0)) 0 0 (va_A (wX cI cZ cL q ph pa ch en sz pr gc gb sc sh sl ct tok wt pn lt wp sd) sz0) := by
  refine Met.ofW (cc := cX_say) (maxL := 5) (ret := (some .int)) (by decide) rfl ?_
  intro p e s m args below meth c s₁ B hml hv
  obtain ⟨rfl, hsz, hP, hK, hN, hD0⟩ := hv
  have hx := B.exec
  have hb := B.bytes
  have hr := B.returns
  have hts := atoms_spec (ws := (Cond.code yX_say cX_say 5 (some .int) :: tb)) B.pre
  have ht : ∀ w ∈ tb, w.before _ s = true := fun w h => hts w (List.mem_cons_of_mem _ h)
  have hown : s.vm.findClass RX = some m.cls := findClass_of_methodNamed B.named
  have hlocks := B.notSynchronized
  subst hsz
  have hD := hD0.self (sz := s.heap.size)
  generalize hAe : va_A (wX cI cZ cL q ph pa ch en sz pr gc gb sc sh sl ct tok wt pn lt wp sd) s.heap.size = A at hD ⊢
  have hA : ∀ q : Nat, s.heap.size ≤ q → A q := fun q h => by rw [← hAe]; exact Or.inr h
  clear hAe hD0
  have hS : va_S A s.heap s.heap [] := va_S.rf
  have hl := lv_entry ([.ref (q 0), .int (nI ww), .int (nI pp), .int (-1), .int (-1)]) (n := 5) (Nat.le_of_ble_eq_true rfl)
  rw [lg_entry_eq]
  generalize (lg_sl ([.ref (q 0), .int (nI ww), .int (nI pp), .int (-1), .int (-1)]) ++ List.replicate (5 - (lg_sl ([.ref (q 0), .int (nI ww), .int (nI pp), .int (-1), .int (-1)])).length) Slot.unset).toArray = ls at hl ⊢
  have hl : lv_has ls 5 [(0, .ref (q 0)), (1, .int (nI ww)), (2, .int (nI pp)), (3, .int (-1)), (4, .int (-1))] := hl
  refine lv_iload_n hx hb dX_say_0 rfl (lv_at hl 1 rfl) ?_
  refine wt_roi (va_runS (As := [.int (nI ww)]) (rest := []) ⟨hx, hb, hml, hown, ht⟩ (c_X_isWord l dC dI cI cZ cL (nI ww)) (va_cwS 1 ht (good_S m_133 m_134 m_1 m_135) rfl rfl rfl (by decide +kernel) ⟨Nat.le_of_ble_eq_true rfl, Nat.le_of_ble_eq_true rfl⟩) (wt_preS hK hN (hP.sub [] rfl)) rfl rfl hl.1 rfl (lv_room (Nat.le_of_ble_eq_true rfl)) dX_say_1 ⟨Nat.le_of_ble_eq_true rfl, Nat.le_of_ble_eq_true rfl⟩) ?_
  refine lv_if_eq (tgt := 42) hx hb dX_say_4 (by decide) (fun c_1 => ?_) (fun c_1 => ?_)
  · exact absurd c_1 (wt_rn hww (by decide))
  · skip
    refine lv_iload_n hx hb dX_say_7 rfl (lv_at hl 2 rfl) ?_
    refine lv_iload_n hx hb dX_say_8 rfl (lv_at hl 3 rfl) ?_
    refine lv_iload hx hb dX_say_9 (lv_at hl 4 rfl) ?_
    refine wt_roi (va_runS (As := [.int (nI pp), .int (-1), .int (-1)]) (rest := []) ⟨hx, hb, hml, hown, ht⟩ (c_X_isPronunciation l dC dI cI cZ cL (nI pp) (-1) (-1)) (va_cwS 3 ht (good_S m_136 m_137 m_1 m_138) rfl rfl rfl (by decide +kernel) ⟨Nat.le_of_ble_eq_true rfl, Nat.le_of_ble_eq_true rfl⟩) (wt_preS hK hN (hP.sub [] rfl)) rfl rfl hl.1 rfl (lv_room (Nat.le_of_ble_eq_true rfl)) dX_say_11 ⟨Nat.le_of_ble_eq_true rfl, Nat.le_of_ble_eq_true rfl⟩) ?_
    refine wt_bif_eq (tgt := 42) hx hb dX_say_14 (by decide) (fun c_2 => ?_) (fun c_2 => ?_)
    · exact absurd c_2 (by rw [isP1 hpp]; decide)
    · skip
      refine lv_aload_n hx hb dX_say_17 rfl (lv_at hl 0 rfl) ?_
      refine va_get (D := (dC, dI)) (ci := 0) (v := .ref (q 1)) (C := RX) (T := TX) (N := 5) hx hb ht inX hown hK hP 0 rfl rfl 0 (by decide) (ht _ m_113) (fun _ h9 => h9) rfl dX_say_18 ?_
      refine wt_roi (va_runV (As := []) (rest := []) ⟨hx, hb, hml, hown, ht⟩ (c_T_isFull l dC dI cI cZ cL q ph pa ch en sz pr gc gb sc sh sl ct tok wt pn lt wp sd hpr) (cwV 0 ht (good_V m_142 m_143 m_144 m_2 m_145) rfl rfl rfl (by decide +kernel) ⟨Nat.le_of_ble_eq_true rfl, Nat.le_of_ble_eq_true rfl⟩) (wt_preV hK hN hP (va_recv hK hP (ci := 1) (q0 := 1) rfl rfl)) rfl rfl hl.1 rfl (lv_room (Nat.le_of_ble_eq_true rfl)) dX_say_21 ⟨Nat.le_of_ble_eq_true rfl, Nat.le_of_ble_eq_true rfl⟩) ?_
      refine wt_bif_ne (tgt := 42) hx hb dX_say_24 (by decide) (fun c_3 => ?_) (fun c_3 => ?_)
      · exact absurd (of_decide_eq_true c_3) (by omega)
      · skip
        refine lv_aload_n hx hb dX_say_27 rfl (lv_at hl 0 rfl) ?_
        refine va_get (D := (dC, dI)) (ci := 0) (v := .ref (q 1)) (C := RX) (T := TX) (N := 5) hx hb ht inX hown hK hP 0 rfl rfl 0 (by decide) (ht _ m_113) (fun _ h9 => h9) rfl dX_say_28 ?_
        refine lv_iload_n hx hb dX_say_31 rfl (lv_at hl 1 rfl) ?_
        refine lv_iload_n hx hb dX_say_32 rfl (lv_at hl 2 rfl) ?_
        refine lv_iload_n hx hb dX_say_33 rfl (lv_at hl 3 rfl) ?_
        refine lv_iload hx hb dX_say_34 (lv_at hl 4 rfl) ?_
        refine wt_roi (va_runV (As := [.int (nI ww), .int (nI pp), .int (-1), .int (-1)]) (rest := []) ⟨hx, hb, hml, hown, ht⟩ (c_T_has_1 l dC dI cI cZ cL q ph pa ch en sz pr gc gb sc sh sl ct tok wt pn lt wp sd ww pp hww hpp hch) (cwV 4 ht (good_V m_146 m_147 m_148 m_2 m_149) rfl rfl rfl (by decide +kernel) ⟨Nat.le_of_ble_eq_true rfl, Nat.le_of_ble_eq_true rfl⟩) (wt_preV hK hN hP (va_recv hK hP (ci := 1) (q0 := 1) rfl rfl)) rfl rfl hl.1 rfl (lv_room (Nat.le_of_ble_eq_true rfl)) dX_say_36 ⟨Nat.le_of_ble_eq_true rfl, Nat.le_of_ble_eq_true rfl⟩) ?_
        refine wt_bif_eq (tgt := 44) hx hb dX_say_39 (by decide) (fun c_4 => ?_) (fun c_4 => ?_)
        · skip
          refine lv_aload_n hx hb dX_say_44 rfl (lv_at hl 0 rfl) ?_
          refine va_get (D := (dC, dI)) (ci := 0) (v := .ref (q 1)) (C := RX) (T := TX) (N := 5) hx hb ht inX hown hK hP 0 rfl rfl 0 (by decide) (ht _ m_113) (fun _ h9 => h9) rfl dX_say_45 ?_
          refine lv_iload_n hx hb dX_say_48 rfl (lv_at hl 1 rfl) ?_
          refine lv_iload_n hx hb dX_say_49 rfl (lv_at hl 2 rfl) ?_
          refine lv_iload_n hx hb dX_say_50 rfl (lv_at hl 3 rfl) ?_
          refine lv_iload hx hb dX_say_51 (lv_at hl 4 rfl) ?_
          refine wt_rwv (va_runV (As := [.int (nI ww), .int (nI pp), .int (-1), .int (-1)]) (rest := []) ⟨hx, hb, hml, hown, ht⟩ (c_T_add_1 l dC dI cI cZ cL q s.heap.size ph pa ch en sz pr gc gb sc sh sl ct tok wt pn lt wp sd ww pp hww hpp hch hsz hnf) (cwV 4 ht (good_V m_158 m_159 m_160 m_2 m_161) rfl rfl rfl (by decide +kernel) ⟨Nat.le_of_ble_eq_true rfl, Nat.le_of_ble_eq_true rfl⟩) (wt_preVw hK hN hP hD (va_recv hK hP (ci := 1) (q0 := 1) rfl rfl)) rfl rfl hl.1 rfl (lv_room (Nat.le_of_ble_eq_true rfl)) dX_say_53 ⟨Nat.le_of_ble_eq_true rfl, Nat.le_of_ble_eq_true rfl⟩) hD hS hA (fun H locs hP hD hS => ?_)
          have hP : va_P (dC, dI) vwCl (wX cI cZ cL q ((wt_gr ph pa ch sz 0 pp).1) ((wt_gr ph pa ch sz 0 pp).2.1) ((wt_gr ph pa ch sz 0 pp).2.2.1) (va_up en ((wt_gr ph pa ch sz 0 pp).2.2.2.2 * 4 + ww) true) ((wt_gr ph pa ch sz 0 pp).2.2.2.1) (pr + 1) gc gb sc sh sl ct tok wt pn lt wp sd) H := hP
          have hD : va_D A (wX cI cZ cL q ((wt_gr ph pa ch sz 0 pp).1) ((wt_gr ph pa ch sz 0 pp).2.1) ((wt_gr ph pa ch sz 0 pp).2.2.1) (va_up en ((wt_gr ph pa ch sz 0 pp).2.2.2.2 * 4 + ww) true) ((wt_gr ph pa ch sz 0 pp).2.2.2.1) (pr + 1) gc gb sc sh sl ct tok wt pn lt wp sd) := hD
          refine lv_aload_n hx hb dX_say_56 rfl (lv_at hl 0 rfl) ?_
          refine lv_iconst (v := nI 0) hx hb dX_say_57 (by decide) ?_
          rw [show (.int (nI 0) : Value) = .int (wt_bI false) from rfl]
          refine va_put (D := (dC, dI)) (ci := 0) (v := .int (wt_bI false)) (ty := .boolean) (C := RX) (T := TX) (N := 5) hx hb ht inX tyX tyX_ok nmX hown hK hP hD hS 0 rfl rfl 4 (by decide) (ht _ m_117) (fun _ h9 => h9) rfl (by decide +kernel) (wt_bI_nar _) (by first | rfl | (cases false <;> rfl)) (Nat.le_of_ble_eq_true rfl) dX_say_58 (fun H locs hP hD hS => ?_)
          have hP : va_P (dC, dI) vwCl (wX cI cZ cL q ((wt_gr ph pa ch sz 0 pp).1) ((wt_gr ph pa ch sz 0 pp).2.1) ((wt_gr ph pa ch sz 0 pp).2.2.1) (va_up en ((wt_gr ph pa ch sz 0 pp).2.2.2.2 * 4 + ww) true) ((wt_gr ph pa ch sz 0 pp).2.2.2.1) (pr + 1) gc gb sc sh sl ct tok wt pn lt wp false) H := hP
          have hD : va_D A (wX cI cZ cL q ((wt_gr ph pa ch sz 0 pp).1) ((wt_gr ph pa ch sz 0 pp).2.1) ((wt_gr ph pa ch sz 0 pp).2.2.1) (va_up en ((wt_gr ph pa ch sz 0 pp).2.2.2.2 * 4 + ww) true) ((wt_gr ph pa ch sz 0 pp).2.2.2.1) (pr + 1) gc gb sc sh sl ct tok wt pn lt wp false) := hD
          refine lv_aload_n hx hb dX_say_61 rfl (lv_at hl 0 rfl) ?_
          refine va_get (D := (dC, dI)) (ci := 0) (v := .ref (q 1)) (C := RX) (T := TX) (N := 5) hx hb ht inX hown hK hP 0 rfl rfl 0 (by decide) (ht _ m_113) (fun _ h9 => h9) rfl dX_say_62 ?_
          refine wt_roi (va_runV (As := []) (rest := []) ⟨hx, hb, hml, hown, ht⟩ (c_T_size l dC dI cI cZ cL q ((wt_gr ph pa ch sz 0 pp).1) ((wt_gr ph pa ch sz 0 pp).2.1) ((wt_gr ph pa ch sz 0 pp).2.2.1) (va_up en ((wt_gr ph pa ch sz 0 pp).2.2.2.2 * 4 + ww) true) ((wt_gr ph pa ch sz 0 pp).2.2.2.1) (pr + 1) gc gb sc sh sl ct tok wt pn lt wp false) (cwV 0 ht (good_V m_166 m_167 m_168 m_2 m_169) rfl rfl rfl (by decide +kernel) ⟨Nat.le_of_ble_eq_true rfl, Nat.le_of_ble_eq_true rfl⟩) (wt_preV hK hN hP (va_recv hK hP (ci := 1) (q0 := 1) rfl rfl)) rfl rfl hl.1 rfl (lv_room (Nat.le_of_ble_eq_true rfl)) dX_say_65 ⟨Nat.le_of_ble_eq_true rfl, Nat.le_of_ble_eq_true rfl⟩) ?_
          have hP9 : va_P (dC, dI) vwCl (wX cI cZ cL q ((wt_gr ph pa ch sz 0 pp).1) ((wt_gr ph pa ch sz 0 pp).2.1) ((wt_gr ph pa ch sz 0 pp).2.2.1) (va_up en ((wt_gr ph pa ch sz 0 pp).2.2.2.2 * 4 + ww) true) ((wt_gr ph pa ch sz 0 pp).2.2.2.1) (pr + 1) gc gb sc sh sl ct tok wt pn lt wp false) H := by exact hP
          have hD9 : va_D A (wX cI cZ cL q ((wt_gr ph pa ch sz 0 pp).1) ((wt_gr ph pa ch sz 0 pp).2.1) ((wt_gr ph pa ch sz 0 pp).2.2.1) (va_up en ((wt_gr ph pa ch sz 0 pp).2.2.2.2 * 4 + ww) true) ((wt_gr ph pa ch sz 0 pp).2.2.2.1) (pr + 1) gc gb sc sh sl ct tok wt pn lt wp false) := by exact hD
          exact W.iret (v := nI ((wt_gr ph pa ch sz 0 pp).2.2.2.1)) hx hb hr (fun t ht hW => ⟨⟨_, (), rfl, rfl, by rw [ht]; exact hP9, hD9⟩, hS.F ht⟩) hS.2.2 dX_say_68
        · exact absurd c_4 (by rw [hno]; decide)

set_option maxHeartbeats 4000000 in
set_option maxRecDepth 100000 in
theorem c_X_say_2f (l : Launch) (dC : Nat → ClassId) (dI : Nat → Nat → Nat) (cI cZ cL : ClassId) (q : Nat → Nat) (ph : Nat → Nat) (pa : Nat → Nat) (ch : Nat → Nat) (en : Nat → Bool) (sz : Nat) (pr : Nat) (gc : Nat → Int32) (gb : Nat → Int32) (sc : Nat → Int32) (sh : Nat → Int32) (sl : Nat → Int32) (ct : Nat) (tok : Nat → Int64) (wt : Nat → Int64) (pn : Nat → Nat) (lt : Nat → Int64) (wp : Int64) (sd : Bool) (ww : Nat) (pp : Nat) (qq : Nat) (hww : ww < 4) (hpp : pp < 4) (hqq : qq < 4) (hch : ∀ j, ch j ≤ 24) (hpr : pr ≤ 8) (hfull : 8 ≤ pr) : Met l yX_say (Cond.code yX_say cX_say 5 (some .int) :: tb) ({ frames := 2, cells := 0, slots := 0, locals := 42 }) (va_Pc [.ref (q 0), .int (nI ww), .int (nI pp), .int (nI qq), .int (-1)] (wt_ro (dC, dI) vwCl [(cI, .int), (cZ, .boolean), (cL, .long)] (wX cI cZ cL q ph pa ch en sz pr gc gb sc sh sl ct tok wt pn lt wp sd))) (vp_Si (fun r => r = (-1))) 0 0 (fun _ => False) := by
  refine Met.ofW (cc := cX_say) (maxL := 5) (ret := (some .int)) (by decide) rfl ?_
  intro p e s m args below meth c s₁ B hml hv
  obtain ⟨rfl, hP, hK, hN⟩ := hv
  have hx := B.exec
  have hb := B.bytes
  have hr := B.returns
  have hts := atoms_spec (ws := (Cond.code yX_say cX_say 5 (some .int) :: tb)) B.pre
  have ht : ∀ w ∈ tb, w.before _ s = true := fun w h => hts w (List.mem_cons_of_mem _ h)
  have hown : s.vm.findClass RX = some m.cls := findClass_of_methodNamed B.named
  have hlocks := B.notSynchronized
  have hl := lv_entry ([.ref (q 0), .int (nI ww), .int (nI pp), .int (nI qq), .int (-1)]) (n := 5) (Nat.le_of_ble_eq_true rfl)
  rw [lg_entry_eq]
  generalize (lg_sl ([.ref (q 0), .int (nI ww), .int (nI pp), .int (nI qq), .int (-1)]) ++ List.replicate (5 - (lg_sl ([.ref (q 0), .int (nI ww), .int (nI pp), .int (nI qq), .int (-1)])).length) Slot.unset).toArray = ls at hl ⊢
  have hl : lv_has ls 5 [(0, .ref (q 0)), (1, .int (nI ww)), (2, .int (nI pp)), (3, .int (nI qq)), (4, .int (-1))] := hl
  refine lv_iload_n hx hb dX_say_0 rfl (lv_at hl 1 rfl) ?_
  refine wt_roi (va_runS (As := [.int (nI ww)]) (rest := []) ⟨hx, hb, hml, hown, ht⟩ (c_X_isWord l dC dI cI cZ cL (nI ww)) (va_cwS 1 ht (good_S m_133 m_134 m_1 m_135) rfl rfl rfl (by decide +kernel) ⟨Nat.le_of_ble_eq_true rfl, Nat.le_of_ble_eq_true rfl⟩) (wt_preS hK hN (hP.sub [] rfl)) rfl rfl hl.1 rfl (lv_room (Nat.le_of_ble_eq_true rfl)) dX_say_1 ⟨Nat.le_of_ble_eq_true rfl, Nat.le_of_ble_eq_true rfl⟩) ?_
  refine lv_if_eq (tgt := 42) hx hb dX_say_4 (by decide) (fun c_1 => ?_) (fun c_1 => ?_)
  · exact absurd c_1 (wt_rn hww (by decide))
  · skip
    refine lv_iload_n hx hb dX_say_7 rfl (lv_at hl 2 rfl) ?_
    refine lv_iload_n hx hb dX_say_8 rfl (lv_at hl 3 rfl) ?_
    refine lv_iload hx hb dX_say_9 (lv_at hl 4 rfl) ?_
    refine wt_roi (va_runS (As := [.int (nI pp), .int (nI qq), .int (-1)]) (rest := []) ⟨hx, hb, hml, hown, ht⟩ (c_X_isPronunciation l dC dI cI cZ cL (nI pp) (nI qq) (-1)) (va_cwS 3 ht (good_S m_136 m_137 m_1 m_138) rfl rfl rfl (by decide +kernel) ⟨Nat.le_of_ble_eq_true rfl, Nat.le_of_ble_eq_true rfl⟩) (wt_preS hK hN (hP.sub [] rfl)) rfl rfl hl.1 rfl (lv_room (Nat.le_of_ble_eq_true rfl)) dX_say_11 ⟨Nat.le_of_ble_eq_true rfl, Nat.le_of_ble_eq_true rfl⟩) ?_
    refine wt_bif_eq (tgt := 42) hx hb dX_say_14 (by decide) (fun c_2 => ?_) (fun c_2 => ?_)
    · exact absurd c_2 (by rw [isP2 hpp hqq]; decide)
    · skip
      refine lv_aload_n hx hb dX_say_17 rfl (lv_at hl 0 rfl) ?_
      refine va_get (D := (dC, dI)) (ci := 0) (v := .ref (q 1)) (C := RX) (T := TX) (N := 5) hx hb ht inX hown hK hP 0 rfl rfl 0 (by decide) (ht _ m_113) (fun _ h9 => h9) rfl dX_say_18 ?_
      refine wt_roi (va_runV (As := []) (rest := []) ⟨hx, hb, hml, hown, ht⟩ (c_T_isFull l dC dI cI cZ cL q ph pa ch en sz pr gc gb sc sh sl ct tok wt pn lt wp sd hpr) (cwV 0 ht (good_V m_142 m_143 m_144 m_2 m_145) rfl rfl rfl (by decide +kernel) ⟨Nat.le_of_ble_eq_true rfl, Nat.le_of_ble_eq_true rfl⟩) (wt_preV hK hN hP (va_recv hK hP (ci := 1) (q0 := 1) rfl rfl)) rfl rfl hl.1 rfl (lv_room (Nat.le_of_ble_eq_true rfl)) dX_say_21 ⟨Nat.le_of_ble_eq_true rfl, Nat.le_of_ble_eq_true rfl⟩) ?_
      refine wt_bif_ne (tgt := 42) hx hb dX_say_24 (by decide) (fun c_3 => ?_) (fun c_3 => ?_)
      · skip
        refine lv_iconst (v := (-1)) hx hb dX_say_42 (by decide) ?_
        exact W.iret (v := (-1)) hx hb hr (fun t ht hW => ⟨_, rfl, rfl, ht⟩) (fun q h => by cases h) dX_say_43
      · exact absurd (of_decide_eq_false c_3) (by omega)

set_option maxHeartbeats 4000000 in
set_option maxRecDepth 100000 in
theorem c_X_say_2h (l : Launch) (dC : Nat → ClassId) (dI : Nat → Nat → Nat) (cI cZ cL : ClassId) (q : Nat → Nat) (ph : Nat → Nat) (pa : Nat → Nat) (ch : Nat → Nat) (en : Nat → Bool) (sz : Nat) (pr : Nat) (gc : Nat → Int32) (gb : Nat → Int32) (sc : Nat → Int32) (sh : Nat → Int32) (sl : Nat → Int32) (ct : Nat) (tok : Nat → Int64) (wt : Nat → Int64) (pn : Nat → Nat) (lt : Nat → Int64) (wp : Int64) (sd : Bool) (ww : Nat) (pp : Nat) (qq : Nat) (hww : ww < 4) (hpp : pp < 4) (hqq : qq < 4) (hch : ∀ j, ch j ≤ 24) (hpr : pr ≤ 8) (hhas : (decide (¬ wt_d2 ch pp qq = 0) && en (wt_d2 ch pp qq * 4 + ww)) = true) : Met l yX_say (Cond.code yX_say cX_say 5 (some .int) :: tb) ({ frames := 2, cells := 0, slots := 0, locals := 48 }) (va_Pc [.ref (q 0), .int (nI ww), .int (nI pp), .int (nI qq), .int (-1)] (wt_ro (dC, dI) vwCl [(cI, .int), (cZ, .boolean), (cL, .long)] (wX cI cZ cL q ph pa ch en sz pr gc gb sc sh sl ct tok wt pn lt wp sd))) (vp_Si (fun r => r = (-1))) 0 0 (fun _ => False) := by
  refine Met.ofW (cc := cX_say) (maxL := 5) (ret := (some .int)) (by decide) rfl ?_
  intro p e s m args below meth c s₁ B hml hv
  obtain ⟨rfl, hP, hK, hN⟩ := hv
  have hx := B.exec
  have hb := B.bytes
  have hr := B.returns
  have hts := atoms_spec (ws := (Cond.code yX_say cX_say 5 (some .int) :: tb)) B.pre
  have ht : ∀ w ∈ tb, w.before _ s = true := fun w h => hts w (List.mem_cons_of_mem _ h)
  have hown : s.vm.findClass RX = some m.cls := findClass_of_methodNamed B.named
  have hlocks := B.notSynchronized
  have hl := lv_entry ([.ref (q 0), .int (nI ww), .int (nI pp), .int (nI qq), .int (-1)]) (n := 5) (Nat.le_of_ble_eq_true rfl)
  rw [lg_entry_eq]
  generalize (lg_sl ([.ref (q 0), .int (nI ww), .int (nI pp), .int (nI qq), .int (-1)]) ++ List.replicate (5 - (lg_sl ([.ref (q 0), .int (nI ww), .int (nI pp), .int (nI qq), .int (-1)])).length) Slot.unset).toArray = ls at hl ⊢
  have hl : lv_has ls 5 [(0, .ref (q 0)), (1, .int (nI ww)), (2, .int (nI pp)), (3, .int (nI qq)), (4, .int (-1))] := hl
  refine lv_iload_n hx hb dX_say_0 rfl (lv_at hl 1 rfl) ?_
  refine wt_roi (va_runS (As := [.int (nI ww)]) (rest := []) ⟨hx, hb, hml, hown, ht⟩ (c_X_isWord l dC dI cI cZ cL (nI ww)) (va_cwS 1 ht (good_S m_133 m_134 m_1 m_135) rfl rfl rfl (by decide +kernel) ⟨Nat.le_of_ble_eq_true rfl, Nat.le_of_ble_eq_true rfl⟩) (wt_preS hK hN (hP.sub [] rfl)) rfl rfl hl.1 rfl (lv_room (Nat.le_of_ble_eq_true rfl)) dX_say_1 ⟨Nat.le_of_ble_eq_true rfl, Nat.le_of_ble_eq_true rfl⟩) ?_
  refine lv_if_eq (tgt := 42) hx hb dX_say_4 (by decide) (fun c_1 => ?_) (fun c_1 => ?_)
  · exact absurd c_1 (wt_rn hww (by decide))
  · skip
    refine lv_iload_n hx hb dX_say_7 rfl (lv_at hl 2 rfl) ?_
    refine lv_iload_n hx hb dX_say_8 rfl (lv_at hl 3 rfl) ?_
    refine lv_iload hx hb dX_say_9 (lv_at hl 4 rfl) ?_
    refine wt_roi (va_runS (As := [.int (nI pp), .int (nI qq), .int (-1)]) (rest := []) ⟨hx, hb, hml, hown, ht⟩ (c_X_isPronunciation l dC dI cI cZ cL (nI pp) (nI qq) (-1)) (va_cwS 3 ht (good_S m_136 m_137 m_1 m_138) rfl rfl rfl (by decide +kernel) ⟨Nat.le_of_ble_eq_true rfl, Nat.le_of_ble_eq_true rfl⟩) (wt_preS hK hN (hP.sub [] rfl)) rfl rfl hl.1 rfl (lv_room (Nat.le_of_ble_eq_true rfl)) dX_say_11 ⟨Nat.le_of_ble_eq_true rfl, Nat.le_of_ble_eq_true rfl⟩) ?_
    refine wt_bif_eq (tgt := 42) hx hb dX_say_14 (by decide) (fun c_2 => ?_) (fun c_2 => ?_)
    · exact absurd c_2 (by rw [isP2 hpp hqq]; decide)
    · skip
      refine lv_aload_n hx hb dX_say_17 rfl (lv_at hl 0 rfl) ?_
      refine va_get (D := (dC, dI)) (ci := 0) (v := .ref (q 1)) (C := RX) (T := TX) (N := 5) hx hb ht inX hown hK hP 0 rfl rfl 0 (by decide) (ht _ m_113) (fun _ h9 => h9) rfl dX_say_18 ?_
      refine wt_roi (va_runV (As := []) (rest := []) ⟨hx, hb, hml, hown, ht⟩ (c_T_isFull l dC dI cI cZ cL q ph pa ch en sz pr gc gb sc sh sl ct tok wt pn lt wp sd hpr) (cwV 0 ht (good_V m_142 m_143 m_144 m_2 m_145) rfl rfl rfl (by decide +kernel) ⟨Nat.le_of_ble_eq_true rfl, Nat.le_of_ble_eq_true rfl⟩) (wt_preV hK hN hP (va_recv hK hP (ci := 1) (q0 := 1) rfl rfl)) rfl rfl hl.1 rfl (lv_room (Nat.le_of_ble_eq_true rfl)) dX_say_21 ⟨Nat.le_of_ble_eq_true rfl, Nat.le_of_ble_eq_true rfl⟩) ?_
      refine wt_bif_ne (tgt := 42) hx hb dX_say_24 (by decide) (fun c_3 => ?_) (fun c_3 => ?_)
      · skip
        refine lv_iconst (v := (-1)) hx hb dX_say_42 (by decide) ?_
        exact W.iret (v := (-1)) hx hb hr (fun t ht hW => ⟨_, rfl, rfl, ht⟩) (fun q h => by cases h) dX_say_43
      · skip
        refine lv_aload_n hx hb dX_say_27 rfl (lv_at hl 0 rfl) ?_
        refine va_get (D := (dC, dI)) (ci := 0) (v := .ref (q 1)) (C := RX) (T := TX) (N := 5) hx hb ht inX hown hK hP 0 rfl rfl 0 (by decide) (ht _ m_113) (fun _ h9 => h9) rfl dX_say_28 ?_
        refine lv_iload_n hx hb dX_say_31 rfl (lv_at hl 1 rfl) ?_
        refine lv_iload_n hx hb dX_say_32 rfl (lv_at hl 2 rfl) ?_
        refine lv_iload_n hx hb dX_say_33 rfl (lv_at hl 3 rfl) ?_
        refine lv_iload hx hb dX_say_34 (lv_at hl 4 rfl) ?_
        refine wt_roi (va_runV (As := [.int (nI ww), .int (nI pp), .int (nI qq), .int (-1)]) (rest := []) ⟨hx, hb, hml, hown, ht⟩ (c_T_has_2 l dC dI cI cZ cL q ph pa ch en sz pr gc gb sc sh sl ct tok wt pn lt wp sd ww pp qq hww hpp hqq hch) (cwV 4 ht (good_V m_146 m_147 m_148 m_2 m_149) rfl rfl rfl (by decide +kernel) ⟨Nat.le_of_ble_eq_true rfl, Nat.le_of_ble_eq_true rfl⟩) (wt_preV hK hN hP (va_recv hK hP (ci := 1) (q0 := 1) rfl rfl)) rfl rfl hl.1 rfl (lv_room (Nat.le_of_ble_eq_true rfl)) dX_say_36 ⟨Nat.le_of_ble_eq_true rfl, Nat.le_of_ble_eq_true rfl⟩) ?_
        refine wt_bif_eq (tgt := 44) hx hb dX_say_39 (by decide) (fun c_4 => ?_) (fun c_4 => ?_)
        · exact absurd c_4 (by rw [hhas]; decide)
        · skip
          refine lv_iconst (v := (-1)) hx hb dX_say_42 (by decide) ?_
          exact W.iret (v := (-1)) hx hb hr (fun t ht hW => ⟨_, rfl, rfl, ht⟩) (fun q h => by cases h) dX_say_43

set_option maxHeartbeats 4000000 in
set_option maxRecDepth 100000 in
theorem c_X_say_2a (l : Launch) (dC : Nat → ClassId) (dI : Nat → Nat → Nat) (cI cZ cL : ClassId) (q : Nat → Nat) (sz0 : Nat) (ph : Nat → Nat) (pa : Nat → Nat) (ch : Nat → Nat) (en : Nat → Bool) (sz : Nat) (pr : Nat) (gc : Nat → Int32) (gb : Nat → Int32) (sc : Nat → Int32) (sh : Nat → Int32) (sl : Nat → Int32) (ct : Nat) (tok : Nat → Int64) (wt : Nat → Int64) (pn : Nat → Nat) (lt : Nat → Int64) (wp : Int64) (sd : Bool) (ww : Nat) (pp : Nat) (qq : Nat) (hww : ww < 4) (hpp : pp < 4) (hqq : qq < 4) (hch : ∀ j, ch j ≤ 24) (hpr : pr ≤ 8) (hnf : pr ≤ 7) (hno : (decide (¬ wt_d2 ch pp qq = 0) && en (wt_d2 ch pp qq * 4 + ww)) = false) (hsz : sz + 3 ≤ 24) : Met l yX_say (Cond.code yX_say cX_say 5 (some .int) :: tb) ({ frames := 3, cells := 0, slots := 0, locals := 71 }) (va_Pc [.ref (q 0), .int (nI ww), .int (nI pp), .int (nI qq), .int (-1)] (wt_rw (dC, dI) vwCl [(cI, .int), (cZ, .boolean), (cL, .long)] (wX cI cZ cL q ph pa ch en sz pr gc gb sc sh sl ct tok wt pn lt wp sd) sz0)) (va_Qi (fun r (_ : Unit) => r = (nI ((wt_gr (wt_gr ph pa ch sz 0 pp).1 (wt_gr ph pa ch sz 0 pp).2.1 (wt_gr ph pa ch sz 0 pp).2.2.1 (wt_gr ph pa ch sz 0 pp).2.2.2.1 (wt_gr ph pa ch sz 0 pp).2.2.2.2 qq).2.2.2.1))) (wt_B (dC, dI) vwCl (va_A (wX cI cZ cL q ph pa ch en sz pr gc gb sc sh sl ct tok wt pn lt wp sd) sz0) (wX cI cZ cL q ((wt_gr (wt_gr ph pa ch sz 0 pp).1 (wt_gr ph pa ch sz 0 pp).2.1 (wt_gr ph pa ch sz 0 pp).2.2.1 (wt_gr ph pa ch sz 0 pp).2.2.2.1 (wt_gr ph pa ch sz 0 pp).2.2.2.2 qq).1) ((wt_gr (wt_gr ph pa ch sz 0 pp).1 (wt_gr ph pa ch sz 0 pp).2.1 (wt_gr ph pa ch sz 0 pp).2.2.1 (wt_gr ph pa ch sz 0 pp).2.2.2.1 (wt_gr ph pa ch sz 0 pp).2.2.2.2 qq).2.1) ((wt_gr (wt_gr ph pa ch sz 0 pp).1 (wt_gr ph pa ch sz 0 pp).2.1 (wt_gr ph pa ch sz 0 pp).2.2.1 (wt_gr ph pa ch sz 0 pp).2.2.2.1 (wt_gr ph pa ch sz 0 pp).2.2.2.2 qq).2.2.1) (va_up en ((wt_gr (wt_gr ph pa ch sz 0 pp).1 (wt_gr ph pa ch sz 0 pp).2.1 (wt_gr ph pa ch sz 0 pp).2.2.1 (wt_gr ph pa ch sz 0 pp).2.2.2.1 (wt_gr ph pa ch sz 0 pp).2.2.2.2 qq).2.2.2.2 * 4 + ww) true) ((wt_gr (wt_gr ph pa ch sz 0 pp).1 (wt_gr ph pa ch sz 0 pp).2.1 (wt_gr ph pa ch sz 0 pp).2.2.1 (wt_gr ph pa ch sz 0 pp).2.2.2.1 (wt_gr ph pa ch sz 0 pp).2.2.2.2 qq).2.2.2.1) (pr + 1) gc gb sc sh sl ct tok wt pn lt wp false)) (va_A (wX cI cZ cL q ph pa ch en sz pr gc gb sc sh sl ct tok wt pn lt wp sd) sz0)) 0 0 (va_A (wX cI cZ cL q ph pa ch en sz pr gc gb sc sh sl ct tok wt pn lt wp sd) sz0) := by
  refine Met.ofW (cc := cX_say) (maxL := 5) (ret := (some .int)) (by decide) rfl ?_
  intro p e s m args below meth c s₁ B hml hv
  obtain ⟨rfl, hsz, hP, hK, hN, hD0⟩ := hv
  have hx := B.exec
  have hb := B.bytes
  have hr := B.returns
  have hts := atoms_spec (ws := (Cond.code yX_say cX_say 5 (some .int) :: tb)) B.pre
  have ht : ∀ w ∈ tb, w.before _ s = true := fun w h => hts w (List.mem_cons_of_mem _ h)
  have hown : s.vm.findClass RX = some m.cls := findClass_of_methodNamed B.named
  have hlocks := B.notSynchronized
  subst hsz
  have hD := hD0.self (sz := s.heap.size)
  generalize hAe : va_A (wX cI cZ cL q ph pa ch en sz pr gc gb sc sh sl ct tok wt pn lt wp sd) s.heap.size = A at hD ⊢
  have hA : ∀ q : Nat, s.heap.size ≤ q → A q := fun q h => by rw [← hAe]; exact Or.inr h
  clear hAe hD0
  have hS : va_S A s.heap s.heap [] := va_S.rf
  have hl := lv_entry ([.ref (q 0), .int (nI ww), .int (nI pp), .int (nI qq), .int (-1)]) (n := 5) (Nat.le_of_ble_eq_true rfl)
  rw [lg_entry_eq]
  generalize (lg_sl ([.ref (q 0), .int (nI ww), .int (nI pp), .int (nI qq), .int (-1)]) ++ List.replicate (5 - (lg_sl ([.ref (q 0), .int (nI ww), .int (nI pp), .int (nI qq), .int (-1)])).length) Slot.unset).toArray = ls at hl ⊢
  have hl : lv_has ls 5 [(0, .ref (q 0)), (1, .int (nI ww)), (2, .int (nI pp)), (3, .int (nI qq)), (4, .int (-1))] := hl
  refine lv_iload_n hx hb dX_say_0 rfl (lv_at hl 1 rfl) ?_
  refine wt_roi (va_runS (As := [.int (nI ww)]) (rest := []) ⟨hx, hb, hml, hown, ht⟩ (c_X_isWord l dC dI cI cZ cL (nI ww)) (va_cwS 1 ht (good_S m_133 m_134 m_1 m_135) rfl rfl rfl (by decide +kernel) ⟨Nat.le_of_ble_eq_true rfl, Nat.le_of_ble_eq_true rfl⟩) (wt_preS hK hN (hP.sub [] rfl)) rfl rfl hl.1 rfl (lv_room (Nat.le_of_ble_eq_true rfl)) dX_say_1 ⟨Nat.le_of_ble_eq_true rfl, Nat.le_of_ble_eq_true rfl⟩) ?_
  refine lv_if_eq (tgt := 42) hx hb dX_say_4 (by decide) (fun c_1 => ?_) (fun c_1 => ?_)
  · exact absurd c_1 (wt_rn hww (by decide))
  · skip
    refine lv_iload_n hx hb dX_say_7 rfl (lv_at hl 2 rfl) ?_
    refine lv_iload_n hx hb dX_say_8 rfl (lv_at hl 3 rfl) ?_
    refine lv_iload hx hb dX_say_9 (lv_at hl 4 rfl) ?_
    refine wt_roi (va_runS (As := [.int (nI pp), .int (nI qq), .int (-1)]) (rest := []) ⟨hx, hb, hml, hown, ht⟩ (c_X_isPronunciation l dC dI cI cZ cL (nI pp) (nI qq) (-1)) (va_cwS 3 ht (good_S m_136 m_137 m_1 m_138) rfl rfl rfl (by decide +kernel) ⟨Nat.le_of_ble_eq_true rfl, Nat.le_of_ble_eq_true rfl⟩) (wt_preS hK hN (hP.sub [] rfl)) rfl rfl hl.1 rfl (lv_room (Nat.le_of_ble_eq_true rfl)) dX_say_11 ⟨Nat.le_of_ble_eq_true rfl, Nat.le_of_ble_eq_true rfl⟩) ?_
    refine wt_bif_eq (tgt := 42) hx hb dX_say_14 (by decide) (fun c_2 => ?_) (fun c_2 => ?_)
    · exact absurd c_2 (by rw [isP2 hpp hqq]; decide)
    · skip
      refine lv_aload_n hx hb dX_say_17 rfl (lv_at hl 0 rfl) ?_
      refine va_get (D := (dC, dI)) (ci := 0) (v := .ref (q 1)) (C := RX) (T := TX) (N := 5) hx hb ht inX hown hK hP 0 rfl rfl 0 (by decide) (ht _ m_113) (fun _ h9 => h9) rfl dX_say_18 ?_
      refine wt_roi (va_runV (As := []) (rest := []) ⟨hx, hb, hml, hown, ht⟩ (c_T_isFull l dC dI cI cZ cL q ph pa ch en sz pr gc gb sc sh sl ct tok wt pn lt wp sd hpr) (cwV 0 ht (good_V m_142 m_143 m_144 m_2 m_145) rfl rfl rfl (by decide +kernel) ⟨Nat.le_of_ble_eq_true rfl, Nat.le_of_ble_eq_true rfl⟩) (wt_preV hK hN hP (va_recv hK hP (ci := 1) (q0 := 1) rfl rfl)) rfl rfl hl.1 rfl (lv_room (Nat.le_of_ble_eq_true rfl)) dX_say_21 ⟨Nat.le_of_ble_eq_true rfl, Nat.le_of_ble_eq_true rfl⟩) ?_
      refine wt_bif_ne (tgt := 42) hx hb dX_say_24 (by decide) (fun c_3 => ?_) (fun c_3 => ?_)
      · exact absurd (of_decide_eq_true c_3) (by omega)
      · skip
        refine lv_aload_n hx hb dX_say_27 rfl (lv_at hl 0 rfl) ?_
        refine va_get (D := (dC, dI)) (ci := 0) (v := .ref (q 1)) (C := RX) (T := TX) (N := 5) hx hb ht inX hown hK hP 0 rfl rfl 0 (by decide) (ht _ m_113) (fun _ h9 => h9) rfl dX_say_28 ?_
        refine lv_iload_n hx hb dX_say_31 rfl (lv_at hl 1 rfl) ?_
        refine lv_iload_n hx hb dX_say_32 rfl (lv_at hl 2 rfl) ?_
        refine lv_iload_n hx hb dX_say_33 rfl (lv_at hl 3 rfl) ?_
        refine lv_iload hx hb dX_say_34 (lv_at hl 4 rfl) ?_
        refine wt_roi (va_runV (As := [.int (nI ww), .int (nI pp), .int (nI qq), .int (-1)]) (rest := []) ⟨hx, hb, hml, hown, ht⟩ (c_T_has_2 l dC dI cI cZ cL q ph pa ch en sz pr gc gb sc sh sl ct tok wt pn lt wp sd ww pp qq hww hpp hqq hch) (cwV 4 ht (good_V m_146 m_147 m_148 m_2 m_149) rfl rfl rfl (by decide +kernel) ⟨Nat.le_of_ble_eq_true rfl, Nat.le_of_ble_eq_true rfl⟩) (wt_preV hK hN hP (va_recv hK hP (ci := 1) (q0 := 1) rfl rfl)) rfl rfl hl.1 rfl (lv_room (Nat.le_of_ble_eq_true rfl)) dX_say_36 ⟨Nat.le_of_ble_eq_true rfl, Nat.le_of_ble_eq_true rfl⟩) ?_
        refine wt_bif_eq (tgt := 44) hx hb dX_say_39 (by decide) (fun c_4 => ?_) (fun c_4 => ?_)
        · skip
          refine lv_aload_n hx hb dX_say_44 rfl (lv_at hl 0 rfl) ?_
          refine va_get (D := (dC, dI)) (ci := 0) (v := .ref (q 1)) (C := RX) (T := TX) (N := 5) hx hb ht inX hown hK hP 0 rfl rfl 0 (by decide) (ht _ m_113) (fun _ h9 => h9) rfl dX_say_45 ?_
          refine lv_iload_n hx hb dX_say_48 rfl (lv_at hl 1 rfl) ?_
          refine lv_iload_n hx hb dX_say_49 rfl (lv_at hl 2 rfl) ?_
          refine lv_iload_n hx hb dX_say_50 rfl (lv_at hl 3 rfl) ?_
          refine lv_iload hx hb dX_say_51 (lv_at hl 4 rfl) ?_
          refine wt_rwv (va_runV (As := [.int (nI ww), .int (nI pp), .int (nI qq), .int (-1)]) (rest := []) ⟨hx, hb, hml, hown, ht⟩ (c_T_add_2 l dC dI cI cZ cL q s.heap.size ph pa ch en sz pr gc gb sc sh sl ct tok wt pn lt wp sd ww pp qq hww hpp hqq hch hsz hnf) (cwV 4 ht (good_V m_158 m_159 m_160 m_2 m_161) rfl rfl rfl (by decide +kernel) ⟨Nat.le_of_ble_eq_true rfl, Nat.le_of_ble_eq_true rfl⟩) (wt_preVw hK hN hP hD (va_recv hK hP (ci := 1) (q0 := 1) rfl rfl)) rfl rfl hl.1 rfl (lv_room (Nat.le_of_ble_eq_true rfl)) dX_say_53 ⟨Nat.le_of_ble_eq_true rfl, Nat.le_of_ble_eq_true rfl⟩) hD hS hA (fun H locs hP hD hS => ?_)
          have hP : va_P (dC, dI) vwCl (wX cI cZ cL q ((wt_gr (wt_gr ph pa ch sz 0 pp).1 (wt_gr ph pa ch sz 0 pp).2.1 (wt_gr ph pa ch sz 0 pp).2.2.1 (wt_gr ph pa ch sz 0 pp).2.2.2.1 (wt_gr ph pa ch sz 0 pp).2.2.2.2 qq).1) ((wt_gr (wt_gr ph pa ch sz 0 pp).1 (wt_gr ph pa ch sz 0 pp).2.1 (wt_gr ph pa ch sz 0 pp).2.2.1 (wt_gr ph pa ch sz 0 pp).2.2.2.1 (wt_gr ph pa ch sz 0 pp).2.2.2.2 qq).2.1) ((wt_gr (wt_gr ph pa ch sz 0 pp).1 (wt_gr ph pa ch sz 0 pp).2.1 (wt_gr ph pa ch sz 0 pp).2.2.1 (wt_gr ph pa ch sz 0 pp).2.2.2.1 (wt_gr ph pa ch sz 0 pp).2.2.2.2 qq).2.2.1) (va_up en ((wt_gr (wt_gr ph pa ch sz 0 pp).1 (wt_gr ph pa ch sz 0 pp).2.1 (wt_gr ph pa ch sz 0 pp).2.2.1 (wt_gr ph pa ch sz 0 pp).2.2.2.1 (wt_gr ph pa ch sz 0 pp).2.2.2.2 qq).2.2.2.2 * 4 + ww) true) ((wt_gr (wt_gr ph pa ch sz 0 pp).1 (wt_gr ph pa ch sz 0 pp).2.1 (wt_gr ph pa ch sz 0 pp).2.2.1 (wt_gr ph pa ch sz 0 pp).2.2.2.1 (wt_gr ph pa ch sz 0 pp).2.2.2.2 qq).2.2.2.1) (pr + 1) gc gb sc sh sl ct tok wt pn lt wp sd) H := hP
          have hD : va_D A (wX cI cZ cL q ((wt_gr (wt_gr ph pa ch sz 0 pp).1 (wt_gr ph pa ch sz 0 pp).2.1 (wt_gr ph pa ch sz 0 pp).2.2.1 (wt_gr ph pa ch sz 0 pp).2.2.2.1 (wt_gr ph pa ch sz 0 pp).2.2.2.2 qq).1) ((wt_gr (wt_gr ph pa ch sz 0 pp).1 (wt_gr ph pa ch sz 0 pp).2.1 (wt_gr ph pa ch sz 0 pp).2.2.1 (wt_gr ph pa ch sz 0 pp).2.2.2.1 (wt_gr ph pa ch sz 0 pp).2.2.2.2 qq).2.1) ((wt_gr (wt_gr ph pa ch sz 0 pp).1 (wt_gr ph pa ch sz 0 pp).2.1 (wt_gr ph pa ch sz 0 pp).2.2.1 (wt_gr ph pa ch sz 0 pp).2.2.2.1 (wt_gr ph pa ch sz 0 pp).2.2.2.2 qq).2.2.1) (va_up en ((wt_gr (wt_gr ph pa ch sz 0 pp).1 (wt_gr ph pa ch sz 0 pp).2.1 (wt_gr ph pa ch sz 0 pp).2.2.1 (wt_gr ph pa ch sz 0 pp).2.2.2.1 (wt_gr ph pa ch sz 0 pp).2.2.2.2 qq).2.2.2.2 * 4 + ww) true) ((wt_gr (wt_gr ph pa ch sz 0 pp).1 (wt_gr ph pa ch sz 0 pp).2.1 (wt_gr ph pa ch sz 0 pp).2.2.1 (wt_gr ph pa ch sz 0 pp).2.2.2.1 (wt_gr ph pa ch sz 0 pp).2.2.2.2 qq).2.2.2.1) (pr + 1) gc gb sc sh sl ct tok wt pn lt wp sd) := hD
          refine lv_aload_n hx hb dX_say_56 rfl (lv_at hl 0 rfl) ?_
          refine lv_iconst (v := nI 0) hx hb dX_say_57 (by decide) ?_
          rw [show (.int (nI 0) : Value) = .int (wt_bI false) from rfl]
          refine va_put (D := (dC, dI)) (ci := 0) (v := .int (wt_bI false)) (ty := .boolean) (C := RX) (T := TX) (N := 5) hx hb ht inX tyX tyX_ok nmX hown hK hP hD hS 0 rfl rfl 4 (by decide) (ht _ m_117) (fun _ h9 => h9) rfl (by decide +kernel) (wt_bI_nar _) (by first | rfl | (cases false <;> rfl)) (Nat.le_of_ble_eq_true rfl) dX_say_58 (fun H locs hP hD hS => ?_)
          have hP : va_P (dC, dI) vwCl (wX cI cZ cL q ((wt_gr (wt_gr ph pa ch sz 0 pp).1 (wt_gr ph pa ch sz 0 pp).2.1 (wt_gr ph pa ch sz 0 pp).2.2.1 (wt_gr ph pa ch sz 0 pp).2.2.2.1 (wt_gr ph pa ch sz 0 pp).2.2.2.2 qq).1) ((wt_gr (wt_gr ph pa ch sz 0 pp).1 (wt_gr ph pa ch sz 0 pp).2.1 (wt_gr ph pa ch sz 0 pp).2.2.1 (wt_gr ph pa ch sz 0 pp).2.2.2.1 (wt_gr ph pa ch sz 0 pp).2.2.2.2 qq).2.1) ((wt_gr (wt_gr ph pa ch sz 0 pp).1 (wt_gr ph pa ch sz 0 pp).2.1 (wt_gr ph pa ch sz 0 pp).2.2.1 (wt_gr ph pa ch sz 0 pp).2.2.2.1 (wt_gr ph pa ch sz 0 pp).2.2.2.2 qq).2.2.1) (va_up en ((wt_gr (wt_gr ph pa ch sz 0 pp).1 (wt_gr ph pa ch sz 0 pp).2.1 (wt_gr ph pa ch sz 0 pp).2.2.1 (wt_gr ph pa ch sz 0 pp).2.2.2.1 (wt_gr ph pa ch sz 0 pp).2.2.2.2 qq).2.2.2.2 * 4 + ww) true) ((wt_gr (wt_gr ph pa ch sz 0 pp).1 (wt_gr ph pa ch sz 0 pp).2.1 (wt_gr ph pa ch sz 0 pp).2.2.1 (wt_gr ph pa ch sz 0 pp).2.2.2.1 (wt_gr ph pa ch sz 0 pp).2.2.2.2 qq).2.2.2.1) (pr + 1) gc gb sc sh sl ct tok wt pn lt wp false) H := hP
          have hD : va_D A (wX cI cZ cL q ((wt_gr (wt_gr ph pa ch sz 0 pp).1 (wt_gr ph pa ch sz 0 pp).2.1 (wt_gr ph pa ch sz 0 pp).2.2.1 (wt_gr ph pa ch sz 0 pp).2.2.2.1 (wt_gr ph pa ch sz 0 pp).2.2.2.2 qq).1) ((wt_gr (wt_gr ph pa ch sz 0 pp).1 (wt_gr ph pa ch sz 0 pp).2.1 (wt_gr ph pa ch sz 0 pp).2.2.1 (wt_gr ph pa ch sz 0 pp).2.2.2.1 (wt_gr ph pa ch sz 0 pp).2.2.2.2 qq).2.1) ((wt_gr (wt_gr ph pa ch sz 0 pp).1 (wt_gr ph pa ch sz 0 pp).2.1 (wt_gr ph pa ch sz 0 pp).2.2.1 (wt_gr ph pa ch sz 0 pp).2.2.2.1 (wt_gr ph pa ch sz 0 pp).2.2.2.2 qq).2.2.1) (va_up en ((wt_gr (wt_gr ph pa ch sz 0 pp).1 (wt_gr ph pa ch sz 0 pp).2.1 (wt_gr ph pa ch sz 0 pp).2.2.1 (wt_gr ph pa ch sz 0 pp).2.2.2.1 (wt_gr ph pa ch sz 0 pp).2.2.2.2 qq).2.2.2.2 * 4 + ww) true) ((wt_gr (wt_gr ph pa ch sz 0 pp).1 (wt_gr ph pa ch sz 0 pp).2.1 (wt_gr ph pa ch sz 0 pp).2.2.1 (wt_gr ph pa ch sz 0 pp).2.2.2.1 (wt_gr ph pa ch sz 0 pp).2.2.2.2 qq).2.2.2.1) (pr + 1) gc gb sc sh sl ct tok wt pn lt wp false) := hD
          refine lv_aload_n hx hb dX_say_61 rfl (lv_at hl 0 rfl) ?_
          refine va_get (D := (dC, dI)) (ci := 0) (v := .ref (q 1)) (C := RX) (T := TX) (N := 5) hx hb ht inX hown hK hP 0 rfl rfl 0 (by decide) (ht _ m_113) (fun _ h9 => h9) rfl dX_say_62 ?_
          refine wt_roi (va_runV (As := []) (rest := []) ⟨hx, hb, hml, hown, ht⟩ (c_T_size l dC dI cI cZ cL q ((wt_gr (wt_gr ph pa ch sz 0 pp).1 (wt_gr ph pa ch sz 0 pp).2.1 (wt_gr ph pa ch sz 0 pp).2.2.1 (wt_gr ph pa ch sz 0 pp).2.2.2.1 (wt_gr ph pa ch sz 0 pp).2.2.2.2 qq).1) ((wt_gr (wt_gr ph pa ch sz 0 pp).1 (wt_gr ph pa ch sz 0 pp).2.1 (wt_gr ph pa ch sz 0 pp).2.2.1 (wt_gr ph pa ch sz 0 pp).2.2.2.1 (wt_gr ph pa ch sz 0 pp).2.2.2.2 qq).2.1) ((wt_gr (wt_gr ph pa ch sz 0 pp).1 (wt_gr ph pa ch sz 0 pp).2.1 (wt_gr ph pa ch sz 0 pp).2.2.1 (wt_gr ph pa ch sz 0 pp).2.2.2.1 (wt_gr ph pa ch sz 0 pp).2.2.2.2 qq).2.2.1) (va_up en ((wt_gr (wt_gr ph pa ch sz 0 pp).1 (wt_gr ph pa ch sz 0 pp).2.1 (wt_gr ph pa ch sz 0 pp).2.2.1 (wt_gr ph pa ch sz 0 pp).2.2.2.1 (wt_gr ph pa ch sz 0 pp).2.2.2.2 qq).2.2.2.2 * 4 + ww) true) ((wt_gr (wt_gr ph pa ch sz 0 pp).1 (wt_gr ph pa ch sz 0 pp).2.1 (wt_gr ph pa ch sz 0 pp).2.2.1 (wt_gr ph pa ch sz 0 pp).2.2.2.1 (wt_gr ph pa ch sz 0 pp).2.2.2.2 qq).2.2.2.1) (pr + 1) gc gb sc sh sl ct tok wt pn lt wp false) (cwV 0 ht (good_V m_166 m_167 m_168 m_2 m_169) rfl rfl rfl (by decide +kernel) ⟨Nat.le_of_ble_eq_true rfl, Nat.le_of_ble_eq_true rfl⟩) (wt_preV hK hN hP (va_recv hK hP (ci := 1) (q0 := 1) rfl rfl)) rfl rfl hl.1 rfl (lv_room (Nat.le_of_ble_eq_true rfl)) dX_say_65 ⟨Nat.le_of_ble_eq_true rfl, Nat.le_of_ble_eq_true rfl⟩) ?_
          have hP9 : va_P (dC, dI) vwCl (wX cI cZ cL q ((wt_gr (wt_gr ph pa ch sz 0 pp).1 (wt_gr ph pa ch sz 0 pp).2.1 (wt_gr ph pa ch sz 0 pp).2.2.1 (wt_gr ph pa ch sz 0 pp).2.2.2.1 (wt_gr ph pa ch sz 0 pp).2.2.2.2 qq).1) ((wt_gr (wt_gr ph pa ch sz 0 pp).1 (wt_gr ph pa ch sz 0 pp).2.1 (wt_gr ph pa ch sz 0 pp).2.2.1 (wt_gr ph pa ch sz 0 pp).2.2.2.1 (wt_gr ph pa ch sz 0 pp).2.2.2.2 qq).2.1) ((wt_gr (wt_gr ph pa ch sz 0 pp).1 (wt_gr ph pa ch sz 0 pp).2.1 (wt_gr ph pa ch sz 0 pp).2.2.1 (wt_gr ph pa ch sz 0 pp).2.2.2.1 (wt_gr ph pa ch sz 0 pp).2.2.2.2 qq).2.2.1) (va_up en ((wt_gr (wt_gr ph pa ch sz 0 pp).1 (wt_gr ph pa ch sz 0 pp).2.1 (wt_gr ph pa ch sz 0 pp).2.2.1 (wt_gr ph pa ch sz 0 pp).2.2.2.1 (wt_gr ph pa ch sz 0 pp).2.2.2.2 qq).2.2.2.2 * 4 + ww) true) ((wt_gr (wt_gr ph pa ch sz 0 pp).1 (wt_gr ph pa ch sz 0 pp).2.1 (wt_gr ph pa ch sz 0 pp).2.2.1 (wt_gr ph pa ch sz 0 pp).2.2.2.1 (wt_gr ph pa ch sz 0 pp).2.2.2.2 qq).2.2.2.1) (pr + 1) gc gb sc sh sl ct tok wt pn lt wp false) H := by exact hP
          have hD9 : va_D A (wX cI cZ cL q ((wt_gr (wt_gr ph pa ch sz 0 pp).1 (wt_gr ph pa ch sz 0 pp).2.1 (wt_gr ph pa ch sz 0 pp).2.2.1 (wt_gr ph pa ch sz 0 pp).2.2.2.1 (wt_gr ph pa ch sz 0 pp).2.2.2.2 qq).1) ((wt_gr (wt_gr ph pa ch sz 0 pp).1 (wt_gr ph pa ch sz 0 pp).2.1 (wt_gr ph pa ch sz 0 pp).2.2.1 (wt_gr ph pa ch sz 0 pp).2.2.2.1 (wt_gr ph pa ch sz 0 pp).2.2.2.2 qq).2.1) ((wt_gr (wt_gr ph pa ch sz 0 pp).1 (wt_gr ph pa ch sz 0 pp).2.1 (wt_gr ph pa ch sz 0 pp).2.2.1 (wt_gr ph pa ch sz 0 pp).2.2.2.1 (wt_gr ph pa ch sz 0 pp).2.2.2.2 qq).2.2.1) (va_up en ((wt_gr (wt_gr ph pa ch sz 0 pp).1 (wt_gr ph pa ch sz 0 pp).2.1 (wt_gr ph pa ch sz 0 pp).2.2.1 (wt_gr ph pa ch sz 0 pp).2.2.2.1 (wt_gr ph pa ch sz 0 pp).2.2.2.2 qq).2.2.2.2 * 4 + ww) true) ((wt_gr (wt_gr ph pa ch sz 0 pp).1 (wt_gr ph pa ch sz 0 pp).2.1 (wt_gr ph pa ch sz 0 pp).2.2.1 (wt_gr ph pa ch sz 0 pp).2.2.2.1 (wt_gr ph pa ch sz 0 pp).2.2.2.2 qq).2.2.2.1) (pr + 1) gc gb sc sh sl ct tok wt pn lt wp false) := by exact hD
          exact W.iret (v := nI ((wt_gr (wt_gr ph pa ch sz 0 pp).1 (wt_gr ph pa ch sz 0 pp).2.1 (wt_gr ph pa ch sz 0 pp).2.2.1 (wt_gr ph pa ch sz 0 pp).2.2.2.1 (wt_gr ph pa ch sz 0 pp).2.2.2.2 qq).2.2.2.1)) hx hb hr (fun t ht hW => ⟨⟨_, (), rfl, rfl, by rw [ht]; exact hP9, hD9⟩, hS.F ht⟩) hS.2.2 dX_say_68
        · exact absurd c_4 (by rw [hno]; decide)

set_option maxHeartbeats 4000000 in
set_option maxRecDepth 100000 in
theorem c_X_say_3f (l : Launch) (dC : Nat → ClassId) (dI : Nat → Nat → Nat) (cI cZ cL : ClassId) (q : Nat → Nat) (ph : Nat → Nat) (pa : Nat → Nat) (ch : Nat → Nat) (en : Nat → Bool) (sz : Nat) (pr : Nat) (gc : Nat → Int32) (gb : Nat → Int32) (sc : Nat → Int32) (sh : Nat → Int32) (sl : Nat → Int32) (ct : Nat) (tok : Nat → Int64) (wt : Nat → Int64) (pn : Nat → Nat) (lt : Nat → Int64) (wp : Int64) (sd : Bool) (ww : Nat) (pp : Nat) (qq : Nat) (rr : Nat) (hww : ww < 4) (hpp : pp < 4) (hqq : qq < 4) (hrr : rr < 4) (hch : ∀ j, ch j ≤ 24) (hpr : pr ≤ 8) (hfull : 8 ≤ pr) : Met l yX_say (Cond.code yX_say cX_say 5 (some .int) :: tb) ({ frames := 2, cells := 0, slots := 0, locals := 42 }) (va_Pc [.ref (q 0), .int (nI ww), .int (nI pp), .int (nI qq), .int (nI rr)] (wt_ro (dC, dI) vwCl [(cI, .int), (cZ, .boolean), (cL, .long)] (wX cI cZ cL q ph pa ch en sz pr gc gb sc sh sl ct tok wt pn lt wp sd))) (vp_Si (fun r => r = (-1))) 0 0 (fun _ => False) := by
  refine Met.ofW (cc := cX_say) (maxL := 5) (ret := (some .int)) (by decide) rfl ?_
  intro p e s m args below meth c s₁ B hml hv
  obtain ⟨rfl, hP, hK, hN⟩ := hv
  have hx := B.exec
  have hb := B.bytes
  have hr := B.returns
  have hts := atoms_spec (ws := (Cond.code yX_say cX_say 5 (some .int) :: tb)) B.pre
  have ht : ∀ w ∈ tb, w.before _ s = true := fun w h => hts w (List.mem_cons_of_mem _ h)
  have hown : s.vm.findClass RX = some m.cls := findClass_of_methodNamed B.named
  have hlocks := B.notSynchronized
  have hl := lv_entry ([.ref (q 0), .int (nI ww), .int (nI pp), .int (nI qq), .int (nI rr)]) (n := 5) (Nat.le_of_ble_eq_true rfl)
  rw [lg_entry_eq]
  generalize (lg_sl ([.ref (q 0), .int (nI ww), .int (nI pp), .int (nI qq), .int (nI rr)]) ++ List.replicate (5 - (lg_sl ([.ref (q 0), .int (nI ww), .int (nI pp), .int (nI qq), .int (nI rr)])).length) Slot.unset).toArray = ls at hl ⊢
  have hl : lv_has ls 5 [(0, .ref (q 0)), (1, .int (nI ww)), (2, .int (nI pp)), (3, .int (nI qq)), (4, .int (nI rr))] := hl
  refine lv_iload_n hx hb dX_say_0 rfl (lv_at hl 1 rfl) ?_
  refine wt_roi (va_runS (As := [.int (nI ww)]) (rest := []) ⟨hx, hb, hml, hown, ht⟩ (c_X_isWord l dC dI cI cZ cL (nI ww)) (va_cwS 1 ht (good_S m_133 m_134 m_1 m_135) rfl rfl rfl (by decide +kernel) ⟨Nat.le_of_ble_eq_true rfl, Nat.le_of_ble_eq_true rfl⟩) (wt_preS hK hN (hP.sub [] rfl)) rfl rfl hl.1 rfl (lv_room (Nat.le_of_ble_eq_true rfl)) dX_say_1 ⟨Nat.le_of_ble_eq_true rfl, Nat.le_of_ble_eq_true rfl⟩) ?_
  refine lv_if_eq (tgt := 42) hx hb dX_say_4 (by decide) (fun c_1 => ?_) (fun c_1 => ?_)
  · exact absurd c_1 (wt_rn hww (by decide))
  · skip
    refine lv_iload_n hx hb dX_say_7 rfl (lv_at hl 2 rfl) ?_
    refine lv_iload_n hx hb dX_say_8 rfl (lv_at hl 3 rfl) ?_
    refine lv_iload hx hb dX_say_9 (lv_at hl 4 rfl) ?_
    refine wt_roi (va_runS (As := [.int (nI pp), .int (nI qq), .int (nI rr)]) (rest := []) ⟨hx, hb, hml, hown, ht⟩ (c_X_isPronunciation l dC dI cI cZ cL (nI pp) (nI qq) (nI rr)) (va_cwS 3 ht (good_S m_136 m_137 m_1 m_138) rfl rfl rfl (by decide +kernel) ⟨Nat.le_of_ble_eq_true rfl, Nat.le_of_ble_eq_true rfl⟩) (wt_preS hK hN (hP.sub [] rfl)) rfl rfl hl.1 rfl (lv_room (Nat.le_of_ble_eq_true rfl)) dX_say_11 ⟨Nat.le_of_ble_eq_true rfl, Nat.le_of_ble_eq_true rfl⟩) ?_
    refine wt_bif_eq (tgt := 42) hx hb dX_say_14 (by decide) (fun c_2 => ?_) (fun c_2 => ?_)
    · exact absurd c_2 (by rw [isP3 hpp hqq hrr]; decide)
    · skip
      refine lv_aload_n hx hb dX_say_17 rfl (lv_at hl 0 rfl) ?_
      refine va_get (D := (dC, dI)) (ci := 0) (v := .ref (q 1)) (C := RX) (T := TX) (N := 5) hx hb ht inX hown hK hP 0 rfl rfl 0 (by decide) (ht _ m_113) (fun _ h9 => h9) rfl dX_say_18 ?_
      refine wt_roi (va_runV (As := []) (rest := []) ⟨hx, hb, hml, hown, ht⟩ (c_T_isFull l dC dI cI cZ cL q ph pa ch en sz pr gc gb sc sh sl ct tok wt pn lt wp sd hpr) (cwV 0 ht (good_V m_142 m_143 m_144 m_2 m_145) rfl rfl rfl (by decide +kernel) ⟨Nat.le_of_ble_eq_true rfl, Nat.le_of_ble_eq_true rfl⟩) (wt_preV hK hN hP (va_recv hK hP (ci := 1) (q0 := 1) rfl rfl)) rfl rfl hl.1 rfl (lv_room (Nat.le_of_ble_eq_true rfl)) dX_say_21 ⟨Nat.le_of_ble_eq_true rfl, Nat.le_of_ble_eq_true rfl⟩) ?_
      refine wt_bif_ne (tgt := 42) hx hb dX_say_24 (by decide) (fun c_3 => ?_) (fun c_3 => ?_)
      · skip
        refine lv_iconst (v := (-1)) hx hb dX_say_42 (by decide) ?_
        exact W.iret (v := (-1)) hx hb hr (fun t ht hW => ⟨_, rfl, rfl, ht⟩) (fun q h => by cases h) dX_say_43
      · exact absurd (of_decide_eq_false c_3) (by omega)

set_option maxHeartbeats 4000000 in
set_option maxRecDepth 100000 in
theorem c_X_say_3h (l : Launch) (dC : Nat → ClassId) (dI : Nat → Nat → Nat) (cI cZ cL : ClassId) (q : Nat → Nat) (ph : Nat → Nat) (pa : Nat → Nat) (ch : Nat → Nat) (en : Nat → Bool) (sz : Nat) (pr : Nat) (gc : Nat → Int32) (gb : Nat → Int32) (sc : Nat → Int32) (sh : Nat → Int32) (sl : Nat → Int32) (ct : Nat) (tok : Nat → Int64) (wt : Nat → Int64) (pn : Nat → Nat) (lt : Nat → Int64) (wp : Int64) (sd : Bool) (ww : Nat) (pp : Nat) (qq : Nat) (rr : Nat) (hww : ww < 4) (hpp : pp < 4) (hqq : qq < 4) (hrr : rr < 4) (hch : ∀ j, ch j ≤ 24) (hpr : pr ≤ 8) (hhas : (decide (¬ wt_d3 ch pp qq rr = 0) && en (wt_d3 ch pp qq rr * 4 + ww)) = true) : Met l yX_say (Cond.code yX_say cX_say 5 (some .int) :: tb) ({ frames := 2, cells := 0, slots := 0, locals := 48 }) (va_Pc [.ref (q 0), .int (nI ww), .int (nI pp), .int (nI qq), .int (nI rr)] (wt_ro (dC, dI) vwCl [(cI, .int), (cZ, .boolean), (cL, .long)] (wX cI cZ cL q ph pa ch en sz pr gc gb sc sh sl ct tok wt pn lt wp sd))) (vp_Si (fun r => r = (-1))) 0 0 (fun _ => False) := by
  refine Met.ofW (cc := cX_say) (maxL := 5) (ret := (some .int)) (by decide) rfl ?_
  intro p e s m args below meth c s₁ B hml hv
  obtain ⟨rfl, hP, hK, hN⟩ := hv
  have hx := B.exec
  have hb := B.bytes
  have hr := B.returns
  have hts := atoms_spec (ws := (Cond.code yX_say cX_say 5 (some .int) :: tb)) B.pre
  have ht : ∀ w ∈ tb, w.before _ s = true := fun w h => hts w (List.mem_cons_of_mem _ h)
  have hown : s.vm.findClass RX = some m.cls := findClass_of_methodNamed B.named
  have hlocks := B.notSynchronized
  have hl := lv_entry ([.ref (q 0), .int (nI ww), .int (nI pp), .int (nI qq), .int (nI rr)]) (n := 5) (Nat.le_of_ble_eq_true rfl)
  rw [lg_entry_eq]
  generalize (lg_sl ([.ref (q 0), .int (nI ww), .int (nI pp), .int (nI qq), .int (nI rr)]) ++ List.replicate (5 - (lg_sl ([.ref (q 0), .int (nI ww), .int (nI pp), .int (nI qq), .int (nI rr)])).length) Slot.unset).toArray = ls at hl ⊢
  have hl : lv_has ls 5 [(0, .ref (q 0)), (1, .int (nI ww)), (2, .int (nI pp)), (3, .int (nI qq)), (4, .int (nI rr))] := hl
  refine lv_iload_n hx hb dX_say_0 rfl (lv_at hl 1 rfl) ?_
  refine wt_roi (va_runS (As := [.int (nI ww)]) (rest := []) ⟨hx, hb, hml, hown, ht⟩ (c_X_isWord l dC dI cI cZ cL (nI ww)) (va_cwS 1 ht (good_S m_133 m_134 m_1 m_135) rfl rfl rfl (by decide +kernel) ⟨Nat.le_of_ble_eq_true rfl, Nat.le_of_ble_eq_true rfl⟩) (wt_preS hK hN (hP.sub [] rfl)) rfl rfl hl.1 rfl (lv_room (Nat.le_of_ble_eq_true rfl)) dX_say_1 ⟨Nat.le_of_ble_eq_true rfl, Nat.le_of_ble_eq_true rfl⟩) ?_
  refine lv_if_eq (tgt := 42) hx hb dX_say_4 (by decide) (fun c_1 => ?_) (fun c_1 => ?_)
  · exact absurd c_1 (wt_rn hww (by decide))
  · skip
    refine lv_iload_n hx hb dX_say_7 rfl (lv_at hl 2 rfl) ?_
    refine lv_iload_n hx hb dX_say_8 rfl (lv_at hl 3 rfl) ?_
    refine lv_iload hx hb dX_say_9 (lv_at hl 4 rfl) ?_
    refine wt_roi (va_runS (As := [.int (nI pp), .int (nI qq), .int (nI rr)]) (rest := []) ⟨hx, hb, hml, hown, ht⟩ (c_X_isPronunciation l dC dI cI cZ cL (nI pp) (nI qq) (nI rr)) (va_cwS 3 ht (good_S m_136 m_137 m_1 m_138) rfl rfl rfl (by decide +kernel) ⟨Nat.le_of_ble_eq_true rfl, Nat.le_of_ble_eq_true rfl⟩) (wt_preS hK hN (hP.sub [] rfl)) rfl rfl hl.1 rfl (lv_room (Nat.le_of_ble_eq_true rfl)) dX_say_11 ⟨Nat.le_of_ble_eq_true rfl, Nat.le_of_ble_eq_true rfl⟩) ?_
    refine wt_bif_eq (tgt := 42) hx hb dX_say_14 (by decide) (fun c_2 => ?_) (fun c_2 => ?_)
    · exact absurd c_2 (by rw [isP3 hpp hqq hrr]; decide)
    · skip
      refine lv_aload_n hx hb dX_say_17 rfl (lv_at hl 0 rfl) ?_
      refine va_get (D := (dC, dI)) (ci := 0) (v := .ref (q 1)) (C := RX) (T := TX) (N := 5) hx hb ht inX hown hK hP 0 rfl rfl 0 (by decide) (ht _ m_113) (fun _ h9 => h9) rfl dX_say_18 ?_
      refine wt_roi (va_runV (As := []) (rest := []) ⟨hx, hb, hml, hown, ht⟩ (c_T_isFull l dC dI cI cZ cL q ph pa ch en sz pr gc gb sc sh sl ct tok wt pn lt wp sd hpr) (cwV 0 ht (good_V m_142 m_143 m_144 m_2 m_145) rfl rfl rfl (by decide +kernel) ⟨Nat.le_of_ble_eq_true rfl, Nat.le_of_ble_eq_true rfl⟩) (wt_preV hK hN hP (va_recv hK hP (ci := 1) (q0 := 1) rfl rfl)) rfl rfl hl.1 rfl (lv_room (Nat.le_of_ble_eq_true rfl)) dX_say_21 ⟨Nat.le_of_ble_eq_true rfl, Nat.le_of_ble_eq_true rfl⟩) ?_
      refine wt_bif_ne (tgt := 42) hx hb dX_say_24 (by decide) (fun c_3 => ?_) (fun c_3 => ?_)
      · skip
        refine lv_iconst (v := (-1)) hx hb dX_say_42 (by decide) ?_
        exact W.iret (v := (-1)) hx hb hr (fun t ht hW => ⟨_, rfl, rfl, ht⟩) (fun q h => by cases h) dX_say_43
      · skip
        refine lv_aload_n hx hb dX_say_27 rfl (lv_at hl 0 rfl) ?_
        refine va_get (D := (dC, dI)) (ci := 0) (v := .ref (q 1)) (C := RX) (T := TX) (N := 5) hx hb ht inX hown hK hP 0 rfl rfl 0 (by decide) (ht _ m_113) (fun _ h9 => h9) rfl dX_say_28 ?_
        refine lv_iload_n hx hb dX_say_31 rfl (lv_at hl 1 rfl) ?_
        refine lv_iload_n hx hb dX_say_32 rfl (lv_at hl 2 rfl) ?_
        refine lv_iload_n hx hb dX_say_33 rfl (lv_at hl 3 rfl) ?_
        refine lv_iload hx hb dX_say_34 (lv_at hl 4 rfl) ?_
        refine wt_roi (va_runV (As := [.int (nI ww), .int (nI pp), .int (nI qq), .int (nI rr)]) (rest := []) ⟨hx, hb, hml, hown, ht⟩ (c_T_has_3 l dC dI cI cZ cL q ph pa ch en sz pr gc gb sc sh sl ct tok wt pn lt wp sd ww pp qq rr hww hpp hqq hrr hch) (cwV 4 ht (good_V m_146 m_147 m_148 m_2 m_149) rfl rfl rfl (by decide +kernel) ⟨Nat.le_of_ble_eq_true rfl, Nat.le_of_ble_eq_true rfl⟩) (wt_preV hK hN hP (va_recv hK hP (ci := 1) (q0 := 1) rfl rfl)) rfl rfl hl.1 rfl (lv_room (Nat.le_of_ble_eq_true rfl)) dX_say_36 ⟨Nat.le_of_ble_eq_true rfl, Nat.le_of_ble_eq_true rfl⟩) ?_
        refine wt_bif_eq (tgt := 44) hx hb dX_say_39 (by decide) (fun c_4 => ?_) (fun c_4 => ?_)
        · exact absurd c_4 (by rw [hhas]; decide)
        · skip
          refine lv_iconst (v := (-1)) hx hb dX_say_42 (by decide) ?_
          exact W.iret (v := (-1)) hx hb hr (fun t ht hW => ⟨_, rfl, rfl, ht⟩) (fun q h => by cases h) dX_say_43

set_option maxHeartbeats 4000000 in
set_option maxRecDepth 100000 in
theorem c_X_say_3a (l : Launch) (dC : Nat → ClassId) (dI : Nat → Nat → Nat) (cI cZ cL : ClassId) (q : Nat → Nat) (sz0 : Nat) (ph : Nat → Nat) (pa : Nat → Nat) (ch : Nat → Nat) (en : Nat → Bool) (sz : Nat) (pr : Nat) (gc : Nat → Int32) (gb : Nat → Int32) (sc : Nat → Int32) (sh : Nat → Int32) (sl : Nat → Int32) (ct : Nat) (tok : Nat → Int64) (wt : Nat → Int64) (pn : Nat → Nat) (lt : Nat → Int64) (wp : Int64) (sd : Bool) (ww : Nat) (pp : Nat) (qq : Nat) (rr : Nat) (hww : ww < 4) (hpp : pp < 4) (hqq : qq < 4) (hrr : rr < 4) (hch : ∀ j, ch j ≤ 24) (hpr : pr ≤ 8) (hnf : pr ≤ 7) (hno : (decide (¬ wt_d3 ch pp qq rr = 0) && en (wt_d3 ch pp qq rr * 4 + ww)) = false) (hsz : sz + 3 ≤ 24) : Met l yX_say (Cond.code yX_say cX_say 5 (some .int) :: tb) ({ frames := 3, cells := 0, slots := 0, locals := 71 }) (va_Pc [.ref (q 0), .int (nI ww), .int (nI pp), .int (nI qq), .int (nI rr)] (wt_rw (dC, dI) vwCl [(cI, .int), (cZ, .boolean), (cL, .long)] (wX cI cZ cL q ph pa ch en sz pr gc gb sc sh sl ct tok wt pn lt wp sd) sz0)) (va_Qi (fun r (_ : Unit) => r = (nI ((wt_gr (wt_gr (wt_gr ph pa ch sz 0 pp).1 (wt_gr ph pa ch sz 0 pp).2.1 (wt_gr ph pa ch sz 0 pp).2.2.1 (wt_gr ph pa ch sz 0 pp).2.2.2.1 (wt_gr ph pa ch sz 0 pp).2.2.2.2 qq).1 (wt_gr (wt_gr ph pa ch sz 0 pp).1 (wt_gr ph pa ch sz 0 pp).2.1 (wt_gr ph pa ch sz 0 pp).2.2.1 (wt_gr ph pa ch sz 0 pp).2.2.2.1 (wt_gr ph pa ch sz 0 pp).2.2.2.2 qq).2.1 (wt_gr (wt_gr ph pa ch sz 0 pp).1 (wt_gr ph pa ch sz 0 pp).2.1 (wt_gr ph pa ch sz 0 pp).2.2.1 (wt_gr ph pa ch sz 0 pp).2.2.2.1 (wt_gr ph pa ch sz 0 pp).2.2.2.2 qq).2.2.1 (wt_gr (wt_gr ph pa ch sz 0 pp).1 (wt_gr ph pa ch sz 0 pp).2.1 (wt_gr ph pa ch sz 0 pp).2.2.1 (wt_gr ph pa ch sz 0 pp).2.2.2.1 (wt_gr ph pa ch sz 0 pp).2.2.2.2 qq).2.2.2.1 (wt_gr (wt_gr ph pa ch sz 0 pp).1 (wt_gr ph pa ch sz 0 pp).2.1 (wt_gr ph pa ch sz 0 pp).2.2.1 (wt_gr ph pa ch sz 0 pp).2.2.2.1 (wt_gr ph pa ch sz 0 pp).2.2.2.2 qq).2.2.2.2 rr).2.2.2.1))) (wt_B (dC, dI) vwCl (va_A (wX cI cZ cL q ph pa ch en sz pr gc gb sc sh sl ct tok wt pn lt wp sd) sz0) (wX cI cZ cL q ((wt_gr (wt_gr (wt_gr ph pa ch sz 0 pp).1 (wt_gr ph pa ch sz 0 pp).2.1 (wt_gr ph pa ch sz 0 pp).2.2.1 (wt_gr ph pa ch sz 0 pp).2.2.2.1 (wt_gr ph pa ch sz 0 pp).2.2.2.2 qq).1 (wt_gr (wt_gr ph pa ch sz 0 pp).1 (wt_gr ph pa ch sz 0 pp).2.1 (wt_gr ph pa ch sz 0 pp).2.2.1 (wt_gr ph pa ch sz 0 pp).2.2.2.1 (wt_gr ph pa ch sz 0 pp).2.2.2.2 qq).2.1 (wt_gr (wt_gr ph pa ch sz 0 pp).1 (wt_gr ph pa ch sz 0 pp).2.1 (wt_gr ph pa ch sz 0 pp).2.2.1 (wt_gr ph pa ch sz 0 pp).2.2.2.1 (wt_gr ph pa ch sz 0 pp).2.2.2.2 qq).2.2.1 (wt_gr (wt_gr ph pa ch sz 0 pp).1 (wt_gr ph pa ch sz 0 pp).2.1 (wt_gr ph pa ch sz 0 pp).2.2.1 (wt_gr ph pa ch sz 0 pp).2.2.2.1 (wt_gr ph pa ch sz 0 pp).2.2.2.2 qq).2.2.2.1 (wt_gr (wt_gr ph pa ch sz 0 pp).1 (wt_gr ph pa ch sz 0 pp).2.1 (wt_gr ph pa ch sz 0 pp).2.2.1 (wt_gr ph pa ch sz 0 pp).2.2.2.1 (wt_gr ph pa ch sz 0 pp).2.2.2.2 qq).2.2.2.2 rr).1) ((wt_gr (wt_gr (wt_gr ph pa ch sz 0 pp).1 (wt_gr ph pa ch sz 0 pp).2.1 (wt_gr ph pa ch sz 0 pp).2.2.1 (wt_gr ph pa ch sz 0 pp).2.2.2.1 (wt_gr ph pa ch sz 0 pp).2.2.2.2 qq).1 (wt_gr (wt_gr ph pa ch sz 0 pp).1 (wt_gr ph pa ch sz 0 pp).2.1 (wt_gr ph pa ch sz 0 pp).2.2.1 (wt_gr ph pa ch sz 0 pp).2.2.2.1 (wt_gr ph pa ch sz 0 pp).2.2.2.2 qq).2.1 (wt_gr (wt_gr ph pa ch sz 0 pp).1 (wt_gr ph pa ch sz 0 pp).2.1 (wt_gr ph pa ch sz 0 pp).2.2.1 (wt_gr ph pa ch sz 0 pp).2.2.2.1 (wt_gr ph pa ch sz 0 pp).2.2.2.2 qq).2.2.1 (wt_gr (wt_gr ph pa ch sz 0 pp).1 (wt_gr ph pa ch sz 0 pp).2.1 (wt_gr ph pa ch sz 0 pp).2.2.1 (wt_gr ph pa ch sz 0 pp).2.2.2.1 (wt_gr ph pa ch sz 0 pp).2.2.2.2 qq).2.2.2.1 (wt_gr (wt_gr ph pa ch sz 0 pp).1 (wt_gr ph pa ch sz 0 pp).2.1 (wt_gr ph pa ch sz 0 pp).2.2.1 (wt_gr ph pa ch sz 0 pp).2.2.2.1 (wt_gr ph pa ch sz 0 pp).2.2.2.2 qq).2.2.2.2 rr).2.1) ((wt_gr (wt_gr (wt_gr ph pa ch sz 0 pp).1 (wt_gr ph pa ch sz 0 pp).2.1 (wt_gr ph pa ch sz 0 pp).2.2.1 (wt_gr ph pa ch sz 0 pp).2.2.2.1 (wt_gr ph pa ch sz 0 pp).2.2.2.2 qq).1 (wt_gr (wt_gr ph pa ch sz 0 pp).1 (wt_gr ph pa ch sz 0 pp).2.1 (wt_gr ph pa ch sz 0 pp).2.2.1 (wt_gr ph pa ch sz 0 pp).2.2.2.1 (wt_gr ph pa ch sz 0 pp).2.2.2.2 qq).2.1 (wt_gr (wt_gr ph pa ch sz 0 pp).1 (wt_gr ph pa ch sz 0 pp).2.1 (wt_gr ph pa ch sz 0 pp).2.2.1 (wt_gr ph pa ch sz 0 pp).2.2.2.1 (wt_gr ph pa ch sz 0 pp).2.2.2.2 qq).2.2.1 (wt_gr (wt_gr ph pa ch sz 0 pp).1 (wt_gr ph pa ch sz 0 pp).2.1 (wt_gr ph pa ch sz 0 pp).2.2.1 (wt_gr ph pa ch sz 0 pp).2.2.2.1 (wt_gr ph pa ch sz 0 pp).2.2.2.2 qq).2.2.2.1 (wt_gr (wt_gr ph pa ch sz 0 pp).1 (wt_gr ph pa ch sz 0 pp).2.1 (wt_gr ph pa ch sz 0 pp).2.2.1 (wt_gr ph pa ch sz 0 pp).2.2.2.1 (wt_gr ph pa ch sz 0 pp).2.2.2.2 qq).2.2.2.2 rr).2.2.1) (va_up en ((wt_gr (wt_gr (wt_gr ph pa ch sz 0 pp).1 (wt_gr ph pa ch sz 0 pp).2.1 (wt_gr ph pa ch sz 0 pp).2.2.1 (wt_gr ph pa ch sz 0 pp).2.2.2.1 (wt_gr ph pa ch sz 0 pp).2.2.2.2 qq).1 (wt_gr (wt_gr ph pa ch sz 0 pp).1 (wt_gr ph pa ch sz 0 pp).2.1 (wt_gr ph pa ch sz 0 pp).2.2.1 (wt_gr ph pa ch sz 0 pp).2.2.2.1 (wt_gr ph pa ch sz 0 pp).2.2.2.2 qq).2.1 (wt_gr (wt_gr ph pa ch sz 0 pp).1 (wt_gr ph pa ch sz 0 pp).2.1 (wt_gr ph pa ch sz 0 pp).2.2.1 (wt_gr ph pa ch sz 0 pp).2.2.2.1 (wt_gr ph pa ch sz 0 pp).2.2.2.2 qq).2.2.1 (wt_gr (wt_gr ph pa ch sz 0 pp).1 (wt_gr ph pa ch sz 0 pp).2.1 (wt_gr ph pa ch sz 0 pp).2.2.1 (wt_gr ph pa ch sz 0 pp).2.2.2.1 (wt_gr ph pa ch sz 0 pp).2.2.2.2 qq).2.2.2.1 (wt_gr (wt_gr ph pa ch sz 0 pp).1 (wt_gr ph pa ch sz 0 pp).2.1 (wt_gr ph pa ch sz 0 pp).2.2.1 (wt_gr ph pa ch sz 0 pp).2.2.2.1 (wt_gr ph pa ch sz 0 pp).2.2.2.2 qq).2.2.2.2 rr).2.2.2.2 * 4 + ww) true) ((wt_gr (wt_gr (wt_gr ph pa ch sz 0 pp).1 (wt_gr ph pa ch sz 0 pp).2.1 (wt_gr ph pa ch sz 0 pp).2.2.1 (wt_gr ph pa ch sz 0 pp).2.2.2.1 (wt_gr ph pa ch sz 0 pp).2.2.2.2 qq).1 (wt_gr (wt_gr ph pa ch sz 0 pp).1 (wt_gr ph pa ch sz 0 pp).2.1 (wt_gr ph pa ch sz 0 pp).2.2.1 (wt_gr ph pa ch sz 0 pp).2.2.2.1 (wt_gr ph pa ch sz 0 pp).2.2.2.2 qq).2.1 (wt_gr (wt_gr ph pa ch sz 0 pp).1 (wt_gr ph pa ch sz 0 pp).2.1 (wt_gr ph pa ch sz 0 pp).2.2.1 (wt_gr ph pa ch sz 0 pp).2.2.2.1 (wt_gr ph pa ch sz 0 pp).2.2.2.2 qq).2.2.1 (wt_gr (wt_gr ph pa ch sz 0 pp).1 (wt_gr ph pa ch sz 0 pp).2.1 (wt_gr ph pa ch sz 0 pp).2.2.1 (wt_gr ph pa ch sz 0 pp).2.2.2.1 (wt_gr ph pa ch sz 0 pp).2.2.2.2 qq).2.2.2.1 (wt_gr (wt_gr ph pa ch sz 0 pp).1 (wt_gr ph pa ch sz 0 pp).2.1 (wt_gr ph pa ch sz 0 pp).2.2.1 (wt_gr ph pa ch sz 0 pp).2.2.2.1 (wt_gr ph pa ch sz 0 pp).2.2.2.2 qq).2.2.2.2 rr).2.2.2.1) (pr + 1) gc gb sc sh sl ct tok wt pn lt wp false)) (va_A (wX cI cZ cL q ph pa ch en sz pr gc gb sc sh sl ct tok wt pn lt wp sd) sz0)) 0 0 (va_A (wX cI cZ cL q ph pa ch en sz pr gc gb sc sh sl ct tok wt pn lt wp sd) sz0) := by
  refine Met.ofW (cc := cX_say) (maxL := 5) (ret := (some .int)) (by decide) rfl ?_
  intro p e s m args below meth c s₁ B hml hv
  obtain ⟨rfl, hsz, hP, hK, hN, hD0⟩ := hv
  have hx := B.exec
  have hb := B.bytes
  have hr := B.returns
  have hts := atoms_spec (ws := (Cond.code yX_say cX_say 5 (some .int) :: tb)) B.pre
  have ht : ∀ w ∈ tb, w.before _ s = true := fun w h => hts w (List.mem_cons_of_mem _ h)
  have hown : s.vm.findClass RX = some m.cls := findClass_of_methodNamed B.named
  have hlocks := B.notSynchronized
  subst hsz
  have hD := hD0.self (sz := s.heap.size)
  generalize hAe : va_A (wX cI cZ cL q ph pa ch en sz pr gc gb sc sh sl ct tok wt pn lt wp sd) s.heap.size = A at hD ⊢
  have hA : ∀ q : Nat, s.heap.size ≤ q → A q := fun q h => by rw [← hAe]; exact Or.inr h
  clear hAe hD0
  have hS : va_S A s.heap s.heap [] := va_S.rf
  have hl := lv_entry ([.ref (q 0), .int (nI ww), .int (nI pp), .int (nI qq), .int (nI rr)]) (n := 5) (Nat.le_of_ble_eq_true rfl)
  rw [lg_entry_eq]
  generalize (lg_sl ([.ref (q 0), .int (nI ww), .int (nI pp), .int (nI qq), .int (nI rr)]) ++ List.replicate (5 - (lg_sl ([.ref (q 0), .int (nI ww), .int (nI pp), .int (nI qq), .int (nI rr)])).length) Slot.unset).toArray = ls at hl ⊢
  have hl : lv_has ls 5 [(0, .ref (q 0)), (1, .int (nI ww)), (2, .int (nI pp)), (3, .int (nI qq)), (4, .int (nI rr))] := hl
  refine lv_iload_n hx hb dX_say_0 rfl (lv_at hl 1 rfl) ?_
  refine wt_roi (va_runS (As := [.int (nI ww)]) (rest := []) ⟨hx, hb, hml, hown, ht⟩ (c_X_isWord l dC dI cI cZ cL (nI ww)) (va_cwS 1 ht (good_S m_133 m_134 m_1 m_135) rfl rfl rfl (by decide +kernel) ⟨Nat.le_of_ble_eq_true rfl, Nat.le_of_ble_eq_true rfl⟩) (wt_preS hK hN (hP.sub [] rfl)) rfl rfl hl.1 rfl (lv_room (Nat.le_of_ble_eq_true rfl)) dX_say_1 ⟨Nat.le_of_ble_eq_true rfl, Nat.le_of_ble_eq_true rfl⟩) ?_
  refine lv_if_eq (tgt := 42) hx hb dX_say_4 (by decide) (fun c_1 => ?_) (fun c_1 => ?_)
  · exact absurd c_1 (wt_rn hww (by decide))
  · skip
    refine lv_iload_n hx hb dX_say_7 rfl (lv_at hl 2 rfl) ?_
    refine lv_iload_n hx hb dX_say_8 rfl (lv_at hl 3 rfl) ?_
    refine lv_iload hx hb dX_say_9 (lv_at hl 4 rfl) ?_
    refine wt_roi (va_runS (As := [.int (nI pp), .int (nI qq), .int (nI rr)]) (rest := []) ⟨hx, hb, hml, hown, ht⟩ (c_X_isPronunciation l dC dI cI cZ cL (nI pp) (nI qq) (nI rr)) (va_cwS 3 ht (good_S m_136 m_137 m_1 m_138) rfl rfl rfl (by decide +kernel) ⟨Nat.le_of_ble_eq_true rfl, Nat.le_of_ble_eq_true rfl⟩) (wt_preS hK hN (hP.sub [] rfl)) rfl rfl hl.1 rfl (lv_room (Nat.le_of_ble_eq_true rfl)) dX_say_11 ⟨Nat.le_of_ble_eq_true rfl, Nat.le_of_ble_eq_true rfl⟩) ?_
    refine wt_bif_eq (tgt := 42) hx hb dX_say_14 (by decide) (fun c_2 => ?_) (fun c_2 => ?_)
    · exact absurd c_2 (by rw [isP3 hpp hqq hrr]; decide)
    · skip
      refine lv_aload_n hx hb dX_say_17 rfl (lv_at hl 0 rfl) ?_
      refine va_get (D := (dC, dI)) (ci := 0) (v := .ref (q 1)) (C := RX) (T := TX) (N := 5) hx hb ht inX hown hK hP 0 rfl rfl 0 (by decide) (ht _ m_113) (fun _ h9 => h9) rfl dX_say_18 ?_
      refine wt_roi (va_runV (As := []) (rest := []) ⟨hx, hb, hml, hown, ht⟩ (c_T_isFull l dC dI cI cZ cL q ph pa ch en sz pr gc gb sc sh sl ct tok wt pn lt wp sd hpr) (cwV 0 ht (good_V m_142 m_143 m_144 m_2 m_145) rfl rfl rfl (by decide +kernel) ⟨Nat.le_of_ble_eq_true rfl, Nat.le_of_ble_eq_true rfl⟩) (wt_preV hK hN hP (va_recv hK hP (ci := 1) (q0 := 1) rfl rfl)) rfl rfl hl.1 rfl (lv_room (Nat.le_of_ble_eq_true rfl)) dX_say_21 ⟨Nat.le_of_ble_eq_true rfl, Nat.le_of_ble_eq_true rfl⟩) ?_
      refine wt_bif_ne (tgt := 42) hx hb dX_say_24 (by decide) (fun c_3 => ?_) (fun c_3 => ?_)
      · exact absurd (of_decide_eq_true c_3) (by omega)
      · skip
        refine lv_aload_n hx hb dX_say_27 rfl (lv_at hl 0 rfl) ?_
        refine va_get (D := (dC, dI)) (ci := 0) (v := .ref (q 1)) (C := RX) (T := TX) (N := 5) hx hb ht inX hown hK hP 0 rfl rfl 0 (by decide) (ht _ m_113) (fun _ h9 => h9) rfl dX_say_28 ?_
        refine lv_iload_n hx hb dX_say_31 rfl (lv_at hl 1 rfl) ?_
        refine lv_iload_n hx hb dX_say_32 rfl (lv_at hl 2 rfl) ?_
        refine lv_iload_n hx hb dX_say_33 rfl (lv_at hl 3 rfl) ?_
        refine lv_iload hx hb dX_say_34 (lv_at hl 4 rfl) ?_
        refine wt_roi (va_runV (As := [.int (nI ww), .int (nI pp), .int (nI qq), .int (nI rr)]) (rest := []) ⟨hx, hb, hml, hown, ht⟩ (c_T_has_3 l dC dI cI cZ cL q ph pa ch en sz pr gc gb sc sh sl ct tok wt pn lt wp sd ww pp qq rr hww hpp hqq hrr hch) (cwV 4 ht (good_V m_146 m_147 m_148 m_2 m_149) rfl rfl rfl (by decide +kernel) ⟨Nat.le_of_ble_eq_true rfl, Nat.le_of_ble_eq_true rfl⟩) (wt_preV hK hN hP (va_recv hK hP (ci := 1) (q0 := 1) rfl rfl)) rfl rfl hl.1 rfl (lv_room (Nat.le_of_ble_eq_true rfl)) dX_say_36 ⟨Nat.le_of_ble_eq_true rfl, Nat.le_of_ble_eq_true rfl⟩) ?_
        refine wt_bif_eq (tgt := 44) hx hb dX_say_39 (by decide) (fun c_4 => ?_) (fun c_4 => ?_)
        · skip
          refine lv_aload_n hx hb dX_say_44 rfl (lv_at hl 0 rfl) ?_
          refine va_get (D := (dC, dI)) (ci := 0) (v := .ref (q 1)) (C := RX) (T := TX) (N := 5) hx hb ht inX hown hK hP 0 rfl rfl 0 (by decide) (ht _ m_113) (fun _ h9 => h9) rfl dX_say_45 ?_
          refine lv_iload_n hx hb dX_say_48 rfl (lv_at hl 1 rfl) ?_
          refine lv_iload_n hx hb dX_say_49 rfl (lv_at hl 2 rfl) ?_
          refine lv_iload_n hx hb dX_say_50 rfl (lv_at hl 3 rfl) ?_
          refine lv_iload hx hb dX_say_51 (lv_at hl 4 rfl) ?_
          refine wt_rwv (va_runV (As := [.int (nI ww), .int (nI pp), .int (nI qq), .int (nI rr)]) (rest := []) ⟨hx, hb, hml, hown, ht⟩ (c_T_add_3 l dC dI cI cZ cL q s.heap.size ph pa ch en sz pr gc gb sc sh sl ct tok wt pn lt wp sd ww pp qq rr hww hpp hqq hrr hch hsz hnf) (cwV 4 ht (good_V m_158 m_159 m_160 m_2 m_161) rfl rfl rfl (by decide +kernel) ⟨Nat.le_of_ble_eq_true rfl, Nat.le_of_ble_eq_true rfl⟩) (wt_preVw hK hN hP hD (va_recv hK hP (ci := 1) (q0 := 1) rfl rfl)) rfl rfl hl.1 rfl (lv_room (Nat.le_of_ble_eq_true rfl)) dX_say_53 ⟨Nat.le_of_ble_eq_true rfl, Nat.le_of_ble_eq_true rfl⟩) hD hS hA (fun H locs hP hD hS => ?_)
          have hP : va_P (dC, dI) vwCl (wX cI cZ cL q ((wt_gr (wt_gr (wt_gr ph pa ch sz 0 pp).1 (wt_gr ph pa ch sz 0 pp).2.1 (wt_gr ph pa ch sz 0 pp).2.2.1 (wt_gr ph pa ch sz 0 pp).2.2.2.1 (wt_gr ph pa ch sz 0 pp).2.2.2.2 qq).1 (wt_gr (wt_gr ph pa ch sz 0 pp).1 (wt_gr ph pa ch sz 0 pp).2.1 (wt_gr ph pa ch sz 0 pp).2.2.1 (wt_gr ph pa ch sz 0 pp).2.2.2.1 (wt_gr ph pa ch sz 0 pp).2.2.2.2 qq).2.1 (wt_gr (wt_gr ph pa ch sz 0 pp).1 (wt_gr ph pa ch sz 0 pp).2.1 (wt_gr ph pa ch sz 0 pp).2.2.1 (wt_gr ph pa ch sz 0 pp).2.2.2.1 (wt_gr ph pa ch sz 0 pp).2.2.2.2 qq).2.2.1 (wt_gr (wt_gr ph pa ch sz 0 pp).1 (wt_gr ph pa ch sz 0 pp).2.1 (wt_gr ph pa ch sz 0 pp).2.2.1 (wt_gr ph pa ch sz 0 pp).2.2.2.1 (wt_gr ph pa ch sz 0 pp).2.2.2.2 qq).2.2.2.1 (wt_gr (wt_gr ph pa ch sz 0 pp).1 (wt_gr ph pa ch sz 0 pp).2.1 (wt_gr ph pa ch sz 0 pp).2.2.1 (wt_gr ph pa ch sz 0 pp).2.2.2.1 (wt_gr ph pa ch sz 0 pp).2.2.2.2 qq).2.2.2.2 rr).1) ((wt_gr (wt_gr (wt_gr ph pa ch sz 0 pp).1 (wt_gr ph pa ch sz 0 pp).2.1 (wt_gr ph pa ch sz 0 pp).2.2.1 (wt_gr ph pa ch sz 0 pp).2.2.2.1 (wt_gr ph pa ch sz 0 pp).2.2.2.2 qq).1 (wt_gr (wt_gr ph pa ch sz 0 pp).1 (wt_gr ph pa ch sz 0 pp).2.1 (wt_gr ph pa ch sz 0 pp).2.2.1 (wt_gr ph pa ch sz 0 pp).2.2.2.1 (wt_gr ph pa ch sz 0 pp).2.2.2.2 qq).2.1 (wt_gr (wt_gr ph pa ch sz 0 pp).1 (wt_gr ph pa ch sz 0 pp).2.1 (wt_gr ph pa ch sz 0 pp).2.2.1 (wt_gr ph pa ch sz 0 pp).2.2.2.1 (wt_gr ph pa ch sz 0 pp).2.2.2.2 qq).2.2.1 (wt_gr (wt_gr ph pa ch sz 0 pp).1 (wt_gr ph pa ch sz 0 pp).2.1 (wt_gr ph pa ch sz 0 pp).2.2.1 (wt_gr ph pa ch sz 0 pp).2.2.2.1 (wt_gr ph pa ch sz 0 pp).2.2.2.2 qq).2.2.2.1 (wt_gr (wt_gr ph pa ch sz 0 pp).1 (wt_gr ph pa ch sz 0 pp).2.1 (wt_gr ph pa ch sz 0 pp).2.2.1 (wt_gr ph pa ch sz 0 pp).2.2.2.1 (wt_gr ph pa ch sz 0 pp).2.2.2.2 qq).2.2.2.2 rr).2.1) ((wt_gr (wt_gr (wt_gr ph pa ch sz 0 pp).1 (wt_gr ph pa ch sz 0 pp).2.1 (wt_gr ph pa ch sz 0 pp).2.2.1 (wt_gr ph pa ch sz 0 pp).2.2.2.1 (wt_gr ph pa ch sz 0 pp).2.2.2.2 qq).1 (wt_gr (wt_gr ph pa ch sz 0 pp).1 (wt_gr ph pa ch sz 0 pp).2.1 (wt_gr ph pa ch sz 0 pp).2.2.1 (wt_gr ph pa ch sz 0 pp).2.2.2.1 (wt_gr ph pa ch sz 0 pp).2.2.2.2 qq).2.1 (wt_gr (wt_gr ph pa ch sz 0 pp).1 (wt_gr ph pa ch sz 0 pp).2.1 (wt_gr ph pa ch sz 0 pp).2.2.1 (wt_gr ph pa ch sz 0 pp).2.2.2.1 (wt_gr ph pa ch sz 0 pp).2.2.2.2 qq).2.2.1 (wt_gr (wt_gr ph pa ch sz 0 pp).1 (wt_gr ph pa ch sz 0 pp).2.1 (wt_gr ph pa ch sz 0 pp).2.2.1 (wt_gr ph pa ch sz 0 pp).2.2.2.1 (wt_gr ph pa ch sz 0 pp).2.2.2.2 qq).2.2.2.1 (wt_gr (wt_gr ph pa ch sz 0 pp).1 (wt_gr ph pa ch sz 0 pp).2.1 (wt_gr ph pa ch sz 0 pp).2.2.1 (wt_gr ph pa ch sz 0 pp).2.2.2.1 (wt_gr ph pa ch sz 0 pp).2.2.2.2 qq).2.2.2.2 rr).2.2.1) (va_up en ((wt_gr (wt_gr (wt_gr ph pa ch sz 0 pp).1 (wt_gr ph pa ch sz 0 pp).2.1 (wt_gr ph pa ch sz 0 pp).2.2.1 (wt_gr ph pa ch sz 0 pp).2.2.2.1 (wt_gr ph pa ch sz 0 pp).2.2.2.2 qq).1 (wt_gr (wt_gr ph pa ch sz 0 pp).1 (wt_gr ph pa ch sz 0 pp).2.1 (wt_gr ph pa ch sz 0 pp).2.2.1 (wt_gr ph pa ch sz 0 pp).2.2.2.1 (wt_gr ph pa ch sz 0 pp).2.2.2.2 qq).2.1 (wt_gr (wt_gr ph pa ch sz 0 pp).1 (wt_gr ph pa ch sz 0 pp).2.1 (wt_gr ph pa ch sz 0 pp).2.2.1 (wt_gr ph pa ch sz 0 pp).2.2.2.1 (wt_gr ph pa ch sz 0 pp).2.2.2.2 qq).2.2.1 (wt_gr (wt_gr ph pa ch sz 0 pp).1 (wt_gr ph pa ch sz 0 pp).2.1 (wt_gr ph pa ch sz 0 pp).2.2.1 (wt_gr ph pa ch sz 0 pp).2.2.2.1 (wt_gr ph pa ch sz 0 pp).2.2.2.2 qq).2.2.2.1 (wt_gr (wt_gr ph pa ch sz 0 pp).1 (wt_gr ph pa ch sz 0 pp).2.1 (wt_gr ph pa ch sz 0 pp).2.2.1 (wt_gr ph pa ch sz 0 pp).2.2.2.1 (wt_gr ph pa ch sz 0 pp).2.2.2.2 qq).2.2.2.2 rr).2.2.2.2 * 4 + ww) true) ((wt_gr (wt_gr (wt_gr ph pa ch sz 0 pp).1 (wt_gr ph pa ch sz 0 pp).2.1 (wt_gr ph pa ch sz 0 pp).2.2.1 (wt_gr ph pa ch sz 0 pp).2.2.2.1 (wt_gr ph pa ch sz 0 pp).2.2.2.2 qq).1 (wt_gr (wt_gr ph pa ch sz 0 pp).1 (wt_gr ph pa ch sz 0 pp).2.1 (wt_gr ph pa ch sz 0 pp).2.2.1 (wt_gr ph pa ch sz 0 pp).2.2.2.1 (wt_gr ph pa ch sz 0 pp).2.2.2.2 qq).2.1 (wt_gr (wt_gr ph pa ch sz 0 pp).1 (wt_gr ph pa ch sz 0 pp).2.1 (wt_gr ph pa ch sz 0 pp).2.2.1 (wt_gr ph pa ch sz 0 pp).2.2.2.1 (wt_gr ph pa ch sz 0 pp).2.2.2.2 qq).2.2.1 (wt_gr (wt_gr ph pa ch sz 0 pp).1 (wt_gr ph pa ch sz 0 pp).2.1 (wt_gr ph pa ch sz 0 pp).2.2.1 (wt_gr ph pa ch sz 0 pp).2.2.2.1 (wt_gr ph pa ch sz 0 pp).2.2.2.2 qq).2.2.2.1 (wt_gr (wt_gr ph pa ch sz 0 pp).1 (wt_gr ph pa ch sz 0 pp).2.1 (wt_gr ph pa ch sz 0 pp).2.2.1 (wt_gr ph pa ch sz 0 pp).2.2.2.1 (wt_gr ph pa ch sz 0 pp).2.2.2.2 qq).2.2.2.2 rr).2.2.2.1) (pr + 1) gc gb sc sh sl ct tok wt pn lt wp sd) H := hP
          have hD : va_D A (wX cI cZ cL q ((wt_gr (wt_gr (wt_gr ph pa ch sz 0 pp).1 (wt_gr ph pa ch sz 0 pp).2.1 (wt_gr ph pa ch sz 0 pp).2.2.1 (wt_gr ph pa ch sz 0 pp).2.2.2.1 (wt_gr ph pa ch sz 0 pp).2.2.2.2 qq).1 (wt_gr (wt_gr ph pa ch sz 0 pp).1 (wt_gr ph pa ch sz 0 pp).2.1 (wt_gr ph pa ch sz 0 pp).2.2.1 (wt_gr ph pa ch sz 0 pp).2.2.2.1 (wt_gr ph pa ch sz 0 pp).2.2.2.2 qq).2.1 (wt_gr (wt_gr ph pa ch sz 0 pp).1 (wt_gr ph pa ch sz 0 pp).2.1 (wt_gr ph pa ch sz 0 pp).2.2.1 (wt_gr ph pa ch sz 0 pp).2.2.2.1 (wt_gr ph pa ch sz 0 pp).2.2.2.2 qq).2.2.1 (wt_gr (wt_gr ph pa ch sz 0 pp).1 (wt_gr ph pa ch sz 0 pp).2.1 (wt_gr ph pa ch sz 0 pp).2.2.1 (wt_gr ph pa ch sz 0 pp).2.2.2.1 (wt_gr ph pa ch sz 0 pp).2.2.2.2 qq).2.2.2.1 (wt_gr (wt_gr ph pa ch sz 0 pp).1 (wt_gr ph pa ch sz 0 pp).2.1 (wt_gr ph pa ch sz 0 pp).2.2.1 (wt_gr ph pa ch sz 0 pp).2.2.2.1 (wt_gr ph pa ch sz 0 pp).2.2.2.2 qq).2.2.2.2 rr).1) ((wt_gr (wt_gr (wt_gr ph pa ch sz 0 pp).1 (wt_gr ph pa ch sz 0 pp).2.1 (wt_gr ph pa ch sz 0 pp).2.2.1 (wt_gr ph pa ch sz 0 pp).2.2.2.1 (wt_gr ph pa ch sz 0 pp).2.2.2.2 qq).1 (wt_gr (wt_gr ph pa ch sz 0 pp).1 (wt_gr ph pa ch sz 0 pp).2.1 (wt_gr ph pa ch sz 0 pp).2.2.1 (wt_gr ph pa ch sz 0 pp).2.2.2.1 (wt_gr ph pa ch sz 0 pp).2.2.2.2 qq).2.1 (wt_gr (wt_gr ph pa ch sz 0 pp).1 (wt_gr ph pa ch sz 0 pp).2.1 (wt_gr ph pa ch sz 0 pp).2.2.1 (wt_gr ph pa ch sz 0 pp).2.2.2.1 (wt_gr ph pa ch sz 0 pp).2.2.2.2 qq).2.2.1 (wt_gr (wt_gr ph pa ch sz 0 pp).1 (wt_gr ph pa ch sz 0 pp).2.1 (wt_gr ph pa ch sz 0 pp).2.2.1 (wt_gr ph pa ch sz 0 pp).2.2.2.1 (wt_gr ph pa ch sz 0 pp).2.2.2.2 qq).2.2.2.1 (wt_gr (wt_gr ph pa ch sz 0 pp).1 (wt_gr ph pa ch sz 0 pp).2.1 (wt_gr ph pa ch sz 0 pp).2.2.1 (wt_gr ph pa ch sz 0 pp).2.2.2.1 (wt_gr ph pa ch sz 0 pp).2.2.2.2 qq).2.2.2.2 rr).2.1) ((wt_gr (wt_gr (wt_gr ph pa ch sz 0 pp).1 (wt_gr ph pa ch sz 0 pp).2.1 (wt_gr ph pa ch sz 0 pp).2.2.1 (wt_gr ph pa ch sz 0 pp).2.2.2.1 (wt_gr ph pa ch sz 0 pp).2.2.2.2 qq).1 (wt_gr (wt_gr ph pa ch sz 0 pp).1 (wt_gr ph pa ch sz 0 pp).2.1 (wt_gr ph pa ch sz 0 pp).2.2.1 (wt_gr ph pa ch sz 0 pp).2.2.2.1 (wt_gr ph pa ch sz 0 pp).2.2.2.2 qq).2.1 (wt_gr (wt_gr ph pa ch sz 0 pp).1 (wt_gr ph pa ch sz 0 pp).2.1 (wt_gr ph pa ch sz 0 pp).2.2.1 (wt_gr ph pa ch sz 0 pp).2.2.2.1 (wt_gr ph pa ch sz 0 pp).2.2.2.2 qq).2.2.1 (wt_gr (wt_gr ph pa ch sz 0 pp).1 (wt_gr ph pa ch sz 0 pp).2.1 (wt_gr ph pa ch sz 0 pp).2.2.1 (wt_gr ph pa ch sz 0 pp).2.2.2.1 (wt_gr ph pa ch sz 0 pp).2.2.2.2 qq).2.2.2.1 (wt_gr (wt_gr ph pa ch sz 0 pp).1 (wt_gr ph pa ch sz 0 pp).2.1 (wt_gr ph pa ch sz 0 pp).2.2.1 (wt_gr ph pa ch sz 0 pp).2.2.2.1 (wt_gr ph pa ch sz 0 pp).2.2.2.2 qq).2.2.2.2 rr).2.2.1) (va_up en ((wt_gr (wt_gr (wt_gr ph pa ch sz 0 pp).1 (wt_gr ph pa ch sz 0 pp).2.1 (wt_gr ph pa ch sz 0 pp).2.2.1 (wt_gr ph pa ch sz 0 pp).2.2.2.1 (wt_gr ph pa ch sz 0 pp).2.2.2.2 qq).1 (wt_gr (wt_gr ph pa ch sz 0 pp).1 (wt_gr ph pa ch sz 0 pp).2.1 (wt_gr ph pa ch sz 0 pp).2.2.1 (wt_gr ph pa ch sz 0 pp).2.2.2.1 (wt_gr ph pa ch sz 0 pp).2.2.2.2 qq).2.1 (wt_gr (wt_gr ph pa ch sz 0 pp).1 (wt_gr ph pa ch sz 0 pp).2.1 (wt_gr ph pa ch sz 0 pp).2.2.1 (wt_gr ph pa ch sz 0 pp).2.2.2.1 (wt_gr ph pa ch sz 0 pp).2.2.2.2 qq).2.2.1 (wt_gr (wt_gr ph pa ch sz 0 pp).1 (wt_gr ph pa ch sz 0 pp).2.1 (wt_gr ph pa ch sz 0 pp).2.2.1 (wt_gr ph pa ch sz 0 pp).2.2.2.1 (wt_gr ph pa ch sz 0 pp).2.2.2.2 qq).2.2.2.1 (wt_gr (wt_gr ph pa ch sz 0 pp).1 (wt_gr ph pa ch sz 0 pp).2.1 (wt_gr ph pa ch sz 0 pp).2.2.1 (wt_gr ph pa ch sz 0 pp).2.2.2.1 (wt_gr ph pa ch sz 0 pp).2.2.2.2 qq).2.2.2.2 rr).2.2.2.2 * 4 + ww) true) ((wt_gr (wt_gr (wt_gr ph pa ch sz 0 pp).1 (wt_gr ph pa ch sz 0 pp).2.1 (wt_gr ph pa ch sz 0 pp).2.2.1 (wt_gr ph pa ch sz 0 pp).2.2.2.1 (wt_gr ph pa ch sz 0 pp).2.2.2.2 qq).1 (wt_gr (wt_gr ph pa ch sz 0 pp).1 (wt_gr ph pa ch sz 0 pp).2.1 (wt_gr ph pa ch sz 0 pp).2.2.1 (wt_gr ph pa ch sz 0 pp).2.2.2.1 (wt_gr ph pa ch sz 0 pp).2.2.2.2 qq).2.1 (wt_gr (wt_gr ph pa ch sz 0 pp).1 (wt_gr ph pa ch sz 0 pp).2.1 (wt_gr ph pa ch sz 0 pp).2.2.1 (wt_gr ph pa ch sz 0 pp).2.2.2.1 (wt_gr ph pa ch sz 0 pp).2.2.2.2 qq).2.2.1 (wt_gr (wt_gr ph pa ch sz 0 pp).1 (wt_gr ph pa ch sz 0 pp).2.1 (wt_gr ph pa ch sz 0 pp).2.2.1 (wt_gr ph pa ch sz 0 pp).2.2.2.1 (wt_gr ph pa ch sz 0 pp).2.2.2.2 qq).2.2.2.1 (wt_gr (wt_gr ph pa ch sz 0 pp).1 (wt_gr ph pa ch sz 0 pp).2.1 (wt_gr ph pa ch sz 0 pp).2.2.1 (wt_gr ph pa ch sz 0 pp).2.2.2.1 (wt_gr ph pa ch sz 0 pp).2.2.2.2 qq).2.2.2.2 rr).2.2.2.1) (pr + 1) gc gb sc sh sl ct tok wt pn lt wp sd) := hD
          refine lv_aload_n hx hb dX_say_56 rfl (lv_at hl 0 rfl) ?_
          refine lv_iconst (v := nI 0) hx hb dX_say_57 (by decide) ?_
          rw [show (.int (nI 0) : Value) = .int (wt_bI false) from rfl]
          refine va_put (D := (dC, dI)) (ci := 0) (v := .int (wt_bI false)) (ty := .boolean) (C := RX) (T := TX) (N := 5) hx hb ht inX tyX tyX_ok nmX hown hK hP hD hS 0 rfl rfl 4 (by decide) (ht _ m_117) (fun _ h9 => h9) rfl (by decide +kernel) (wt_bI_nar _) (by first | rfl | (cases false <;> rfl)) (Nat.le_of_ble_eq_true rfl) dX_say_58 (fun H locs hP hD hS => ?_)
          have hP : va_P (dC, dI) vwCl (wX cI cZ cL q ((wt_gr (wt_gr (wt_gr ph pa ch sz 0 pp).1 (wt_gr ph pa ch sz 0 pp).2.1 (wt_gr ph pa ch sz 0 pp).2.2.1 (wt_gr ph pa ch sz 0 pp).2.2.2.1 (wt_gr ph pa ch sz 0 pp).2.2.2.2 qq).1 (wt_gr (wt_gr ph pa ch sz 0 pp).1 (wt_gr ph pa ch sz 0 pp).2.1 (wt_gr ph pa ch sz 0 pp).2.2.1 (wt_gr ph pa ch sz 0 pp).2.2.2.1 (wt_gr ph pa ch sz 0 pp).2.2.2.2 qq).2.1 (wt_gr (wt_gr ph pa ch sz 0 pp).1 (wt_gr ph pa ch sz 0 pp).2.1 (wt_gr ph pa ch sz 0 pp).2.2.1 (wt_gr ph pa ch sz 0 pp).2.2.2.1 (wt_gr ph pa ch sz 0 pp).2.2.2.2 qq).2.2.1 (wt_gr (wt_gr ph pa ch sz 0 pp).1 (wt_gr ph pa ch sz 0 pp).2.1 (wt_gr ph pa ch sz 0 pp).2.2.1 (wt_gr ph pa ch sz 0 pp).2.2.2.1 (wt_gr ph pa ch sz 0 pp).2.2.2.2 qq).2.2.2.1 (wt_gr (wt_gr ph pa ch sz 0 pp).1 (wt_gr ph pa ch sz 0 pp).2.1 (wt_gr ph pa ch sz 0 pp).2.2.1 (wt_gr ph pa ch sz 0 pp).2.2.2.1 (wt_gr ph pa ch sz 0 pp).2.2.2.2 qq).2.2.2.2 rr).1) ((wt_gr (wt_gr (wt_gr ph pa ch sz 0 pp).1 (wt_gr ph pa ch sz 0 pp).2.1 (wt_gr ph pa ch sz 0 pp).2.2.1 (wt_gr ph pa ch sz 0 pp).2.2.2.1 (wt_gr ph pa ch sz 0 pp).2.2.2.2 qq).1 (wt_gr (wt_gr ph pa ch sz 0 pp).1 (wt_gr ph pa ch sz 0 pp).2.1 (wt_gr ph pa ch sz 0 pp).2.2.1 (wt_gr ph pa ch sz 0 pp).2.2.2.1 (wt_gr ph pa ch sz 0 pp).2.2.2.2 qq).2.1 (wt_gr (wt_gr ph pa ch sz 0 pp).1 (wt_gr ph pa ch sz 0 pp).2.1 (wt_gr ph pa ch sz 0 pp).2.2.1 (wt_gr ph pa ch sz 0 pp).2.2.2.1 (wt_gr ph pa ch sz 0 pp).2.2.2.2 qq).2.2.1 (wt_gr (wt_gr ph pa ch sz 0 pp).1 (wt_gr ph pa ch sz 0 pp).2.1 (wt_gr ph pa ch sz 0 pp).2.2.1 (wt_gr ph pa ch sz 0 pp).2.2.2.1 (wt_gr ph pa ch sz 0 pp).2.2.2.2 qq).2.2.2.1 (wt_gr (wt_gr ph pa ch sz 0 pp).1 (wt_gr ph pa ch sz 0 pp).2.1 (wt_gr ph pa ch sz 0 pp).2.2.1 (wt_gr ph pa ch sz 0 pp).2.2.2.1 (wt_gr ph pa ch sz 0 pp).2.2.2.2 qq).2.2.2.2 rr).2.1) ((wt_gr (wt_gr (wt_gr ph pa ch sz 0 pp).1 (wt_gr ph pa ch sz 0 pp).2.1 (wt_gr ph pa ch sz 0 pp).2.2.1 (wt_gr ph pa ch sz 0 pp).2.2.2.1 (wt_gr ph pa ch sz 0 pp).2.2.2.2 qq).1 (wt_gr (wt_gr ph pa ch sz 0 pp).1 (wt_gr ph pa ch sz 0 pp).2.1 (wt_gr ph pa ch sz 0 pp).2.2.1 (wt_gr ph pa ch sz 0 pp).2.2.2.1 (wt_gr ph pa ch sz 0 pp).2.2.2.2 qq).2.1 (wt_gr (wt_gr ph pa ch sz 0 pp).1 (wt_gr ph pa ch sz 0 pp).2.1 (wt_gr ph pa ch sz 0 pp).2.2.1 (wt_gr ph pa ch sz 0 pp).2.2.2.1 (wt_gr ph pa ch sz 0 pp).2.2.2.2 qq).2.2.1 (wt_gr (wt_gr ph pa ch sz 0 pp).1 (wt_gr ph pa ch sz 0 pp).2.1 (wt_gr ph pa ch sz 0 pp).2.2.1 (wt_gr ph pa ch sz 0 pp).2.2.2.1 (wt_gr ph pa ch sz 0 pp).2.2.2.2 qq).2.2.2.1 (wt_gr (wt_gr ph pa ch sz 0 pp).1 (wt_gr ph pa ch sz 0 pp).2.1 (wt_gr ph pa ch sz 0 pp).2.2.1 (wt_gr ph pa ch sz 0 pp).2.2.2.1 (wt_gr ph pa ch sz 0 pp).2.2.2.2 qq).2.2.2.2 rr).2.2.1) (va_up en ((wt_gr (wt_gr (wt_gr ph pa ch sz 0 pp).1 (wt_gr ph pa ch sz 0 pp).2.1 (wt_gr ph pa ch sz 0 pp).2.2.1 (wt_gr ph pa ch sz 0 pp).2.2.2.1 (wt_gr ph pa ch sz 0 pp).2.2.2.2 qq).1 (wt_gr (wt_gr ph pa ch sz 0 pp).1 (wt_gr ph pa ch sz 0 pp).2.1 (wt_gr ph pa ch sz 0 pp).2.2.1 (wt_gr ph pa ch sz 0 pp).2.2.2.1 (wt_gr ph pa ch sz 0 pp).2.2.2.2 qq).2.1 (wt_gr (wt_gr ph pa ch sz 0 pp).1 (wt_gr ph pa ch sz 0 pp).2.1 (wt_gr ph pa ch sz 0 pp).2.2.1 (wt_gr ph pa ch sz 0 pp).2.2.2.1 (wt_gr ph pa ch sz 0 pp).2.2.2.2 qq).2.2.1 (wt_gr (wt_gr ph pa ch sz 0 pp).1 (wt_gr ph pa ch sz 0 pp).2.1 (wt_gr ph pa ch sz 0 pp).2.2.1 (wt_gr ph pa ch sz 0 pp).2.2.2.1 (wt_gr ph pa ch sz 0 pp).2.2.2.2 qq).2.2.2.1 (wt_gr (wt_gr ph pa ch sz 0 pp).1 (wt_gr ph pa ch sz 0 pp).2.1 (wt_gr ph pa ch sz 0 pp).2.2.1 (wt_gr ph pa ch sz 0 pp).2.2.2.1 (wt_gr ph pa ch sz 0 pp).2.2.2.2 qq).2.2.2.2 rr).2.2.2.2 * 4 + ww) true) ((wt_gr (wt_gr (wt_gr ph pa ch sz 0 pp).1 (wt_gr ph pa ch sz 0 pp).2.1 (wt_gr ph pa ch sz 0 pp).2.2.1 (wt_gr ph pa ch sz 0 pp).2.2.2.1 (wt_gr ph pa ch sz 0 pp).2.2.2.2 qq).1 (wt_gr (wt_gr ph pa ch sz 0 pp).1 (wt_gr ph pa ch sz 0 pp).2.1 (wt_gr ph pa ch sz 0 pp).2.2.1 (wt_gr ph pa ch sz 0 pp).2.2.2.1 (wt_gr ph pa ch sz 0 pp).2.2.2.2 qq).2.1 (wt_gr (wt_gr ph pa ch sz 0 pp).1 (wt_gr ph pa ch sz 0 pp).2.1 (wt_gr ph pa ch sz 0 pp).2.2.1 (wt_gr ph pa ch sz 0 pp).2.2.2.1 (wt_gr ph pa ch sz 0 pp).2.2.2.2 qq).2.2.1 (wt_gr (wt_gr ph pa ch sz 0 pp).1 (wt_gr ph pa ch sz 0 pp).2.1 (wt_gr ph pa ch sz 0 pp).2.2.1 (wt_gr ph pa ch sz 0 pp).2.2.2.1 (wt_gr ph pa ch sz 0 pp).2.2.2.2 qq).2.2.2.1 (wt_gr (wt_gr ph pa ch sz 0 pp).1 (wt_gr ph pa ch sz 0 pp).2.1 (wt_gr ph pa ch sz 0 pp).2.2.1 (wt_gr ph pa ch sz 0 pp).2.2.2.1 (wt_gr ph pa ch sz 0 pp).2.2.2.2 qq).2.2.2.2 rr).2.2.2.1) (pr + 1) gc gb sc sh sl ct tok wt pn lt wp false) H := hP
          have hD : va_D A (wX cI cZ cL q ((wt_gr (wt_gr (wt_gr ph pa ch sz 0 pp).1 (wt_gr ph pa ch sz 0 pp).2.1 (wt_gr ph pa ch sz 0 pp).2.2.1 (wt_gr ph pa ch sz 0 pp).2.2.2.1 (wt_gr ph pa ch sz 0 pp).2.2.2.2 qq).1 (wt_gr (wt_gr ph pa ch sz 0 pp).1 (wt_gr ph pa ch sz 0 pp).2.1 (wt_gr ph pa ch sz 0 pp).2.2.1 (wt_gr ph pa ch sz 0 pp).2.2.2.1 (wt_gr ph pa ch sz 0 pp).2.2.2.2 qq).2.1 (wt_gr (wt_gr ph pa ch sz 0 pp).1 (wt_gr ph pa ch sz 0 pp).2.1 (wt_gr ph pa ch sz 0 pp).2.2.1 (wt_gr ph pa ch sz 0 pp).2.2.2.1 (wt_gr ph pa ch sz 0 pp).2.2.2.2 qq).2.2.1 (wt_gr (wt_gr ph pa ch sz 0 pp).1 (wt_gr ph pa ch sz 0 pp).2.1 (wt_gr ph pa ch sz 0 pp).2.2.1 (wt_gr ph pa ch sz 0 pp).2.2.2.1 (wt_gr ph pa ch sz 0 pp).2.2.2.2 qq).2.2.2.1 (wt_gr (wt_gr ph pa ch sz 0 pp).1 (wt_gr ph pa ch sz 0 pp).2.1 (wt_gr ph pa ch sz 0 pp).2.2.1 (wt_gr ph pa ch sz 0 pp).2.2.2.1 (wt_gr ph pa ch sz 0 pp).2.2.2.2 qq).2.2.2.2 rr).1) ((wt_gr (wt_gr (wt_gr ph pa ch sz 0 pp).1 (wt_gr ph pa ch sz 0 pp).2.1 (wt_gr ph pa ch sz 0 pp).2.2.1 (wt_gr ph pa ch sz 0 pp).2.2.2.1 (wt_gr ph pa ch sz 0 pp).2.2.2.2 qq).1 (wt_gr (wt_gr ph pa ch sz 0 pp).1 (wt_gr ph pa ch sz 0 pp).2.1 (wt_gr ph pa ch sz 0 pp).2.2.1 (wt_gr ph pa ch sz 0 pp).2.2.2.1 (wt_gr ph pa ch sz 0 pp).2.2.2.2 qq).2.1 (wt_gr (wt_gr ph pa ch sz 0 pp).1 (wt_gr ph pa ch sz 0 pp).2.1 (wt_gr ph pa ch sz 0 pp).2.2.1 (wt_gr ph pa ch sz 0 pp).2.2.2.1 (wt_gr ph pa ch sz 0 pp).2.2.2.2 qq).2.2.1 (wt_gr (wt_gr ph pa ch sz 0 pp).1 (wt_gr ph pa ch sz 0 pp).2.1 (wt_gr ph pa ch sz 0 pp).2.2.1 (wt_gr ph pa ch sz 0 pp).2.2.2.1 (wt_gr ph pa ch sz 0 pp).2.2.2.2 qq).2.2.2.1 (wt_gr (wt_gr ph pa ch sz 0 pp).1 (wt_gr ph pa ch sz 0 pp).2.1 (wt_gr ph pa ch sz 0 pp).2.2.1 (wt_gr ph pa ch sz 0 pp).2.2.2.1 (wt_gr ph pa ch sz 0 pp).2.2.2.2 qq).2.2.2.2 rr).2.1) ((wt_gr (wt_gr (wt_gr ph pa ch sz 0 pp).1 (wt_gr ph pa ch sz 0 pp).2.1 (wt_gr ph pa ch sz 0 pp).2.2.1 (wt_gr ph pa ch sz 0 pp).2.2.2.1 (wt_gr ph pa ch sz 0 pp).2.2.2.2 qq).1 (wt_gr (wt_gr ph pa ch sz 0 pp).1 (wt_gr ph pa ch sz 0 pp).2.1 (wt_gr ph pa ch sz 0 pp).2.2.1 (wt_gr ph pa ch sz 0 pp).2.2.2.1 (wt_gr ph pa ch sz 0 pp).2.2.2.2 qq).2.1 (wt_gr (wt_gr ph pa ch sz 0 pp).1 (wt_gr ph pa ch sz 0 pp).2.1 (wt_gr ph pa ch sz 0 pp).2.2.1 (wt_gr ph pa ch sz 0 pp).2.2.2.1 (wt_gr ph pa ch sz 0 pp).2.2.2.2 qq).2.2.1 (wt_gr (wt_gr ph pa ch sz 0 pp).1 (wt_gr ph pa ch sz 0 pp).2.1 (wt_gr ph pa ch sz 0 pp).2.2.1 (wt_gr ph pa ch sz 0 pp).2.2.2.1 (wt_gr ph pa ch sz 0 pp).2.2.2.2 qq).2.2.2.1 (wt_gr (wt_gr ph pa ch sz 0 pp).1 (wt_gr ph pa ch sz 0 pp).2.1 (wt_gr ph pa ch sz 0 pp).2.2.1 (wt_gr ph pa ch sz 0 pp).2.2.2.1 (wt_gr ph pa ch sz 0 pp).2.2.2.2 qq).2.2.2.2 rr).2.2.1) (va_up en ((wt_gr (wt_gr (wt_gr ph pa ch sz 0 pp).1 (wt_gr ph pa ch sz 0 pp).2.1 (wt_gr ph pa ch sz 0 pp).2.2.1 (wt_gr ph pa ch sz 0 pp).2.2.2.1 (wt_gr ph pa ch sz 0 pp).2.2.2.2 qq).1 (wt_gr (wt_gr ph pa ch sz 0 pp).1 (wt_gr ph pa ch sz 0 pp).2.1 (wt_gr ph pa ch sz 0 pp).2.2.1 (wt_gr ph pa ch sz 0 pp).2.2.2.1 (wt_gr ph pa ch sz 0 pp).2.2.2.2 qq).2.1 (wt_gr (wt_gr ph pa ch sz 0 pp).1 (wt_gr ph pa ch sz 0 pp).2.1 (wt_gr ph pa ch sz 0 pp).2.2.1 (wt_gr ph pa ch sz 0 pp).2.2.2.1 (wt_gr ph pa ch sz 0 pp).2.2.2.2 qq).2.2.1 (wt_gr (wt_gr ph pa ch sz 0 pp).1 (wt_gr ph pa ch sz 0 pp).2.1 (wt_gr ph pa ch sz 0 pp).2.2.1 (wt_gr ph pa ch sz 0 pp).2.2.2.1 (wt_gr ph pa ch sz 0 pp).2.2.2.2 qq).2.2.2.1 (wt_gr (wt_gr ph pa ch sz 0 pp).1 (wt_gr ph pa ch sz 0 pp).2.1 (wt_gr ph pa ch sz 0 pp).2.2.1 (wt_gr ph pa ch sz 0 pp).2.2.2.1 (wt_gr ph pa ch sz 0 pp).2.2.2.2 qq).2.2.2.2 rr).2.2.2.2 * 4 + ww) true) ((wt_gr (wt_gr (wt_gr ph pa ch sz 0 pp).1 (wt_gr ph pa ch sz 0 pp).2.1 (wt_gr ph pa ch sz 0 pp).2.2.1 (wt_gr ph pa ch sz 0 pp).2.2.2.1 (wt_gr ph pa ch sz 0 pp).2.2.2.2 qq).1 (wt_gr (wt_gr ph pa ch sz 0 pp).1 (wt_gr ph pa ch sz 0 pp).2.1 (wt_gr ph pa ch sz 0 pp).2.2.1 (wt_gr ph pa ch sz 0 pp).2.2.2.1 (wt_gr ph pa ch sz 0 pp).2.2.2.2 qq).2.1 (wt_gr (wt_gr ph pa ch sz 0 pp).1 (wt_gr ph pa ch sz 0 pp).2.1 (wt_gr ph pa ch sz 0 pp).2.2.1 (wt_gr ph pa ch sz 0 pp).2.2.2.1 (wt_gr ph pa ch sz 0 pp).2.2.2.2 qq).2.2.1 (wt_gr (wt_gr ph pa ch sz 0 pp).1 (wt_gr ph pa ch sz 0 pp).2.1 (wt_gr ph pa ch sz 0 pp).2.2.1 (wt_gr ph pa ch sz 0 pp).2.2.2.1 (wt_gr ph pa ch sz 0 pp).2.2.2.2 qq).2.2.2.1 (wt_gr (wt_gr ph pa ch sz 0 pp).1 (wt_gr ph pa ch sz 0 pp).2.1 (wt_gr ph pa ch sz 0 pp).2.2.1 (wt_gr ph pa ch sz 0 pp).2.2.2.1 (wt_gr ph pa ch sz 0 pp).2.2.2.2 qq).2.2.2.2 rr).2.2.2.1) (pr + 1) gc gb sc sh sl ct tok wt pn lt wp false) := hD
          refine lv_aload_n hx hb dX_say_61 rfl (lv_at hl 0 rfl) ?_
          refine va_get (D := (dC, dI)) (ci := 0) (v := .ref (q 1)) (C := RX) (T := TX) (N := 5) hx hb ht inX hown hK hP 0 rfl rfl 0 (by decide) (ht _ m_113) (fun _ h9 => h9) rfl dX_say_62 ?_
          refine wt_roi (va_runV (As := []) (rest := []) ⟨hx, hb, hml, hown, ht⟩ (c_T_size l dC dI cI cZ cL q ((wt_gr (wt_gr (wt_gr ph pa ch sz 0 pp).1 (wt_gr ph pa ch sz 0 pp).2.1 (wt_gr ph pa ch sz 0 pp).2.2.1 (wt_gr ph pa ch sz 0 pp).2.2.2.1 (wt_gr ph pa ch sz 0 pp).2.2.2.2 qq).1 (wt_gr (wt_gr ph pa ch sz 0 pp).1 (wt_gr ph pa ch sz 0 pp).2.1 (wt_gr ph pa ch sz 0 pp).2.2.1 (wt_gr ph pa ch sz 0 pp).2.2.2.1 (wt_gr ph pa ch sz 0 pp).2.2.2.2 qq).2.1 (wt_gr (wt_gr ph pa ch sz 0 pp).1 (wt_gr ph pa ch sz 0 pp).2.1 (wt_gr ph pa ch sz 0 pp).2.2.1 (wt_gr ph pa ch sz 0 pp).2.2.2.1 (wt_gr ph pa ch sz 0 pp).2.2.2.2 qq).2.2.1 (wt_gr (wt_gr ph pa ch sz 0 pp).1 (wt_gr ph pa ch sz 0 pp).2.1 (wt_gr ph pa ch sz 0 pp).2.2.1 (wt_gr ph pa ch sz 0 pp).2.2.2.1 (wt_gr ph pa ch sz 0 pp).2.2.2.2 qq).2.2.2.1 (wt_gr (wt_gr ph pa ch sz 0 pp).1 (wt_gr ph pa ch sz 0 pp).2.1 (wt_gr ph pa ch sz 0 pp).2.2.1 (wt_gr ph pa ch sz 0 pp).2.2.2.1 (wt_gr ph pa ch sz 0 pp).2.2.2.2 qq).2.2.2.2 rr).1) ((wt_gr (wt_gr (wt_gr ph pa ch sz 0 pp).1 (wt_gr ph pa ch sz 0 pp).2.1 (wt_gr ph pa ch sz 0 pp).2.2.1 (wt_gr ph pa ch sz 0 pp).2.2.2.1 (wt_gr ph pa ch sz 0 pp).2.2.2.2 qq).1 (wt_gr (wt_gr ph pa ch sz 0 pp).1 (wt_gr ph pa ch sz 0 pp).2.1 (wt_gr ph pa ch sz 0 pp).2.2.1 (wt_gr ph pa ch sz 0 pp).2.2.2.1 (wt_gr ph pa ch sz 0 pp).2.2.2.2 qq).2.1 (wt_gr (wt_gr ph pa ch sz 0 pp).1 (wt_gr ph pa ch sz 0 pp).2.1 (wt_gr ph pa ch sz 0 pp).2.2.1 (wt_gr ph pa ch sz 0 pp).2.2.2.1 (wt_gr ph pa ch sz 0 pp).2.2.2.2 qq).2.2.1 (wt_gr (wt_gr ph pa ch sz 0 pp).1 (wt_gr ph pa ch sz 0 pp).2.1 (wt_gr ph pa ch sz 0 pp).2.2.1 (wt_gr ph pa ch sz 0 pp).2.2.2.1 (wt_gr ph pa ch sz 0 pp).2.2.2.2 qq).2.2.2.1 (wt_gr (wt_gr ph pa ch sz 0 pp).1 (wt_gr ph pa ch sz 0 pp).2.1 (wt_gr ph pa ch sz 0 pp).2.2.1 (wt_gr ph pa ch sz 0 pp).2.2.2.1 (wt_gr ph pa ch sz 0 pp).2.2.2.2 qq).2.2.2.2 rr).2.1) ((wt_gr (wt_gr (wt_gr ph pa ch sz 0 pp).1 (wt_gr ph pa ch sz 0 pp).2.1 (wt_gr ph pa ch sz 0 pp).2.2.1 (wt_gr ph pa ch sz 0 pp).2.2.2.1 (wt_gr ph pa ch sz 0 pp).2.2.2.2 qq).1 (wt_gr (wt_gr ph pa ch sz 0 pp).1 (wt_gr ph pa ch sz 0 pp).2.1 (wt_gr ph pa ch sz 0 pp).2.2.1 (wt_gr ph pa ch sz 0 pp).2.2.2.1 (wt_gr ph pa ch sz 0 pp).2.2.2.2 qq).2.1 (wt_gr (wt_gr ph pa ch sz 0 pp).1 (wt_gr ph pa ch sz 0 pp).2.1 (wt_gr ph pa ch sz 0 pp).2.2.1 (wt_gr ph pa ch sz 0 pp).2.2.2.1 (wt_gr ph pa ch sz 0 pp).2.2.2.2 qq).2.2.1 (wt_gr (wt_gr ph pa ch sz 0 pp).1 (wt_gr ph pa ch sz 0 pp).2.1 (wt_gr ph pa ch sz 0 pp).2.2.1 (wt_gr ph pa ch sz 0 pp).2.2.2.1 (wt_gr ph pa ch sz 0 pp).2.2.2.2 qq).2.2.2.1 (wt_gr (wt_gr ph pa ch sz 0 pp).1 (wt_gr ph pa ch sz 0 pp).2.1 (wt_gr ph pa ch sz 0 pp).2.2.1 (wt_gr ph pa ch sz 0 pp).2.2.2.1 (wt_gr ph pa ch sz 0 pp).2.2.2.2 qq).2.2.2.2 rr).2.2.1) (va_up en ((wt_gr (wt_gr (wt_gr ph pa ch sz 0 pp).1 (wt_gr ph pa ch sz 0 pp).2.1 (wt_gr ph pa ch sz 0 pp).2.2.1 (wt_gr ph pa ch sz 0 pp).2.2.2.1 (wt_gr ph pa ch sz 0 pp).2.2.2.2 qq).1 (wt_gr (wt_gr ph pa ch sz 0 pp).1 (wt_gr ph pa ch sz 0 pp).2.1 (wt_gr ph pa ch sz 0 pp).2.2.1 (wt_gr ph pa ch sz 0 pp).2.2.2.1 (wt_gr ph pa ch sz 0 pp).2.2.2.2 qq).2.1 (wt_gr (wt_gr ph pa ch sz 0 pp).1 (wt_gr ph pa ch sz 0 pp).2.1 (wt_gr ph pa ch sz 0 pp).2.2.1 (wt_gr ph pa ch sz 0 pp).2.2.2.1 (wt_gr ph pa ch sz 0 pp).2.2.2.2 qq).2.2.1 (wt_gr (wt_gr ph pa ch sz 0 pp).1 (wt_gr ph pa ch sz 0 pp).2.1 (wt_gr ph pa ch sz 0 pp).2.2.1 (wt_gr ph pa ch sz 0 pp).2.2.2.1 (wt_gr ph pa ch sz 0 pp).2.2.2.2 qq).2.2.2.1 (wt_gr (wt_gr ph pa ch sz 0 pp).1 (wt_gr ph pa ch sz 0 pp).2.1 (wt_gr ph pa ch sz 0 pp).2.2.1 (wt_gr ph pa ch sz 0 pp).2.2.2.1 (wt_gr ph pa ch sz 0 pp).2.2.2.2 qq).2.2.2.2 rr).2.2.2.2 * 4 + ww) true) ((wt_gr (wt_gr (wt_gr ph pa ch sz 0 pp).1 (wt_gr ph pa ch sz 0 pp).2.1 (wt_gr ph pa ch sz 0 pp).2.2.1 (wt_gr ph pa ch sz 0 pp).2.2.2.1 (wt_gr ph pa ch sz 0 pp).2.2.2.2 qq).1 (wt_gr (wt_gr ph pa ch sz 0 pp).1 (wt_gr ph pa ch sz 0 pp).2.1 (wt_gr ph pa ch sz 0 pp).2.2.1 (wt_gr ph pa ch sz 0 pp).2.2.2.1 (wt_gr ph pa ch sz 0 pp).2.2.2.2 qq).2.1 (wt_gr (wt_gr ph pa ch sz 0 pp).1 (wt_gr ph pa ch sz 0 pp).2.1 (wt_gr ph pa ch sz 0 pp).2.2.1 (wt_gr ph pa ch sz 0 pp).2.2.2.1 (wt_gr ph pa ch sz 0 pp).2.2.2.2 qq).2.2.1 (wt_gr (wt_gr ph pa ch sz 0 pp).1 (wt_gr ph pa ch sz 0 pp).2.1 (wt_gr ph pa ch sz 0 pp).2.2.1 (wt_gr ph pa ch sz 0 pp).2.2.2.1 (wt_gr ph pa ch sz 0 pp).2.2.2.2 qq).2.2.2.1 (wt_gr (wt_gr ph pa ch sz 0 pp).1 (wt_gr ph pa ch sz 0 pp).2.1 (wt_gr ph pa ch sz 0 pp).2.2.1 (wt_gr ph pa ch sz 0 pp).2.2.2.1 (wt_gr ph pa ch sz 0 pp).2.2.2.2 qq).2.2.2.2 rr).2.2.2.1) (pr + 1) gc gb sc sh sl ct tok wt pn lt wp false) (cwV 0 ht (good_V m_166 m_167 m_168 m_2 m_169) rfl rfl rfl (by decide +kernel) ⟨Nat.le_of_ble_eq_true rfl, Nat.le_of_ble_eq_true rfl⟩) (wt_preV hK hN hP (va_recv hK hP (ci := 1) (q0 := 1) rfl rfl)) rfl rfl hl.1 rfl (lv_room (Nat.le_of_ble_eq_true rfl)) dX_say_65 ⟨Nat.le_of_ble_eq_true rfl, Nat.le_of_ble_eq_true rfl⟩) ?_
          have hP9 : va_P (dC, dI) vwCl (wX cI cZ cL q ((wt_gr (wt_gr (wt_gr ph pa ch sz 0 pp).1 (wt_gr ph pa ch sz 0 pp).2.1 (wt_gr ph pa ch sz 0 pp).2.2.1 (wt_gr ph pa ch sz 0 pp).2.2.2.1 (wt_gr ph pa ch sz 0 pp).2.2.2.2 qq).1 (wt_gr (wt_gr ph pa ch sz 0 pp).1 (wt_gr ph pa ch sz 0 pp).2.1 (wt_gr ph pa ch sz 0 pp).2.2.1 (wt_gr ph pa ch sz 0 pp).2.2.2.1 (wt_gr ph pa ch sz 0 pp).2.2.2.2 qq).2.1 (wt_gr (wt_gr ph pa ch sz 0 pp).1 (wt_gr ph pa ch sz 0 pp).2.1 (wt_gr ph pa ch sz 0 pp).2.2.1 (wt_gr ph pa ch sz 0 pp).2.2.2.1 (wt_gr ph pa ch sz 0 pp).2.2.2.2 qq).2.2.1 (wt_gr (wt_gr ph pa ch sz 0 pp).1 (wt_gr ph pa ch sz 0 pp).2.1 (wt_gr ph pa ch sz 0 pp).2.2.1 (wt_gr ph pa ch sz 0 pp).2.2.2.1 (wt_gr ph pa ch sz 0 pp).2.2.2.2 qq).2.2.2.1 (wt_gr (wt_gr ph pa ch sz 0 pp).1 (wt_gr ph pa ch sz 0 pp).2.1 (wt_gr ph pa ch sz 0 pp).2.2.1 (wt_gr ph pa ch sz 0 pp).2.2.2.1 (wt_gr ph pa ch sz 0 pp).2.2.2.2 qq).2.2.2.2 rr).1) ((wt_gr (wt_gr (wt_gr ph pa ch sz 0 pp).1 (wt_gr ph pa ch sz 0 pp).2.1 (wt_gr ph pa ch sz 0 pp).2.2.1 (wt_gr ph pa ch sz 0 pp).2.2.2.1 (wt_gr ph pa ch sz 0 pp).2.2.2.2 qq).1 (wt_gr (wt_gr ph pa ch sz 0 pp).1 (wt_gr ph pa ch sz 0 pp).2.1 (wt_gr ph pa ch sz 0 pp).2.2.1 (wt_gr ph pa ch sz 0 pp).2.2.2.1 (wt_gr ph pa ch sz 0 pp).2.2.2.2 qq).2.1 (wt_gr (wt_gr ph pa ch sz 0 pp).1 (wt_gr ph pa ch sz 0 pp).2.1 (wt_gr ph pa ch sz 0 pp).2.2.1 (wt_gr ph pa ch sz 0 pp).2.2.2.1 (wt_gr ph pa ch sz 0 pp).2.2.2.2 qq).2.2.1 (wt_gr (wt_gr ph pa ch sz 0 pp).1 (wt_gr ph pa ch sz 0 pp).2.1 (wt_gr ph pa ch sz 0 pp).2.2.1 (wt_gr ph pa ch sz 0 pp).2.2.2.1 (wt_gr ph pa ch sz 0 pp).2.2.2.2 qq).2.2.2.1 (wt_gr (wt_gr ph pa ch sz 0 pp).1 (wt_gr ph pa ch sz 0 pp).2.1 (wt_gr ph pa ch sz 0 pp).2.2.1 (wt_gr ph pa ch sz 0 pp).2.2.2.1 (wt_gr ph pa ch sz 0 pp).2.2.2.2 qq).2.2.2.2 rr).2.1) ((wt_gr (wt_gr (wt_gr ph pa ch sz 0 pp).1 (wt_gr ph pa ch sz 0 pp).2.1 (wt_gr ph pa ch sz 0 pp).2.2.1 (wt_gr ph pa ch sz 0 pp).2.2.2.1 (wt_gr ph pa ch sz 0 pp).2.2.2.2 qq).1 (wt_gr (wt_gr ph pa ch sz 0 pp).1 (wt_gr ph pa ch sz 0 pp).2.1 (wt_gr ph pa ch sz 0 pp).2.2.1 (wt_gr ph pa ch sz 0 pp).2.2.2.1 (wt_gr ph pa ch sz 0 pp).2.2.2.2 qq).2.1 (wt_gr (wt_gr ph pa ch sz 0 pp).1 (wt_gr ph pa ch sz 0 pp).2.1 (wt_gr ph pa ch sz 0 pp).2.2.1 (wt_gr ph pa ch sz 0 pp).2.2.2.1 (wt_gr ph pa ch sz 0 pp).2.2.2.2 qq).2.2.1 (wt_gr (wt_gr ph pa ch sz 0 pp).1 (wt_gr ph pa ch sz 0 pp).2.1 (wt_gr ph pa ch sz 0 pp).2.2.1 (wt_gr ph pa ch sz 0 pp).2.2.2.1 (wt_gr ph pa ch sz 0 pp).2.2.2.2 qq).2.2.2.1 (wt_gr (wt_gr ph pa ch sz 0 pp).1 (wt_gr ph pa ch sz 0 pp).2.1 (wt_gr ph pa ch sz 0 pp).2.2.1 (wt_gr ph pa ch sz 0 pp).2.2.2.1 (wt_gr ph pa ch sz 0 pp).2.2.2.2 qq).2.2.2.2 rr).2.2.1) (va_up en ((wt_gr (wt_gr (wt_gr ph pa ch sz 0 pp).1 (wt_gr ph pa ch sz 0 pp).2.1 (wt_gr ph pa ch sz 0 pp).2.2.1 (wt_gr ph pa ch sz 0 pp).2.2.2.1 (wt_gr ph pa ch sz 0 pp).2.2.2.2 qq).1 (wt_gr (wt_gr ph pa ch sz 0 pp).1 (wt_gr ph pa ch sz 0 pp).2.1 (wt_gr ph pa ch sz 0 pp).2.2.1 (wt_gr ph pa ch sz 0 pp).2.2.2.1 (wt_gr ph pa ch sz 0 pp).2.2.2.2 qq).2.1 (wt_gr (wt_gr ph pa ch sz 0 pp).1 (wt_gr ph pa ch sz 0 pp).2.1 (wt_gr ph pa ch sz 0 pp).2.2.1 (wt_gr ph pa ch sz 0 pp).2.2.2.1 (wt_gr ph pa ch sz 0 pp).2.2.2.2 qq).2.2.1 (wt_gr (wt_gr ph pa ch sz 0 pp).1 (wt_gr ph pa ch sz 0 pp).2.1 (wt_gr ph pa ch sz 0 pp).2.2.1 (wt_gr ph pa ch sz 0 pp).2.2.2.1 (wt_gr ph pa ch sz 0 pp).2.2.2.2 qq).2.2.2.1 (wt_gr (wt_gr ph pa ch sz 0 pp).1 (wt_gr ph pa ch sz 0 pp).2.1 (wt_gr ph pa ch sz 0 pp).2.2.1 (wt_gr ph pa ch sz 0 pp).2.2.2.1 (wt_gr ph pa ch sz 0 pp).2.2.2.2 qq).2.2.2.2 rr).2.2.2.2 * 4 + ww) true) ((wt_gr (wt_gr (wt_gr ph pa ch sz 0 pp).1 (wt_gr ph pa ch sz 0 pp).2.1 (wt_gr ph pa ch sz 0 pp).2.2.1 (wt_gr ph pa ch sz 0 pp).2.2.2.1 (wt_gr ph pa ch sz 0 pp).2.2.2.2 qq).1 (wt_gr (wt_gr ph pa ch sz 0 pp).1 (wt_gr ph pa ch sz 0 pp).2.1 (wt_gr ph pa ch sz 0 pp).2.2.1 (wt_gr ph pa ch sz 0 pp).2.2.2.1 (wt_gr ph pa ch sz 0 pp).2.2.2.2 qq).2.1 (wt_gr (wt_gr ph pa ch sz 0 pp).1 (wt_gr ph pa ch sz 0 pp).2.1 (wt_gr ph pa ch sz 0 pp).2.2.1 (wt_gr ph pa ch sz 0 pp).2.2.2.1 (wt_gr ph pa ch sz 0 pp).2.2.2.2 qq).2.2.1 (wt_gr (wt_gr ph pa ch sz 0 pp).1 (wt_gr ph pa ch sz 0 pp).2.1 (wt_gr ph pa ch sz 0 pp).2.2.1 (wt_gr ph pa ch sz 0 pp).2.2.2.1 (wt_gr ph pa ch sz 0 pp).2.2.2.2 qq).2.2.2.1 (wt_gr (wt_gr ph pa ch sz 0 pp).1 (wt_gr ph pa ch sz 0 pp).2.1 (wt_gr ph pa ch sz 0 pp).2.2.1 (wt_gr ph pa ch sz 0 pp).2.2.2.1 (wt_gr ph pa ch sz 0 pp).2.2.2.2 qq).2.2.2.2 rr).2.2.2.1) (pr + 1) gc gb sc sh sl ct tok wt pn lt wp false) H := by exact hP
          have hD9 : va_D A (wX cI cZ cL q ((wt_gr (wt_gr (wt_gr ph pa ch sz 0 pp).1 (wt_gr ph pa ch sz 0 pp).2.1 (wt_gr ph pa ch sz 0 pp).2.2.1 (wt_gr ph pa ch sz 0 pp).2.2.2.1 (wt_gr ph pa ch sz 0 pp).2.2.2.2 qq).1 (wt_gr (wt_gr ph pa ch sz 0 pp).1 (wt_gr ph pa ch sz 0 pp).2.1 (wt_gr ph pa ch sz 0 pp).2.2.1 (wt_gr ph pa ch sz 0 pp).2.2.2.1 (wt_gr ph pa ch sz 0 pp).2.2.2.2 qq).2.1 (wt_gr (wt_gr ph pa ch sz 0 pp).1 (wt_gr ph pa ch sz 0 pp).2.1 (wt_gr ph pa ch sz 0 pp).2.2.1 (wt_gr ph pa ch sz 0 pp).2.2.2.1 (wt_gr ph pa ch sz 0 pp).2.2.2.2 qq).2.2.1 (wt_gr (wt_gr ph pa ch sz 0 pp).1 (wt_gr ph pa ch sz 0 pp).2.1 (wt_gr ph pa ch sz 0 pp).2.2.1 (wt_gr ph pa ch sz 0 pp).2.2.2.1 (wt_gr ph pa ch sz 0 pp).2.2.2.2 qq).2.2.2.1 (wt_gr (wt_gr ph pa ch sz 0 pp).1 (wt_gr ph pa ch sz 0 pp).2.1 (wt_gr ph pa ch sz 0 pp).2.2.1 (wt_gr ph pa ch sz 0 pp).2.2.2.1 (wt_gr ph pa ch sz 0 pp).2.2.2.2 qq).2.2.2.2 rr).1) ((wt_gr (wt_gr (wt_gr ph pa ch sz 0 pp).1 (wt_gr ph pa ch sz 0 pp).2.1 (wt_gr ph pa ch sz 0 pp).2.2.1 (wt_gr ph pa ch sz 0 pp).2.2.2.1 (wt_gr ph pa ch sz 0 pp).2.2.2.2 qq).1 (wt_gr (wt_gr ph pa ch sz 0 pp).1 (wt_gr ph pa ch sz 0 pp).2.1 (wt_gr ph pa ch sz 0 pp).2.2.1 (wt_gr ph pa ch sz 0 pp).2.2.2.1 (wt_gr ph pa ch sz 0 pp).2.2.2.2 qq).2.1 (wt_gr (wt_gr ph pa ch sz 0 pp).1 (wt_gr ph pa ch sz 0 pp).2.1 (wt_gr ph pa ch sz 0 pp).2.2.1 (wt_gr ph pa ch sz 0 pp).2.2.2.1 (wt_gr ph pa ch sz 0 pp).2.2.2.2 qq).2.2.1 (wt_gr (wt_gr ph pa ch sz 0 pp).1 (wt_gr ph pa ch sz 0 pp).2.1 (wt_gr ph pa ch sz 0 pp).2.2.1 (wt_gr ph pa ch sz 0 pp).2.2.2.1 (wt_gr ph pa ch sz 0 pp).2.2.2.2 qq).2.2.2.1 (wt_gr (wt_gr ph pa ch sz 0 pp).1 (wt_gr ph pa ch sz 0 pp).2.1 (wt_gr ph pa ch sz 0 pp).2.2.1 (wt_gr ph pa ch sz 0 pp).2.2.2.1 (wt_gr ph pa ch sz 0 pp).2.2.2.2 qq).2.2.2.2 rr).2.1) ((wt_gr (wt_gr (wt_gr ph pa ch sz 0 pp).1 (wt_gr ph pa ch sz 0 pp).2.1 (wt_gr ph pa ch sz 0 pp).2.2.1 (wt_gr ph pa ch sz 0 pp).2.2.2.1 (wt_gr ph pa ch sz 0 pp).2.2.2.2 qq).1 (wt_gr (wt_gr ph pa ch sz 0 pp).1 (wt_gr ph pa ch sz 0 pp).2.1 (wt_gr ph pa ch sz 0 pp).2.2.1 (wt_gr ph pa ch sz 0 pp).2.2.2.1 (wt_gr ph pa ch sz 0 pp).2.2.2.2 qq).2.1 (wt_gr (wt_gr ph pa ch sz 0 pp).1 (wt_gr ph pa ch sz 0 pp).2.1 (wt_gr ph pa ch sz 0 pp).2.2.1 (wt_gr ph pa ch sz 0 pp).2.2.2.1 (wt_gr ph pa ch sz 0 pp).2.2.2.2 qq).2.2.1 (wt_gr (wt_gr ph pa ch sz 0 pp).1 (wt_gr ph pa ch sz 0 pp).2.1 (wt_gr ph pa ch sz 0 pp).2.2.1 (wt_gr ph pa ch sz 0 pp).2.2.2.1 (wt_gr ph pa ch sz 0 pp).2.2.2.2 qq).2.2.2.1 (wt_gr (wt_gr ph pa ch sz 0 pp).1 (wt_gr ph pa ch sz 0 pp).2.1 (wt_gr ph pa ch sz 0 pp).2.2.1 (wt_gr ph pa ch sz 0 pp).2.2.2.1 (wt_gr ph pa ch sz 0 pp).2.2.2.2 qq).2.2.2.2 rr).2.2.1) (va_up en ((wt_gr (wt_gr (wt_gr ph pa ch sz 0 pp).1 (wt_gr ph pa ch sz 0 pp).2.1 (wt_gr ph pa ch sz 0 pp).2.2.1 (wt_gr ph pa ch sz 0 pp).2.2.2.1 (wt_gr ph pa ch sz 0 pp).2.2.2.2 qq).1 (wt_gr (wt_gr ph pa ch sz 0 pp).1 (wt_gr ph pa ch sz 0 pp).2.1 (wt_gr ph pa ch sz 0 pp).2.2.1 (wt_gr ph pa ch sz 0 pp).2.2.2.1 (wt_gr ph pa ch sz 0 pp).2.2.2.2 qq).2.1 (wt_gr (wt_gr ph pa ch sz 0 pp).1 (wt_gr ph pa ch sz 0 pp).2.1 (wt_gr ph pa ch sz 0 pp).2.2.1 (wt_gr ph pa ch sz 0 pp).2.2.2.1 (wt_gr ph pa ch sz 0 pp).2.2.2.2 qq).2.2.1 (wt_gr (wt_gr ph pa ch sz 0 pp).1 (wt_gr ph pa ch sz 0 pp).2.1 (wt_gr ph pa ch sz 0 pp).2.2.1 (wt_gr ph pa ch sz 0 pp).2.2.2.1 (wt_gr ph pa ch sz 0 pp).2.2.2.2 qq).2.2.2.1 (wt_gr (wt_gr ph pa ch sz 0 pp).1 (wt_gr ph pa ch sz 0 pp).2.1 (wt_gr ph pa ch sz 0 pp).2.2.1 (wt_gr ph pa ch sz 0 pp).2.2.2.1 (wt_gr ph pa ch sz 0 pp).2.2.2.2 qq).2.2.2.2 rr).2.2.2.2 * 4 + ww) true) ((wt_gr (wt_gr (wt_gr ph pa ch sz 0 pp).1 (wt_gr ph pa ch sz 0 pp).2.1 (wt_gr ph pa ch sz 0 pp).2.2.1 (wt_gr ph pa ch sz 0 pp).2.2.2.1 (wt_gr ph pa ch sz 0 pp).2.2.2.2 qq).1 (wt_gr (wt_gr ph pa ch sz 0 pp).1 (wt_gr ph pa ch sz 0 pp).2.1 (wt_gr ph pa ch sz 0 pp).2.2.1 (wt_gr ph pa ch sz 0 pp).2.2.2.1 (wt_gr ph pa ch sz 0 pp).2.2.2.2 qq).2.1 (wt_gr (wt_gr ph pa ch sz 0 pp).1 (wt_gr ph pa ch sz 0 pp).2.1 (wt_gr ph pa ch sz 0 pp).2.2.1 (wt_gr ph pa ch sz 0 pp).2.2.2.1 (wt_gr ph pa ch sz 0 pp).2.2.2.2 qq).2.2.1 (wt_gr (wt_gr ph pa ch sz 0 pp).1 (wt_gr ph pa ch sz 0 pp).2.1 (wt_gr ph pa ch sz 0 pp).2.2.1 (wt_gr ph pa ch sz 0 pp).2.2.2.1 (wt_gr ph pa ch sz 0 pp).2.2.2.2 qq).2.2.2.1 (wt_gr (wt_gr ph pa ch sz 0 pp).1 (wt_gr ph pa ch sz 0 pp).2.1 (wt_gr ph pa ch sz 0 pp).2.2.1 (wt_gr ph pa ch sz 0 pp).2.2.2.1 (wt_gr ph pa ch sz 0 pp).2.2.2.2 qq).2.2.2.2 rr).2.2.2.1) (pr + 1) gc gb sc sh sl ct tok wt pn lt wp false) := by exact hD
          exact W.iret (v := nI ((wt_gr (wt_gr (wt_gr ph pa ch sz 0 pp).1 (wt_gr ph pa ch sz 0 pp).2.1 (wt_gr ph pa ch sz 0 pp).2.2.1 (wt_gr ph pa ch sz 0 pp).2.2.2.1 (wt_gr ph pa ch sz 0 pp).2.2.2.2 qq).1 (wt_gr (wt_gr ph pa ch sz 0 pp).1 (wt_gr ph pa ch sz 0 pp).2.1 (wt_gr ph pa ch sz 0 pp).2.2.1 (wt_gr ph pa ch sz 0 pp).2.2.2.1 (wt_gr ph pa ch sz 0 pp).2.2.2.2 qq).2.1 (wt_gr (wt_gr ph pa ch sz 0 pp).1 (wt_gr ph pa ch sz 0 pp).2.1 (wt_gr ph pa ch sz 0 pp).2.2.1 (wt_gr ph pa ch sz 0 pp).2.2.2.1 (wt_gr ph pa ch sz 0 pp).2.2.2.2 qq).2.2.1 (wt_gr (wt_gr ph pa ch sz 0 pp).1 (wt_gr ph pa ch sz 0 pp).2.1 (wt_gr ph pa ch sz 0 pp).2.2.1 (wt_gr ph pa ch sz 0 pp).2.2.2.1 (wt_gr ph pa ch sz 0 pp).2.2.2.2 qq).2.2.2.1 (wt_gr (wt_gr ph pa ch sz 0 pp).1 (wt_gr ph pa ch sz 0 pp).2.1 (wt_gr ph pa ch sz 0 pp).2.2.1 (wt_gr ph pa ch sz 0 pp).2.2.2.1 (wt_gr ph pa ch sz 0 pp).2.2.2.2 qq).2.2.2.2 rr).2.2.2.1)) hx hb hr (fun t ht hW => ⟨⟨_, (), rfl, rfl, by rw [ht]; exact hP9, hD9⟩, hS.F ht⟩) hS.2.2 dX_say_68
        · exact absurd c_4 (by rw [hno]; decide)

set_option maxHeartbeats 4000000 in
set_option maxRecDepth 100000 in
theorem c_X_gram_0 (l : Launch) (dC : Nat → ClassId) (dI : Nat → Nat → Nat) (cI cZ cL : ClassId) (q : Nat → Nat) (ph : Nat → Nat) (pa : Nat → Nat) (ch : Nat → Nat) (en : Nat → Bool) (sz : Nat) (pr : Nat) (gc : Nat → Int32) (gb : Nat → Int32) (sc : Nat → Int32) (sh : Nat → Int32) (sl : Nat → Int32) (ct : Nat) (tok : Nat → Int64) (wt : Nat → Int64) (pn : Nat → Nat) (lt : Nat → Int64) (wp : Int64) (sd : Bool) (uu : Int32) (vv : Int32) (ww : Int32) (co : Int32) (bo : Int32) (hbad : (wt_isG uu vv ww && (decide (¬ wt_rng co 10000 = 0) && decide (¬ wt_rng bo 10000 = 0))) = false) : Met l yX_gram (Cond.code yX_gram cX_gram 6 (some .boolean) :: tb) ({ frames := 3, cells := 0, slots := 0, locals := 62 }) (va_Pc [.ref (q 0), .int uu, .int vv, .int ww, .int co, .int bo] (wt_ro (dC, dI) vwCl [(cI, .int), (cZ, .boolean), (cL, .long)] (wX cI cZ cL q ph pa ch en sz pr gc gb sc sh sl ct tok wt pn lt wp sd))) (vp_Si (fun r => r = (nI 0))) 0 0 (fun _ => False) := by
  refine Met.ofW (cc := cX_gram) (maxL := 6) (ret := (some .boolean)) (by decide) rfl ?_
  intro p e s m args below meth c s₁ B hml hv
  obtain ⟨rfl, hP, hK, hN⟩ := hv
  have hx := B.exec
  have hb := B.bytes
  have hr := B.returns
  have hts := atoms_spec (ws := (Cond.code yX_gram cX_gram 6 (some .boolean) :: tb)) B.pre
  have ht : ∀ w ∈ tb, w.before _ s = true := fun w h => hts w (List.mem_cons_of_mem _ h)
  have hown : s.vm.findClass RX = some m.cls := findClass_of_methodNamed B.named
  have hlocks := B.notSynchronized
  have hl := lv_entry ([.ref (q 0), .int uu, .int vv, .int ww, .int co, .int bo]) (n := 6) (Nat.le_of_ble_eq_true rfl)
  rw [lg_entry_eq]
  generalize (lg_sl ([.ref (q 0), .int uu, .int vv, .int ww, .int co, .int bo]) ++ List.replicate (6 - (lg_sl ([.ref (q 0), .int uu, .int vv, .int ww, .int co, .int bo])).length) Slot.unset).toArray = ls at hl ⊢
  have hl : lv_has ls 6 [(0, .ref (q 0)), (1, .int uu), (2, .int vv), (3, .int ww), (4, .int co), (5, .int bo)] := hl
  refine lv_iload_n hx hb dX_gram_0 rfl (lv_at hl 1 rfl) ?_
  refine lv_iload_n hx hb dX_gram_1 rfl (lv_at hl 2 rfl) ?_
  refine lv_iload_n hx hb dX_gram_2 rfl (lv_at hl 3 rfl) ?_
  refine wt_roi (va_runS (As := [.int uu, .int vv, .int ww]) (rest := []) ⟨hx, hb, hml, hown, ht⟩ (c_G_isGram l dC dI cI cZ cL uu vv ww) (va_cwS 3 ht (good_S m_174 m_175 m_3 m_176) rfl rfl rfl (by decide +kernel) ⟨Nat.le_of_ble_eq_true rfl, Nat.le_of_ble_eq_true rfl⟩) (wt_preS hK hN (hP.sub [] rfl)) rfl rfl hl.1 rfl (lv_room (Nat.le_of_ble_eq_true rfl)) dX_gram_3 ⟨Nat.le_of_ble_eq_true rfl, Nat.le_of_ble_eq_true rfl⟩) ?_
  refine wt_bif_eq (tgt := 25) hx hb dX_gram_6 (by decide) (fun c_1 => ?_) (fun c_1 => ?_)
  · skip
    refine lv_iconst (v := nI 0) hx hb dX_gram_25 (by decide) ?_
    exact W.zret (v := nI 0) hx hb hr rfl (fun t ht hW => ⟨_, rfl, rfl, ht⟩) (fun q h => by cases h) dX_gram_26
  · skip
    refine lv_iload hx hb dX_gram_9 (lv_at hl 4 rfl) ?_
    refine wt_roi (va_runS (As := [.int co]) (rest := []) ⟨hx, hb, hml, hown, ht⟩ (c_X_isCost l dC dI cI cZ cL co) (va_cwS 1 ht (good_S m_181 m_182 m_1 m_183) rfl rfl rfl (by decide +kernel) ⟨Nat.le_of_ble_eq_true rfl, Nat.le_of_ble_eq_true rfl⟩) (wt_preS hK hN (hP.sub [] rfl)) rfl rfl hl.1 rfl (lv_room (Nat.le_of_ble_eq_true rfl)) dX_gram_11 ⟨Nat.le_of_ble_eq_true rfl, Nat.le_of_ble_eq_true rfl⟩) ?_
    refine lv_if_eq (tgt := 25) hx hb dX_gram_14 (by decide) (fun c_2 => ?_) (fun c_2 => ?_)
    · skip
      refine lv_iconst (v := nI 0) hx hb dX_gram_25 (by decide) ?_
      exact W.zret (v := nI 0) hx hb hr rfl (fun t ht hW => ⟨_, rfl, rfl, ht⟩) (fun q h => by cases h) dX_gram_26
    · skip
      refine lv_iload hx hb dX_gram_17 (lv_at hl 5 rfl) ?_
      refine wt_roi (va_runS (As := [.int bo]) (rest := []) ⟨hx, hb, hml, hown, ht⟩ (c_X_isCost l dC dI cI cZ cL bo) (va_cwS 1 ht (good_S m_181 m_182 m_1 m_183) rfl rfl rfl (by decide +kernel) ⟨Nat.le_of_ble_eq_true rfl, Nat.le_of_ble_eq_true rfl⟩) (wt_preS hK hN (hP.sub [] rfl)) rfl rfl hl.1 rfl (lv_room (Nat.le_of_ble_eq_true rfl)) dX_gram_19 ⟨Nat.le_of_ble_eq_true rfl, Nat.le_of_ble_eq_true rfl⟩) ?_
      refine lv_if_ne (tgt := 27) hx hb dX_gram_22 (by decide) (fun c_3 => ?_) (fun c_3 => ?_)
      · exact absurd hbad (by simp [c_1, c_2, c_3])
      · skip
        refine lv_iconst (v := nI 0) hx hb dX_gram_25 (by decide) ?_
        exact W.zret (v := nI 0) hx hb hr rfl (fun t ht hW => ⟨_, rfl, rfl, ht⟩) (fun q h => by cases h) dX_gram_26

set_option maxHeartbeats 4000000 in
set_option maxRecDepth 100000 in
theorem c_X_gram_1 (l : Launch) (dC : Nat → ClassId) (dI : Nat → Nat → Nat) (cI cZ cL : ClassId) (q : Nat → Nat) (sz0 : Nat) (ph : Nat → Nat) (pa : Nat → Nat) (ch : Nat → Nat) (en : Nat → Bool) (sz : Nat) (pr : Nat) (gc : Nat → Int32) (gb : Nat → Int32) (sc : Nat → Int32) (sh : Nat → Int32) (sl : Nat → Int32) (ct : Nat) (tok : Nat → Int64) (wt : Nat → Int64) (pn : Nat → Nat) (lt : Nat → Int64) (wp : Int64) (sd : Bool) (ia : Nat) (ib : Nat) (ic : Nat) (uu : Int32) (vv : Int32) (ww : Int32) (co : Int32) (bo : Int32) (hg : wt_isG uu vv ww = true) (hco : ¬ wt_rng co 10000 = 0) (hbo : ¬ wt_rng bo 10000 = 0) (hu : uu + nI 1 = nI ia) (hv : vv + nI 1 = nI ib) (hw : ww + nI 1 = nI ic) (ha : ia < 6) (hb6 : ib < 6) (hc6 : ic < 6) : Met l yX_gram (Cond.code yX_gram cX_gram 6 (some .boolean) :: tb) ({ frames := 3, cells := 0, slots := 0, locals := 62 }) (va_Pc [.ref (q 0), .int uu, .int vv, .int ww, .int co, .int bo] (wt_rw (dC, dI) vwCl [(cI, .int), (cZ, .boolean), (cL, .long)] (wX cI cZ cL q ph pa ch en sz pr gc gb sc sh sl ct tok wt pn lt wp sd) sz0)) (va_Qi (fun r (_ : Unit) => r = (nI 1)) (wt_B (dC, dI) vwCl (va_A (wX cI cZ cL q ph pa ch en sz pr gc gb sc sh sl ct tok wt pn lt wp sd) sz0) (wX cI cZ cL q ph pa ch en sz pr (upd gc (wt_sl ia ib ic) co) (upd gb (wt_sl ia ib ic) bo) sc sh sl ct tok wt pn lt wp false)) (va_A (wX cI cZ cL q ph pa ch en sz pr gc gb sc sh sl ct tok wt pn lt wp sd) sz0)) 0 0 (va_A (wX cI cZ cL q ph pa ch en sz pr gc gb sc sh sl ct tok wt pn lt wp sd) sz0) := by
  refine Met.ofW (cc := cX_gram) (maxL := 6) (ret := (some .boolean)) (by decide) rfl ?_
  intro p e s m args below meth c s₁ B hml hv
  obtain ⟨rfl, hsz, hP, hK, hN, hD0⟩ := hv
  have hx := B.exec
  have hb := B.bytes
  have hr := B.returns
  have hts := atoms_spec (ws := (Cond.code yX_gram cX_gram 6 (some .boolean) :: tb)) B.pre
  have ht : ∀ w ∈ tb, w.before _ s = true := fun w h => hts w (List.mem_cons_of_mem _ h)
  have hown : s.vm.findClass RX = some m.cls := findClass_of_methodNamed B.named
  have hlocks := B.notSynchronized
  subst hsz
  have hD := hD0.self (sz := s.heap.size)
  generalize hAe : va_A (wX cI cZ cL q ph pa ch en sz pr gc gb sc sh sl ct tok wt pn lt wp sd) s.heap.size = A at hD ⊢
  have hA : ∀ q : Nat, s.heap.size ≤ q → A q := fun q h => by rw [← hAe]; exact Or.inr h
  clear hAe hD0
  have hS : va_S A s.heap s.heap [] := va_S.rf
  have hl := lv_entry ([.ref (q 0), .int uu, .int vv, .int ww, .int co, .int bo]) (n := 6) (Nat.le_of_ble_eq_true rfl)
  rw [lg_entry_eq]
  generalize (lg_sl ([.ref (q 0), .int uu, .int vv, .int ww, .int co, .int bo]) ++ List.replicate (6 - (lg_sl ([.ref (q 0), .int uu, .int vv, .int ww, .int co, .int bo])).length) Slot.unset).toArray = ls at hl ⊢
  have hl : lv_has ls 6 [(0, .ref (q 0)), (1, .int uu), (2, .int vv), (3, .int ww), (4, .int co), (5, .int bo)] := hl
  refine lv_iload_n hx hb dX_gram_0 rfl (lv_at hl 1 rfl) ?_
  refine lv_iload_n hx hb dX_gram_1 rfl (lv_at hl 2 rfl) ?_
  refine lv_iload_n hx hb dX_gram_2 rfl (lv_at hl 3 rfl) ?_
  refine wt_roi (va_runS (As := [.int uu, .int vv, .int ww]) (rest := []) ⟨hx, hb, hml, hown, ht⟩ (c_G_isGram l dC dI cI cZ cL uu vv ww) (va_cwS 3 ht (good_S m_174 m_175 m_3 m_176) rfl rfl rfl (by decide +kernel) ⟨Nat.le_of_ble_eq_true rfl, Nat.le_of_ble_eq_true rfl⟩) (wt_preS hK hN (hP.sub [] rfl)) rfl rfl hl.1 rfl (lv_room (Nat.le_of_ble_eq_true rfl)) dX_gram_3 ⟨Nat.le_of_ble_eq_true rfl, Nat.le_of_ble_eq_true rfl⟩) ?_
  refine wt_bif_eq (tgt := 25) hx hb dX_gram_6 (by decide) (fun c_1 => ?_) (fun c_1 => ?_)
  · exact absurd c_1 (by rw [hg]; decide)
  · skip
    refine lv_iload hx hb dX_gram_9 (lv_at hl 4 rfl) ?_
    refine wt_roi (va_runS (As := [.int co]) (rest := []) ⟨hx, hb, hml, hown, ht⟩ (c_X_isCost l dC dI cI cZ cL co) (va_cwS 1 ht (good_S m_181 m_182 m_1 m_183) rfl rfl rfl (by decide +kernel) ⟨Nat.le_of_ble_eq_true rfl, Nat.le_of_ble_eq_true rfl⟩) (wt_preS hK hN (hP.sub [] rfl)) rfl rfl hl.1 rfl (lv_room (Nat.le_of_ble_eq_true rfl)) dX_gram_11 ⟨Nat.le_of_ble_eq_true rfl, Nat.le_of_ble_eq_true rfl⟩) ?_
    refine lv_if_eq (tgt := 25) hx hb dX_gram_14 (by decide) (fun c_2 => ?_) (fun c_2 => ?_)
    · exact absurd c_2 hco
    · skip
      refine lv_iload hx hb dX_gram_17 (lv_at hl 5 rfl) ?_
      refine wt_roi (va_runS (As := [.int bo]) (rest := []) ⟨hx, hb, hml, hown, ht⟩ (c_X_isCost l dC dI cI cZ cL bo) (va_cwS 1 ht (good_S m_181 m_182 m_1 m_183) rfl rfl rfl (by decide +kernel) ⟨Nat.le_of_ble_eq_true rfl, Nat.le_of_ble_eq_true rfl⟩) (wt_preS hK hN (hP.sub [] rfl)) rfl rfl hl.1 rfl (lv_room (Nat.le_of_ble_eq_true rfl)) dX_gram_19 ⟨Nat.le_of_ble_eq_true rfl, Nat.le_of_ble_eq_true rfl⟩) ?_
      refine lv_if_ne (tgt := 27) hx hb dX_gram_22 (by decide) (fun c_3 => ?_) (fun c_3 => ?_)
      · skip
        refine lv_aload_n hx hb dX_gram_27 rfl (lv_at hl 0 rfl) ?_
        refine va_get (D := (dC, dI)) (ci := 0) (v := .ref (q 6)) (C := RX) (T := TX) (N := 5) hx hb ht inX hown hK hP 0 rfl rfl 1 (by decide) (ht _ m_114) (fun _ h9 => h9) rfl dX_gram_28 ?_
        refine lv_iload_n hx hb dX_gram_31 rfl (lv_at hl 1 rfl) ?_
        refine lv_iload_n hx hb dX_gram_32 rfl (lv_at hl 2 rfl) ?_
        refine lv_iload_n hx hb dX_gram_33 rfl (lv_at hl 3 rfl) ?_
        refine lv_iload hx hb dX_gram_34 (lv_at hl 4 rfl) ?_
        refine lv_iload hx hb dX_gram_36 (lv_at hl 5 rfl) ?_
        refine wt_rwv (va_runV (As := [.int uu, .int vv, .int ww, .int co, .int bo]) (rest := []) ⟨hx, hb, hml, hown, ht⟩ (c_G_put l dC dI cI cZ cL q s.heap.size ph pa ch en sz pr gc gb sc sh sl ct tok wt pn lt wp sd ia ib ic uu vv ww co bo hu hv hw ha hb6 hc6) (cwV 5 ht (good_V m_184 m_185 m_186 m_3 m_187) rfl rfl rfl (by decide +kernel) ⟨Nat.le_of_ble_eq_true rfl, Nat.le_of_ble_eq_true rfl⟩) (wt_preVw hK hN hP hD (va_recv hK hP (ci := 2) (q0 := 6) rfl rfl)) rfl rfl hl.1 rfl (lv_room (Nat.le_of_ble_eq_true rfl)) dX_gram_38 ⟨Nat.le_of_ble_eq_true rfl, Nat.le_of_ble_eq_true rfl⟩) hD hS hA (fun H locs hP hD hS => ?_)
        have hP : va_P (dC, dI) vwCl (wX cI cZ cL q ph pa ch en sz pr (upd gc (wt_sl ia ib ic) co) (upd gb (wt_sl ia ib ic) bo) sc sh sl ct tok wt pn lt wp sd) H := hP
        have hD : va_D A (wX cI cZ cL q ph pa ch en sz pr (upd gc (wt_sl ia ib ic) co) (upd gb (wt_sl ia ib ic) bo) sc sh sl ct tok wt pn lt wp sd) := hD
        refine lv_aload_n hx hb dX_gram_41 rfl (lv_at hl 0 rfl) ?_
        refine lv_iconst (v := nI 0) hx hb dX_gram_42 (by decide) ?_
        rw [show (.int (nI 0) : Value) = .int (wt_bI false) from rfl]
        refine va_put (D := (dC, dI)) (ci := 0) (v := .int (wt_bI false)) (ty := .boolean) (C := RX) (T := TX) (N := 5) hx hb ht inX tyX tyX_ok nmX hown hK hP hD hS 0 rfl rfl 4 (by decide) (ht _ m_117) (fun _ h9 => h9) rfl (by decide +kernel) (wt_bI_nar _) (by first | rfl | (cases false <;> rfl)) (Nat.le_of_ble_eq_true rfl) dX_gram_43 (fun H locs hP hD hS => ?_)
        have hP : va_P (dC, dI) vwCl (wX cI cZ cL q ph pa ch en sz pr (upd gc (wt_sl ia ib ic) co) (upd gb (wt_sl ia ib ic) bo) sc sh sl ct tok wt pn lt wp false) H := hP
        have hD : va_D A (wX cI cZ cL q ph pa ch en sz pr (upd gc (wt_sl ia ib ic) co) (upd gb (wt_sl ia ib ic) bo) sc sh sl ct tok wt pn lt wp false) := hD
        refine lv_iconst (v := nI 1) hx hb dX_gram_46 (by decide) ?_
        have hP9 : va_P (dC, dI) vwCl (wX cI cZ cL q ph pa ch en sz pr (upd gc (wt_sl ia ib ic) co) (upd gb (wt_sl ia ib ic) bo) sc sh sl ct tok wt pn lt wp false) H := by exact hP
        have hD9 : va_D A (wX cI cZ cL q ph pa ch en sz pr (upd gc (wt_sl ia ib ic) co) (upd gb (wt_sl ia ib ic) bo) sc sh sl ct tok wt pn lt wp false) := by exact hD
        exact W.zret (v := nI 1) hx hb hr rfl (fun t ht hW => ⟨⟨_, (), rfl, rfl, by rw [ht]; exact hP9, hD9⟩, hS.F ht⟩) hS.2.2 dX_gram_47
      · exact absurd c_3 hbo

set_option maxHeartbeats 4000000 in
set_option maxRecDepth 100000 in
theorem c_X_ungram_0 (l : Launch) (dC : Nat → ClassId) (dI : Nat → Nat → Nat) (cI cZ cL : ClassId) (q : Nat → Nat) (ph : Nat → Nat) (pa : Nat → Nat) (ch : Nat → Nat) (en : Nat → Bool) (sz : Nat) (pr : Nat) (gc : Nat → Int32) (gb : Nat → Int32) (sc : Nat → Int32) (sh : Nat → Int32) (sl : Nat → Int32) (ct : Nat) (tok : Nat → Int64) (wt : Nat → Int64) (pn : Nat → Nat) (lt : Nat → Int64) (wp : Int64) (sd : Bool) (uu : Int32) (vv : Int32) (ww : Int32) (hbad : wt_isG uu vv ww = false) : Met l yX_ungram (Cond.code yX_ungram cX_ungram 4 (some .boolean) :: tb) ({ frames := 3, cells := 0, slots := 0, locals := 62 }) (va_Pc [.ref (q 0), .int uu, .int vv, .int ww] (wt_ro (dC, dI) vwCl [(cI, .int), (cZ, .boolean), (cL, .long)] (wX cI cZ cL q ph pa ch en sz pr gc gb sc sh sl ct tok wt pn lt wp sd))) (vp_Si (fun r => r = (nI 0))) 0 0 (fun _ => False) := by
  refine Met.ofW (cc := cX_ungram) (maxL := 4) (ret := (some .boolean)) (by decide) rfl ?_
  intro p e s m args below meth c s₁ B hml hv
  obtain ⟨rfl, hP, hK, hN⟩ := hv
  have hx := B.exec
  have hb := B.bytes
  have hr := B.returns
  have hts := atoms_spec (ws := (Cond.code yX_ungram cX_ungram 4 (some .boolean) :: tb)) B.pre
  have ht : ∀ w ∈ tb, w.before _ s = true := fun w h => hts w (List.mem_cons_of_mem _ h)
  have hown : s.vm.findClass RX = some m.cls := findClass_of_methodNamed B.named
  have hlocks := B.notSynchronized
  have hl := lv_entry ([.ref (q 0), .int uu, .int vv, .int ww]) (n := 4) (Nat.le_of_ble_eq_true rfl)
  rw [lg_entry_eq]
  generalize (lg_sl ([.ref (q 0), .int uu, .int vv, .int ww]) ++ List.replicate (4 - (lg_sl ([.ref (q 0), .int uu, .int vv, .int ww])).length) Slot.unset).toArray = ls at hl ⊢
  have hl : lv_has ls 4 [(0, .ref (q 0)), (1, .int uu), (2, .int vv), (3, .int ww)] := hl
  refine lv_iload_n hx hb dX_ungram_0 rfl (lv_at hl 1 rfl) ?_
  refine lv_iload_n hx hb dX_ungram_1 rfl (lv_at hl 2 rfl) ?_
  refine lv_iload_n hx hb dX_ungram_2 rfl (lv_at hl 3 rfl) ?_
  refine wt_roi (va_runS (As := [.int uu, .int vv, .int ww]) (rest := []) ⟨hx, hb, hml, hown, ht⟩ (c_G_isGram l dC dI cI cZ cL uu vv ww) (va_cwS 3 ht (good_S m_174 m_175 m_3 m_176) rfl rfl rfl (by decide +kernel) ⟨Nat.le_of_ble_eq_true rfl, Nat.le_of_ble_eq_true rfl⟩) (wt_preS hK hN (hP.sub [] rfl)) rfl rfl hl.1 rfl (lv_room (Nat.le_of_ble_eq_true rfl)) dX_ungram_3 ⟨Nat.le_of_ble_eq_true rfl, Nat.le_of_ble_eq_true rfl⟩) ?_
  refine wt_bif_eq (tgt := 22) hx hb dX_ungram_6 (by decide) (fun c_1 => ?_) (fun c_1 => ?_)
  · skip
    refine lv_iconst (v := nI 0) hx hb dX_ungram_22 (by decide) ?_
    exact W.zret (v := nI 0) hx hb hr rfl (fun t ht hW => ⟨_, rfl, rfl, ht⟩) (fun q h => by cases h) dX_ungram_23
  · exact absurd c_1 (by rw [hbad]; decide)

set_option maxHeartbeats 4000000 in
set_option maxRecDepth 100000 in
theorem c_X_ungram_1 (l : Launch) (dC : Nat → ClassId) (dI : Nat → Nat → Nat) (cI cZ cL : ClassId) (q : Nat → Nat) (ph : Nat → Nat) (pa : Nat → Nat) (ch : Nat → Nat) (en : Nat → Bool) (sz : Nat) (pr : Nat) (gc : Nat → Int32) (gb : Nat → Int32) (sc : Nat → Int32) (sh : Nat → Int32) (sl : Nat → Int32) (ct : Nat) (tok : Nat → Int64) (wt : Nat → Int64) (pn : Nat → Nat) (lt : Nat → Int64) (wp : Int64) (sd : Bool) (ia : Nat) (ib : Nat) (ic : Nat) (uu : Int32) (vv : Int32) (ww : Int32) (hg : wt_isG uu vv ww = true) (hu : uu + nI 1 = nI ia) (hv : vv + nI 1 = nI ib) (hw : ww + nI 1 = nI ic) (ha : ia < 6) (hb6 : ib < 6) (hc6 : ic < 6) (hno : gc (wt_sl ia ib ic) = -1) : Met l yX_ungram (Cond.code yX_ungram cX_ungram 4 (some .boolean) :: tb) ({ frames := 3, cells := 0, slots := 0, locals := 62 }) (va_Pc [.ref (q 0), .int uu, .int vv, .int ww] (wt_ro (dC, dI) vwCl [(cI, .int), (cZ, .boolean), (cL, .long)] (wX cI cZ cL q ph pa ch en sz pr gc gb sc sh sl ct tok wt pn lt wp sd))) (vp_Si (fun r => r = (nI 0))) 0 0 (fun _ => False) := by
  refine Met.ofW (cc := cX_ungram) (maxL := 4) (ret := (some .boolean)) (by decide) rfl ?_
  intro p e s m args below meth c s₁ B hml hv
  obtain ⟨rfl, hP, hK, hN⟩ := hv
  have hx := B.exec
  have hb := B.bytes
  have hr := B.returns
  have hts := atoms_spec (ws := (Cond.code yX_ungram cX_ungram 4 (some .boolean) :: tb)) B.pre
  have ht : ∀ w ∈ tb, w.before _ s = true := fun w h => hts w (List.mem_cons_of_mem _ h)
  have hown : s.vm.findClass RX = some m.cls := findClass_of_methodNamed B.named
  have hlocks := B.notSynchronized
  have hl := lv_entry ([.ref (q 0), .int uu, .int vv, .int ww]) (n := 4) (Nat.le_of_ble_eq_true rfl)
  rw [lg_entry_eq]
  generalize (lg_sl ([.ref (q 0), .int uu, .int vv, .int ww]) ++ List.replicate (4 - (lg_sl ([.ref (q 0), .int uu, .int vv, .int ww])).length) Slot.unset).toArray = ls at hl ⊢
  have hl : lv_has ls 4 [(0, .ref (q 0)), (1, .int uu), (2, .int vv), (3, .int ww)] := hl
  refine lv_iload_n hx hb dX_ungram_0 rfl (lv_at hl 1 rfl) ?_
  refine lv_iload_n hx hb dX_ungram_1 rfl (lv_at hl 2 rfl) ?_
  refine lv_iload_n hx hb dX_ungram_2 rfl (lv_at hl 3 rfl) ?_
  refine wt_roi (va_runS (As := [.int uu, .int vv, .int ww]) (rest := []) ⟨hx, hb, hml, hown, ht⟩ (c_G_isGram l dC dI cI cZ cL uu vv ww) (va_cwS 3 ht (good_S m_174 m_175 m_3 m_176) rfl rfl rfl (by decide +kernel) ⟨Nat.le_of_ble_eq_true rfl, Nat.le_of_ble_eq_true rfl⟩) (wt_preS hK hN (hP.sub [] rfl)) rfl rfl hl.1 rfl (lv_room (Nat.le_of_ble_eq_true rfl)) dX_ungram_3 ⟨Nat.le_of_ble_eq_true rfl, Nat.le_of_ble_eq_true rfl⟩) ?_
  refine wt_bif_eq (tgt := 22) hx hb dX_ungram_6 (by decide) (fun c_1 => ?_) (fun c_1 => ?_)
  · exact absurd c_1 (by rw [hg]; decide)
  · skip
    refine lv_aload_n hx hb dX_ungram_9 rfl (lv_at hl 0 rfl) ?_
    refine va_get (D := (dC, dI)) (ci := 0) (v := .ref (q 6)) (C := RX) (T := TX) (N := 5) hx hb ht inX hown hK hP 0 rfl rfl 1 (by decide) (ht _ m_114) (fun _ h9 => h9) rfl dX_ungram_10 ?_
    refine lv_iload_n hx hb dX_ungram_13 rfl (lv_at hl 1 rfl) ?_
    refine lv_iload_n hx hb dX_ungram_14 rfl (lv_at hl 2 rfl) ?_
    refine lv_iload_n hx hb dX_ungram_15 rfl (lv_at hl 3 rfl) ?_
    refine wt_roi (va_runV (As := [.int uu, .int vv, .int ww]) (rest := []) ⟨hx, hb, hml, hown, ht⟩ (c_G_has l dC dI cI cZ cL q ph pa ch en sz pr gc gb sc sh sl ct tok wt pn lt wp sd ia ib ic uu vv ww hu hv hw ha hb6 hc6) (cwV 3 ht (good_V m_195 m_196 m_197 m_3 m_198) rfl rfl rfl (by decide +kernel) ⟨Nat.le_of_ble_eq_true rfl, Nat.le_of_ble_eq_true rfl⟩) (wt_preV hK hN hP (va_recv hK hP (ci := 2) (q0 := 6) rfl rfl)) rfl rfl hl.1 rfl (lv_room (Nat.le_of_ble_eq_true rfl)) dX_ungram_16 ⟨Nat.le_of_ble_eq_true rfl, Nat.le_of_ble_eq_true rfl⟩) ?_
    refine wt_bif_ne (tgt := 24) hx hb dX_ungram_19 (by decide) (fun c_2 => ?_) (fun c_2 => ?_)
    · exact absurd hno (of_decide_eq_true c_2)
    · skip
      refine lv_iconst (v := nI 0) hx hb dX_ungram_22 (by decide) ?_
      exact W.zret (v := nI 0) hx hb hr rfl (fun t ht hW => ⟨_, rfl, rfl, ht⟩) (fun q h => by cases h) dX_ungram_23

set_option maxHeartbeats 4000000 in
set_option maxRecDepth 100000 in
theorem c_X_ungram_2 (l : Launch) (dC : Nat → ClassId) (dI : Nat → Nat → Nat) (cI cZ cL : ClassId) (q : Nat → Nat) (sz0 : Nat) (ph : Nat → Nat) (pa : Nat → Nat) (ch : Nat → Nat) (en : Nat → Bool) (sz : Nat) (pr : Nat) (gc : Nat → Int32) (gb : Nat → Int32) (sc : Nat → Int32) (sh : Nat → Int32) (sl : Nat → Int32) (ct : Nat) (tok : Nat → Int64) (wt : Nat → Int64) (pn : Nat → Nat) (lt : Nat → Int64) (wp : Int64) (sd : Bool) (ia : Nat) (ib : Nat) (ic : Nat) (uu : Int32) (vv : Int32) (ww : Int32) (hg : wt_isG uu vv ww = true) (hu : uu + nI 1 = nI ia) (hv : vv + nI 1 = nI ib) (hw : ww + nI 1 = nI ic) (ha : ia < 6) (hb6 : ib < 6) (hc6 : ic < 6) (hyes : ¬ gc (wt_sl ia ib ic) = -1) : Met l yX_ungram (Cond.code yX_ungram cX_ungram 4 (some .boolean) :: tb) ({ frames := 3, cells := 0, slots := 0, locals := 62 }) (va_Pc [.ref (q 0), .int uu, .int vv, .int ww] (wt_rw (dC, dI) vwCl [(cI, .int), (cZ, .boolean), (cL, .long)] (wX cI cZ cL q ph pa ch en sz pr gc gb sc sh sl ct tok wt pn lt wp sd) sz0)) (va_Qi (fun r (_ : Unit) => r = (nI 1)) (wt_B (dC, dI) vwCl (va_A (wX cI cZ cL q ph pa ch en sz pr gc gb sc sh sl ct tok wt pn lt wp sd) sz0) (wX cI cZ cL q ph pa ch en sz pr (upd gc (wt_sl ia ib ic) (-1)) (upd gb (wt_sl ia ib ic) (nI 0)) sc sh sl ct tok wt pn lt wp false)) (va_A (wX cI cZ cL q ph pa ch en sz pr gc gb sc sh sl ct tok wt pn lt wp sd) sz0)) 0 0 (va_A (wX cI cZ cL q ph pa ch en sz pr gc gb sc sh sl ct tok wt pn lt wp sd) sz0) := by
  refine Met.ofW (cc := cX_ungram) (maxL := 4) (ret := (some .boolean)) (by decide) rfl ?_
  intro p e s m args below meth c s₁ B hml hv
  obtain ⟨rfl, hsz, hP, hK, hN, hD0⟩ := hv
  have hx := B.exec
  have hb := B.bytes
  have hr := B.returns
  have hts := atoms_spec (ws := (Cond.code yX_ungram cX_ungram 4 (some .boolean) :: tb)) B.pre
  have ht : ∀ w ∈ tb, w.before _ s = true := fun w h => hts w (List.mem_cons_of_mem _ h)
  have hown : s.vm.findClass RX = some m.cls := findClass_of_methodNamed B.named
  have hlocks := B.notSynchronized
  subst hsz
  have hD := hD0.self (sz := s.heap.size)
  generalize hAe : va_A (wX cI cZ cL q ph pa ch en sz pr gc gb sc sh sl ct tok wt pn lt wp sd) s.heap.size = A at hD ⊢
  have hA : ∀ q : Nat, s.heap.size ≤ q → A q := fun q h => by rw [← hAe]; exact Or.inr h
  clear hAe hD0
  have hS : va_S A s.heap s.heap [] := va_S.rf
  have hl := lv_entry ([.ref (q 0), .int uu, .int vv, .int ww]) (n := 4) (Nat.le_of_ble_eq_true rfl)
  rw [lg_entry_eq]
  generalize (lg_sl ([.ref (q 0), .int uu, .int vv, .int ww]) ++ List.replicate (4 - (lg_sl ([.ref (q 0), .int uu, .int vv, .int ww])).length) Slot.unset).toArray = ls at hl ⊢
  have hl : lv_has ls 4 [(0, .ref (q 0)), (1, .int uu), (2, .int vv), (3, .int ww)] := hl
  refine lv_iload_n hx hb dX_ungram_0 rfl (lv_at hl 1 rfl) ?_
  refine lv_iload_n hx hb dX_ungram_1 rfl (lv_at hl 2 rfl) ?_
  refine lv_iload_n hx hb dX_ungram_2 rfl (lv_at hl 3 rfl) ?_
  refine wt_roi (va_runS (As := [.int uu, .int vv, .int ww]) (rest := []) ⟨hx, hb, hml, hown, ht⟩ (c_G_isGram l dC dI cI cZ cL uu vv ww) (va_cwS 3 ht (good_S m_174 m_175 m_3 m_176) rfl rfl rfl (by decide +kernel) ⟨Nat.le_of_ble_eq_true rfl, Nat.le_of_ble_eq_true rfl⟩) (wt_preS hK hN (hP.sub [] rfl)) rfl rfl hl.1 rfl (lv_room (Nat.le_of_ble_eq_true rfl)) dX_ungram_3 ⟨Nat.le_of_ble_eq_true rfl, Nat.le_of_ble_eq_true rfl⟩) ?_
  refine wt_bif_eq (tgt := 22) hx hb dX_ungram_6 (by decide) (fun c_1 => ?_) (fun c_1 => ?_)
  · exact absurd c_1 (by rw [hg]; decide)
  · skip
    refine lv_aload_n hx hb dX_ungram_9 rfl (lv_at hl 0 rfl) ?_
    refine va_get (D := (dC, dI)) (ci := 0) (v := .ref (q 6)) (C := RX) (T := TX) (N := 5) hx hb ht inX hown hK hP 0 rfl rfl 1 (by decide) (ht _ m_114) (fun _ h9 => h9) rfl dX_ungram_10 ?_
    refine lv_iload_n hx hb dX_ungram_13 rfl (lv_at hl 1 rfl) ?_
    refine lv_iload_n hx hb dX_ungram_14 rfl (lv_at hl 2 rfl) ?_
    refine lv_iload_n hx hb dX_ungram_15 rfl (lv_at hl 3 rfl) ?_
    refine wt_roi (va_runV (As := [.int uu, .int vv, .int ww]) (rest := []) ⟨hx, hb, hml, hown, ht⟩ (c_G_has l dC dI cI cZ cL q ph pa ch en sz pr gc gb sc sh sl ct tok wt pn lt wp sd ia ib ic uu vv ww hu hv hw ha hb6 hc6) (cwV 3 ht (good_V m_195 m_196 m_197 m_3 m_198) rfl rfl rfl (by decide +kernel) ⟨Nat.le_of_ble_eq_true rfl, Nat.le_of_ble_eq_true rfl⟩) (wt_preV hK hN hP (va_recv hK hP (ci := 2) (q0 := 6) rfl rfl)) rfl rfl hl.1 rfl (lv_room (Nat.le_of_ble_eq_true rfl)) dX_ungram_16 ⟨Nat.le_of_ble_eq_true rfl, Nat.le_of_ble_eq_true rfl⟩) ?_
    refine wt_bif_ne (tgt := 24) hx hb dX_ungram_19 (by decide) (fun c_2 => ?_) (fun c_2 => ?_)
    · skip
      refine lv_aload_n hx hb dX_ungram_24 rfl (lv_at hl 0 rfl) ?_
      refine va_get (D := (dC, dI)) (ci := 0) (v := .ref (q 6)) (C := RX) (T := TX) (N := 5) hx hb ht inX hown hK hP 0 rfl rfl 1 (by decide) (ht _ m_114) (fun _ h9 => h9) rfl dX_ungram_25 ?_
      refine lv_iload_n hx hb dX_ungram_28 rfl (lv_at hl 1 rfl) ?_
      refine lv_iload_n hx hb dX_ungram_29 rfl (lv_at hl 2 rfl) ?_
      refine lv_iload_n hx hb dX_ungram_30 rfl (lv_at hl 3 rfl) ?_
      refine wt_rwv (va_runV (As := [.int uu, .int vv, .int ww]) (rest := []) ⟨hx, hb, hml, hown, ht⟩ (c_G_remove l dC dI cI cZ cL q s.heap.size ph pa ch en sz pr gc gb sc sh sl ct tok wt pn lt wp sd ia ib ic uu vv ww hu hv hw ha hb6 hc6) (cwV 3 ht (good_V m_199 m_200 m_201 m_3 m_202) rfl rfl rfl (by decide +kernel) ⟨Nat.le_of_ble_eq_true rfl, Nat.le_of_ble_eq_true rfl⟩) (wt_preVw hK hN hP hD (va_recv hK hP (ci := 2) (q0 := 6) rfl rfl)) rfl rfl hl.1 rfl (lv_room (Nat.le_of_ble_eq_true rfl)) dX_ungram_31 ⟨Nat.le_of_ble_eq_true rfl, Nat.le_of_ble_eq_true rfl⟩) hD hS hA (fun H locs hP hD hS => ?_)
      have hP : va_P (dC, dI) vwCl (wX cI cZ cL q ph pa ch en sz pr (upd gc (wt_sl ia ib ic) (-1)) (upd gb (wt_sl ia ib ic) (nI 0)) sc sh sl ct tok wt pn lt wp sd) H := hP
      have hD : va_D A (wX cI cZ cL q ph pa ch en sz pr (upd gc (wt_sl ia ib ic) (-1)) (upd gb (wt_sl ia ib ic) (nI 0)) sc sh sl ct tok wt pn lt wp sd) := hD
      refine lv_aload_n hx hb dX_ungram_34 rfl (lv_at hl 0 rfl) ?_
      refine lv_iconst (v := nI 0) hx hb dX_ungram_35 (by decide) ?_
      rw [show (.int (nI 0) : Value) = .int (wt_bI false) from rfl]
      refine va_put (D := (dC, dI)) (ci := 0) (v := .int (wt_bI false)) (ty := .boolean) (C := RX) (T := TX) (N := 5) hx hb ht inX tyX tyX_ok nmX hown hK hP hD hS 0 rfl rfl 4 (by decide) (ht _ m_117) (fun _ h9 => h9) rfl (by decide +kernel) (wt_bI_nar _) (by first | rfl | (cases false <;> rfl)) (Nat.le_of_ble_eq_true rfl) dX_ungram_36 (fun H locs hP hD hS => ?_)
      have hP : va_P (dC, dI) vwCl (wX cI cZ cL q ph pa ch en sz pr (upd gc (wt_sl ia ib ic) (-1)) (upd gb (wt_sl ia ib ic) (nI 0)) sc sh sl ct tok wt pn lt wp false) H := hP
      have hD : va_D A (wX cI cZ cL q ph pa ch en sz pr (upd gc (wt_sl ia ib ic) (-1)) (upd gb (wt_sl ia ib ic) (nI 0)) sc sh sl ct tok wt pn lt wp false) := hD
      refine lv_iconst (v := nI 1) hx hb dX_ungram_39 (by decide) ?_
      have hP9 : va_P (dC, dI) vwCl (wX cI cZ cL q ph pa ch en sz pr (upd gc (wt_sl ia ib ic) (-1)) (upd gb (wt_sl ia ib ic) (nI 0)) sc sh sl ct tok wt pn lt wp false) H := by exact hP
      have hD9 : va_D A (wX cI cZ cL q ph pa ch en sz pr (upd gc (wt_sl ia ib ic) (-1)) (upd gb (wt_sl ia ib ic) (nI 0)) sc sh sl ct tok wt pn lt wp false) := by exact hD
      exact W.zret (v := nI 1) hx hb hr rfl (fun t ht hW => ⟨⟨_, (), rfl, rfl, by rw [ht]; exact hP9, hD9⟩, hS.F ht⟩) hS.2.2 dX_ungram_40
    · exact absurd hyes (of_decide_eq_false c_2)

set_option maxHeartbeats 4000000 in
set_option maxRecDepth 100000 in
theorem c_X_after_0 (l : Launch) (dC : Nat → ClassId) (dI : Nat → Nat → Nat) (cI cZ cL : ClassId) (q : Nat → Nat) (ph : Nat → Nat) (pa : Nat → Nat) (ch : Nat → Nat) (en : Nat → Bool) (sz : Nat) (pr : Nat) (gc : Nat → Int32) (gb : Nat → Int32) (sc : Nat → Int32) (sh : Nat → Int32) (sl : Nat → Int32) (ct : Nat) (tok : Nat → Int64) (wt : Nat → Int64) (pn : Nat → Nat) (lt : Nat → Int64) (wp : Int64) (sd : Bool) (uu : Int32) (vv : Int32) (ww : Int32) (hbad : wt_okA uu vv ww = false) : Met l yX_after (Cond.code yX_after cX_after 4 (some .int) :: tb) ({ frames := 2, cells := 0, slots := 0, locals := 40 }) (va_Pc [.ref (q 0), .int uu, .int vv, .int ww] (wt_ro (dC, dI) vwCl [(cI, .int), (cZ, .boolean), (cL, .long)] (wX cI cZ cL q ph pa ch en sz pr gc gb sc sh sl ct tok wt pn lt wp sd))) (vp_Si (fun r => r = (-1))) 0 0 (fun _ => False) := by
  refine Met.ofW (cc := cX_after) (maxL := 4) (ret := (some .int)) (by decide) rfl ?_
  intro p e s m args below meth c s₁ B hml hv
  obtain ⟨rfl, hP, hK, hN⟩ := hv
  have hx := B.exec
  have hb := B.bytes
  have hr := B.returns
  have hts := atoms_spec (ws := (Cond.code yX_after cX_after 4 (some .int) :: tb)) B.pre
  have ht : ∀ w ∈ tb, w.before _ s = true := fun w h => hts w (List.mem_cons_of_mem _ h)
  have hown : s.vm.findClass RX = some m.cls := findClass_of_methodNamed B.named
  have hlocks := B.notSynchronized
  have hl := lv_entry ([.ref (q 0), .int uu, .int vv, .int ww]) (n := 4) (Nat.le_of_ble_eq_true rfl)
  rw [lg_entry_eq]
  generalize (lg_sl ([.ref (q 0), .int uu, .int vv, .int ww]) ++ List.replicate (4 - (lg_sl ([.ref (q 0), .int uu, .int vv, .int ww])).length) Slot.unset).toArray = ls at hl ⊢
  have hl : lv_has ls 4 [(0, .ref (q 0)), (1, .int uu), (2, .int vv), (3, .int ww)] := hl
  refine lv_iload_n hx hb dX_after_0 rfl (lv_at hl 3 rfl) ?_
  refine wt_roi (va_runS (As := [.int ww]) (rest := []) ⟨hx, hb, hml, hown, ht⟩ (c_X_isWordOrEdge l dC dI cI cZ cL ww) (va_cwS 1 ht (good_S m_207 m_178 m_1 m_179) rfl rfl rfl (by decide +kernel) ⟨Nat.le_of_ble_eq_true rfl, Nat.le_of_ble_eq_true rfl⟩) (wt_preS hK hN (hP.sub [] rfl)) rfl rfl hl.1 rfl (lv_room (Nat.le_of_ble_eq_true rfl)) dX_after_1 ⟨Nat.le_of_ble_eq_true rfl, Nat.le_of_ble_eq_true rfl⟩) ?_
  refine lv_if_eq (tgt := 31) hx hb dX_after_4 (by decide) (fun c_1 => ?_) (fun c_1 => ?_)
  · skip
    refine lv_iconst (v := (-1)) hx hb dX_after_31 (by decide) ?_
    exact W.iret (v := (-1)) hx hb hr (fun t ht hW => ⟨_, rfl, rfl, ht⟩) (fun q h => by cases h) dX_after_32
  · skip
    refine lv_iload_n hx hb dX_after_7 rfl (lv_at hl 2 rfl) ?_
    refine wt_roi (va_runS (As := [.int vv]) (rest := []) ⟨hx, hb, hml, hown, ht⟩ (c_X_isWordOrEdge l dC dI cI cZ cL vv) (va_cwS 1 ht (good_S m_207 m_178 m_1 m_179) rfl rfl rfl (by decide +kernel) ⟨Nat.le_of_ble_eq_true rfl, Nat.le_of_ble_eq_true rfl⟩) (wt_preS hK hN (hP.sub [] rfl)) rfl rfl hl.1 rfl (lv_room (Nat.le_of_ble_eq_true rfl)) dX_after_8 ⟨Nat.le_of_ble_eq_true rfl, Nat.le_of_ble_eq_true rfl⟩) ?_
    refine lv_if_eq (tgt := 31) hx hb dX_after_11 (by decide) (fun c_2 => ?_) (fun c_2 => ?_)
    · skip
      refine lv_iconst (v := (-1)) hx hb dX_after_31 (by decide) ?_
      exact W.iret (v := (-1)) hx hb hr (fun t ht hW => ⟨_, rfl, rfl, ht⟩) (fun q h => by cases h) dX_after_32
    · skip
      refine lv_iload_n hx hb dX_after_14 rfl (lv_at hl 1 rfl) ?_
      refine wt_roi (va_runS (As := [.int uu]) (rest := []) ⟨hx, hb, hml, hown, ht⟩ (c_X_isWordOrEdge l dC dI cI cZ cL uu) (va_cwS 1 ht (good_S m_207 m_178 m_1 m_179) rfl rfl rfl (by decide +kernel) ⟨Nat.le_of_ble_eq_true rfl, Nat.le_of_ble_eq_true rfl⟩) (wt_preS hK hN (hP.sub [] rfl)) rfl rfl hl.1 rfl (lv_room (Nat.le_of_ble_eq_true rfl)) dX_after_15 ⟨Nat.le_of_ble_eq_true rfl, Nat.le_of_ble_eq_true rfl⟩) ?_
      refine lv_if_eq (tgt := 31) hx hb dX_after_18 (by decide) (fun c_3 => ?_) (fun c_3 => ?_)
      · skip
        refine lv_iconst (v := (-1)) hx hb dX_after_31 (by decide) ?_
        exact W.iret (v := (-1)) hx hb hr (fun t ht hW => ⟨_, rfl, rfl, ht⟩) (fun q h => by cases h) dX_after_32
      · skip
        refine lv_iload_n hx hb dX_after_21 rfl (lv_at hl 2 rfl) ?_
        refine lv_iconst (v := nI 4) hx hb dX_after_22 (by decide) ?_
        refine lv_icmp_ne (tgt := 33) hx hb dX_after_23 (by decide) (fun c_4 => ?_) (fun c_4 => ?_)
        · exact absurd hbad (by simp [wt_okA, c_1, c_2, c_3, c_4])
        · skip
          refine lv_iload_n hx hb dX_after_26 rfl (lv_at hl 1 rfl) ?_
          refine lv_iconst (v := nI 4) hx hb dX_after_27 (by decide) ?_
          refine lv_icmp_eq (tgt := 33) hx hb dX_after_28 (by decide) (fun c_5 => ?_) (fun c_5 => ?_)
          · exact absurd hbad (by simp [wt_okA, c_1, c_2, c_3, c_4, c_5, wt_rn (show 4 < 5 by decide) (show 5 < 2 ^ 31 by decide)])
          · skip
            refine lv_iconst (v := (-1)) hx hb dX_after_31 (by decide) ?_
            exact W.iret (v := (-1)) hx hb hr (fun t ht hW => ⟨_, rfl, rfl, ht⟩) (fun q h => by cases h) dX_after_32

set_option maxHeartbeats 4000000 in
set_option maxRecDepth 100000 in
theorem c_X_after_1 (l : Launch) (dC : Nat → ClassId) (dI : Nat → Nat → Nat) (cI cZ cL : ClassId) (q : Nat → Nat) (ph : Nat → Nat) (pa : Nat → Nat) (ch : Nat → Nat) (en : Nat → Bool) (sz : Nat) (pr : Nat) (gc : Nat → Int32) (gb : Nat → Int32) (sc : Nat → Int32) (sh : Nat → Int32) (sl : Nat → Int32) (ct : Nat) (tok : Nat → Int64) (wt : Nat → Int64) (pn : Nat → Nat) (lt : Nat → Int64) (wp : Int64) (sd : Bool) (uu : Nat) (vv : Nat) (ww : Nat) (huu : uu < 5) (hvv : vv < 5) (hww : ww < 5) (hvu : vv = 4 → uu = 4) : Met l yX_after (Cond.code yX_after cX_after 4 (some .int) :: tb) ({ frames := 3, cells := 0, slots := 0, locals := 71 }) (va_Pc [.ref (q 0), .int (nI uu), .int (nI vv), .int (nI ww)] (wt_ro (dC, dI) vwCl [(cI, .int), (cZ, .boolean), (cL, .long)] (wX cI cZ cL q ph pa ch en sz pr gc gb sc sh sl ct tok wt pn lt wp sd))) (vp_Si (fun r => r = (wt_aft gc gb uu vv ww))) 0 0 (fun _ => False) := by
  refine Met.ofW (cc := cX_after) (maxL := 4) (ret := (some .int)) (by decide) rfl ?_
  intro p e s m args below meth c s₁ B hml hv
  obtain ⟨rfl, hP, hK, hN⟩ := hv
  have hx := B.exec
  have hb := B.bytes
  have hr := B.returns
  have hts := atoms_spec (ws := (Cond.code yX_after cX_after 4 (some .int) :: tb)) B.pre
  have ht : ∀ w ∈ tb, w.before _ s = true := fun w h => hts w (List.mem_cons_of_mem _ h)
  have hown : s.vm.findClass RX = some m.cls := findClass_of_methodNamed B.named
  have hlocks := B.notSynchronized
  have hl := lv_entry ([.ref (q 0), .int (nI uu), .int (nI vv), .int (nI ww)]) (n := 4) (Nat.le_of_ble_eq_true rfl)
  rw [lg_entry_eq]
  generalize (lg_sl ([.ref (q 0), .int (nI uu), .int (nI vv), .int (nI ww)]) ++ List.replicate (4 - (lg_sl ([.ref (q 0), .int (nI uu), .int (nI vv), .int (nI ww)])).length) Slot.unset).toArray = ls at hl ⊢
  have hl : lv_has ls 4 [(0, .ref (q 0)), (1, .int (nI uu)), (2, .int (nI vv)), (3, .int (nI ww))] := hl
  refine lv_iload_n hx hb dX_after_0 rfl (lv_at hl 3 rfl) ?_
  refine wt_roi (va_runS (As := [.int (nI ww)]) (rest := []) ⟨hx, hb, hml, hown, ht⟩ (c_X_isWordOrEdge l dC dI cI cZ cL (nI ww)) (va_cwS 1 ht (good_S m_207 m_178 m_1 m_179) rfl rfl rfl (by decide +kernel) ⟨Nat.le_of_ble_eq_true rfl, Nat.le_of_ble_eq_true rfl⟩) (wt_preS hK hN (hP.sub [] rfl)) rfl rfl hl.1 rfl (lv_room (Nat.le_of_ble_eq_true rfl)) dX_after_1 ⟨Nat.le_of_ble_eq_true rfl, Nat.le_of_ble_eq_true rfl⟩) ?_
  refine lv_if_eq (tgt := 31) hx hb dX_after_4 (by decide) (fun c_1 => ?_) (fun c_1 => ?_)
  · exact absurd c_1 (wt_rn hww (by decide))
  · skip
    refine lv_iload_n hx hb dX_after_7 rfl (lv_at hl 2 rfl) ?_
    refine wt_roi (va_runS (As := [.int (nI vv)]) (rest := []) ⟨hx, hb, hml, hown, ht⟩ (c_X_isWordOrEdge l dC dI cI cZ cL (nI vv)) (va_cwS 1 ht (good_S m_207 m_178 m_1 m_179) rfl rfl rfl (by decide +kernel) ⟨Nat.le_of_ble_eq_true rfl, Nat.le_of_ble_eq_true rfl⟩) (wt_preS hK hN (hP.sub [] rfl)) rfl rfl hl.1 rfl (lv_room (Nat.le_of_ble_eq_true rfl)) dX_after_8 ⟨Nat.le_of_ble_eq_true rfl, Nat.le_of_ble_eq_true rfl⟩) ?_
    refine lv_if_eq (tgt := 31) hx hb dX_after_11 (by decide) (fun c_2 => ?_) (fun c_2 => ?_)
    · exact absurd c_2 (wt_rn hvv (by decide))
    · skip
      refine lv_iload_n hx hb dX_after_14 rfl (lv_at hl 1 rfl) ?_
      refine wt_roi (va_runS (As := [.int (nI uu)]) (rest := []) ⟨hx, hb, hml, hown, ht⟩ (c_X_isWordOrEdge l dC dI cI cZ cL (nI uu)) (va_cwS 1 ht (good_S m_207 m_178 m_1 m_179) rfl rfl rfl (by decide +kernel) ⟨Nat.le_of_ble_eq_true rfl, Nat.le_of_ble_eq_true rfl⟩) (wt_preS hK hN (hP.sub [] rfl)) rfl rfl hl.1 rfl (lv_room (Nat.le_of_ble_eq_true rfl)) dX_after_15 ⟨Nat.le_of_ble_eq_true rfl, Nat.le_of_ble_eq_true rfl⟩) ?_
      refine lv_if_eq (tgt := 31) hx hb dX_after_18 (by decide) (fun c_3 => ?_) (fun c_3 => ?_)
      · exact absurd c_3 (wt_rn huu (by decide))
      · skip
        refine lv_iload_n hx hb dX_after_21 rfl (lv_at hl 2 rfl) ?_
        refine lv_iconst (v := nI 4) hx hb dX_after_22 (by decide) ?_
        refine wt_icmp_ne (tgt := 33) hx hb dX_after_23 (by decide) (by omega) (by omega) (fun c_4 => ?_) (fun c_4 => ?_)
        · skip
          refine lv_aload_n hx hb dX_after_33 rfl (lv_at hl 0 rfl) ?_
          refine va_get (D := (dC, dI)) (ci := 0) (v := .ref (q 6)) (C := RX) (T := TX) (N := 5) hx hb ht inX hown hK hP 0 rfl rfl 1 (by decide) (ht _ m_114) (fun _ h9 => h9) rfl dX_after_34 ?_
          refine lv_iload_n hx hb dX_after_37 rfl (lv_at hl 1 rfl) ?_
          refine lv_iload_n hx hb dX_after_38 rfl (lv_at hl 2 rfl) ?_
          refine lv_iload_n hx hb dX_after_39 rfl (lv_at hl 3 rfl) ?_
          refine wt_roi (va_runV (As := [.int (nI uu), .int (nI vv), .int (nI ww)]) (rest := []) ⟨hx, hb, hml, hown, ht⟩ (c_G_costAfter l dC dI cI cZ cL q ph pa ch en sz pr gc gb sc sh sl ct tok wt pn lt wp sd uu vv ww huu hvv hww) (cwV 3 ht (good_V m_208 m_209 m_210 m_3 m_211) rfl rfl rfl (by decide +kernel) ⟨Nat.le_of_ble_eq_true rfl, Nat.le_of_ble_eq_true rfl⟩) (wt_preV hK hN hP (va_recv hK hP (ci := 2) (q0 := 6) rfl rfl)) rfl rfl hl.1 rfl (lv_room (Nat.le_of_ble_eq_true rfl)) dX_after_40 ⟨Nat.le_of_ble_eq_true rfl, Nat.le_of_ble_eq_true rfl⟩) ?_
          exact W.iret (v := wt_aft gc gb uu vv ww) hx hb hr (fun t ht hW => ⟨_, rfl, rfl, ht⟩) (fun q h => by cases h) dX_after_43
        · skip
          refine lv_iload_n hx hb dX_after_26 rfl (lv_at hl 1 rfl) ?_
          refine lv_iconst (v := nI 4) hx hb dX_after_27 (by decide) ?_
          refine wt_icmp_eq (tgt := 33) hx hb dX_after_28 (by decide) (by omega) (by omega) (fun c_5 => ?_) (fun c_5 => ?_)
          · skip
            refine lv_aload_n hx hb dX_after_33 rfl (lv_at hl 0 rfl) ?_
            refine va_get (D := (dC, dI)) (ci := 0) (v := .ref (q 6)) (C := RX) (T := TX) (N := 5) hx hb ht inX hown hK hP 0 rfl rfl 1 (by decide) (ht _ m_114) (fun _ h9 => h9) rfl dX_after_34 ?_
            refine lv_iload_n hx hb dX_after_37 rfl (lv_at hl 1 rfl) ?_
            refine lv_iload_n hx hb dX_after_38 rfl (lv_at hl 2 rfl) ?_
            refine lv_iload_n hx hb dX_after_39 rfl (lv_at hl 3 rfl) ?_
            refine wt_roi (va_runV (As := [.int (nI uu), .int (nI vv), .int (nI ww)]) (rest := []) ⟨hx, hb, hml, hown, ht⟩ (c_G_costAfter l dC dI cI cZ cL q ph pa ch en sz pr gc gb sc sh sl ct tok wt pn lt wp sd uu vv ww huu hvv hww) (cwV 3 ht (good_V m_208 m_209 m_210 m_3 m_211) rfl rfl rfl (by decide +kernel) ⟨Nat.le_of_ble_eq_true rfl, Nat.le_of_ble_eq_true rfl⟩) (wt_preV hK hN hP (va_recv hK hP (ci := 2) (q0 := 6) rfl rfl)) rfl rfl hl.1 rfl (lv_room (Nat.le_of_ble_eq_true rfl)) dX_after_40 ⟨Nat.le_of_ble_eq_true rfl, Nat.le_of_ble_eq_true rfl⟩) ?_
            exact W.iret (v := wt_aft gc gb uu vv ww) hx hb hr (fun t ht hW => ⟨_, rfl, rfl, ht⟩) (fun q h => by cases h) dX_after_43
          · exact absurd (hvu c_4) c_5

set_option maxHeartbeats 4000000 in
set_option maxRecDepth 100000 in
theorem c_X_topology_0 (l : Launch) (dC : Nat → ClassId) (dI : Nat → Nat → Nat) (cI cZ cL : ClassId) (q : Nat → Nat) (ph : Nat → Nat) (pa : Nat → Nat) (ch : Nat → Nat) (en : Nat → Bool) (sz : Nat) (pr : Nat) (gc : Nat → Int32) (gb : Nat → Int32) (sc : Nat → Int32) (sh : Nat → Int32) (sl : Nat → Int32) (ct : Nat) (tok : Nat → Int64) (wt : Nat → Int64) (pn : Nat → Nat) (lt : Nat → Int64) (wp : Int64) (sd : Bool) (ss : Int32) (ho : Int32) (le : Int32) (hbad : (decide (¬ wt_rng ss 3 = 0) && (decide (¬ wt_rng ho 10000 = 0) && decide (¬ wt_rng le 10000 = 0))) = false) : Met l yX_topology (Cond.code yX_topology cX_topology 4 (some .boolean) :: tb) ({ frames := 1, cells := 0, slots := 0, locals := 20 }) (va_Pc [.ref (q 0), .int ss, .int ho, .int le] (wt_ro (dC, dI) vwCl [(cI, .int), (cZ, .boolean), (cL, .long)] (wX cI cZ cL q ph pa ch en sz pr gc gb sc sh sl ct tok wt pn lt wp sd))) (vp_Si (fun r => r = (nI 0))) 0 0 (fun _ => False) := by
  refine Met.ofW (cc := cX_topology) (maxL := 4) (ret := (some .boolean)) (by decide) rfl ?_
  intro p e s m args below meth c s₁ B hml hv
  obtain ⟨rfl, hP, hK, hN⟩ := hv
  have hx := B.exec
  have hb := B.bytes
  have hr := B.returns
  have hts := atoms_spec (ws := (Cond.code yX_topology cX_topology 4 (some .boolean) :: tb)) B.pre
  have ht : ∀ w ∈ tb, w.before _ s = true := fun w h => hts w (List.mem_cons_of_mem _ h)
  have hown : s.vm.findClass RX = some m.cls := findClass_of_methodNamed B.named
  have hlocks := B.notSynchronized
  have hl := lv_entry ([.ref (q 0), .int ss, .int ho, .int le]) (n := 4) (Nat.le_of_ble_eq_true rfl)
  rw [lg_entry_eq]
  generalize (lg_sl ([.ref (q 0), .int ss, .int ho, .int le]) ++ List.replicate (4 - (lg_sl ([.ref (q 0), .int ss, .int ho, .int le])).length) Slot.unset).toArray = ls at hl ⊢
  have hl : lv_has ls 4 [(0, .ref (q 0)), (1, .int ss), (2, .int ho), (3, .int le)] := hl
  refine lv_iload_n hx hb dX_topology_0 rfl (lv_at hl 1 rfl) ?_
  refine wt_roi (va_runS (As := [.int ss]) (rest := []) ⟨hx, hb, hml, hown, ht⟩ (c_X_isState l dC dI cI cZ cL ss) (va_cwS 1 ht (good_S m_220 m_221 m_1 m_222) rfl rfl rfl (by decide +kernel) ⟨Nat.le_of_ble_eq_true rfl, Nat.le_of_ble_eq_true rfl⟩) (wt_preS hK hN (hP.sub [] rfl)) rfl rfl hl.1 rfl (lv_room (Nat.le_of_ble_eq_true rfl)) dX_topology_1 ⟨Nat.le_of_ble_eq_true rfl, Nat.le_of_ble_eq_true rfl⟩) ?_
  refine lv_if_eq (tgt := 21) hx hb dX_topology_4 (by decide) (fun c_1 => ?_) (fun c_1 => ?_)
  · skip
    refine lv_iconst (v := nI 0) hx hb dX_topology_21 (by decide) ?_
    exact W.zret (v := nI 0) hx hb hr rfl (fun t ht hW => ⟨_, rfl, rfl, ht⟩) (fun q h => by cases h) dX_topology_22
  · skip
    refine lv_iload_n hx hb dX_topology_7 rfl (lv_at hl 2 rfl) ?_
    refine wt_roi (va_runS (As := [.int ho]) (rest := []) ⟨hx, hb, hml, hown, ht⟩ (c_X_isCost l dC dI cI cZ cL ho) (va_cwS 1 ht (good_S m_181 m_182 m_1 m_183) rfl rfl rfl (by decide +kernel) ⟨Nat.le_of_ble_eq_true rfl, Nat.le_of_ble_eq_true rfl⟩) (wt_preS hK hN (hP.sub [] rfl)) rfl rfl hl.1 rfl (lv_room (Nat.le_of_ble_eq_true rfl)) dX_topology_8 ⟨Nat.le_of_ble_eq_true rfl, Nat.le_of_ble_eq_true rfl⟩) ?_
    refine lv_if_eq (tgt := 21) hx hb dX_topology_11 (by decide) (fun c_2 => ?_) (fun c_2 => ?_)
    · skip
      refine lv_iconst (v := nI 0) hx hb dX_topology_21 (by decide) ?_
      exact W.zret (v := nI 0) hx hb hr rfl (fun t ht hW => ⟨_, rfl, rfl, ht⟩) (fun q h => by cases h) dX_topology_22
    · skip
      refine lv_iload_n hx hb dX_topology_14 rfl (lv_at hl 3 rfl) ?_
      refine wt_roi (va_runS (As := [.int le]) (rest := []) ⟨hx, hb, hml, hown, ht⟩ (c_X_isCost l dC dI cI cZ cL le) (va_cwS 1 ht (good_S m_181 m_182 m_1 m_183) rfl rfl rfl (by decide +kernel) ⟨Nat.le_of_ble_eq_true rfl, Nat.le_of_ble_eq_true rfl⟩) (wt_preS hK hN (hP.sub [] rfl)) rfl rfl hl.1 rfl (lv_room (Nat.le_of_ble_eq_true rfl)) dX_topology_15 ⟨Nat.le_of_ble_eq_true rfl, Nat.le_of_ble_eq_true rfl⟩) ?_
      refine lv_if_ne (tgt := 23) hx hb dX_topology_18 (by decide) (fun c_3 => ?_) (fun c_3 => ?_)
      · exact absurd hbad (by simp [c_1, c_2, c_3])
      · skip
        refine lv_iconst (v := nI 0) hx hb dX_topology_21 (by decide) ?_
        exact W.zret (v := nI 0) hx hb hr rfl (fun t ht hW => ⟨_, rfl, rfl, ht⟩) (fun q h => by cases h) dX_topology_22

set_option maxHeartbeats 4000000 in
set_option maxRecDepth 100000 in
theorem c_X_topology_1 (l : Launch) (dC : Nat → ClassId) (dI : Nat → Nat → Nat) (cI cZ cL : ClassId) (q : Nat → Nat) (sz0 : Nat) (ph : Nat → Nat) (pa : Nat → Nat) (ch : Nat → Nat) (en : Nat → Bool) (sz : Nat) (pr : Nat) (gc : Nat → Int32) (gb : Nat → Int32) (sc : Nat → Int32) (sh : Nat → Int32) (sl : Nat → Int32) (ct : Nat) (tok : Nat → Int64) (wt : Nat → Int64) (pn : Nat → Nat) (lt : Nat → Int64) (wp : Int64) (sd : Bool) (ss : Nat) (ho : Int32) (le : Int32) (hss : ss < 3) (hho : ¬ wt_rng ho 10000 = 0) (hle : ¬ wt_rng le 10000 = 0) : Met l yX_topology (Cond.code yX_topology cX_topology 4 (some .boolean) :: tb) ({ frames := 1, cells := 0, slots := 0, locals := 23 }) (va_Pc [.ref (q 0), .int (nI ss), .int ho, .int le] (wt_rw (dC, dI) vwCl [(cI, .int), (cZ, .boolean), (cL, .long)] (wX cI cZ cL q ph pa ch en sz pr gc gb sc sh sl ct tok wt pn lt wp sd) sz0)) (va_Qi (fun r (_ : Unit) => r = (nI 1)) (wt_B (dC, dI) vwCl (va_A (wX cI cZ cL q ph pa ch en sz pr gc gb sc sh sl ct tok wt pn lt wp sd) sz0) (wX cI cZ cL q ph pa ch en sz pr gc gb sc (upd sh ss ho) (upd sl ss le) ct tok wt pn lt wp false)) (va_A (wX cI cZ cL q ph pa ch en sz pr gc gb sc sh sl ct tok wt pn lt wp sd) sz0)) 0 0 (va_A (wX cI cZ cL q ph pa ch en sz pr gc gb sc sh sl ct tok wt pn lt wp sd) sz0) := by
  refine Met.ofW (cc := cX_topology) (maxL := 4) (ret := (some .boolean)) (by decide) rfl ?_
  intro p e s m args below meth c s₁ B hml hv
  obtain ⟨rfl, hsz, hP, hK, hN, hD0⟩ := hv
  have hx := B.exec
  have hb := B.bytes
  have hr := B.returns
  have hts := atoms_spec (ws := (Cond.code yX_topology cX_topology 4 (some .boolean) :: tb)) B.pre
  have ht : ∀ w ∈ tb, w.before _ s = true := fun w h => hts w (List.mem_cons_of_mem _ h)
  have hown : s.vm.findClass RX = some m.cls := findClass_of_methodNamed B.named
  have hlocks := B.notSynchronized
  subst hsz
  have hD := hD0.self (sz := s.heap.size)
  generalize hAe : va_A (wX cI cZ cL q ph pa ch en sz pr gc gb sc sh sl ct tok wt pn lt wp sd) s.heap.size = A at hD ⊢
  have hA : ∀ q : Nat, s.heap.size ≤ q → A q := fun q h => by rw [← hAe]; exact Or.inr h
  clear hAe hD0
  have hS : va_S A s.heap s.heap [] := va_S.rf
  have hl := lv_entry ([.ref (q 0), .int (nI ss), .int ho, .int le]) (n := 4) (Nat.le_of_ble_eq_true rfl)
  rw [lg_entry_eq]
  generalize (lg_sl ([.ref (q 0), .int (nI ss), .int ho, .int le]) ++ List.replicate (4 - (lg_sl ([.ref (q 0), .int (nI ss), .int ho, .int le])).length) Slot.unset).toArray = ls at hl ⊢
  have hl : lv_has ls 4 [(0, .ref (q 0)), (1, .int (nI ss)), (2, .int ho), (3, .int le)] := hl
  refine lv_iload_n hx hb dX_topology_0 rfl (lv_at hl 1 rfl) ?_
  refine wt_roi (va_runS (As := [.int (nI ss)]) (rest := []) ⟨hx, hb, hml, hown, ht⟩ (c_X_isState l dC dI cI cZ cL (nI ss)) (va_cwS 1 ht (good_S m_220 m_221 m_1 m_222) rfl rfl rfl (by decide +kernel) ⟨Nat.le_of_ble_eq_true rfl, Nat.le_of_ble_eq_true rfl⟩) (wt_preS hK hN (hP.sub [] rfl)) rfl rfl hl.1 rfl (lv_room (Nat.le_of_ble_eq_true rfl)) dX_topology_1 ⟨Nat.le_of_ble_eq_true rfl, Nat.le_of_ble_eq_true rfl⟩) ?_
  refine lv_if_eq (tgt := 21) hx hb dX_topology_4 (by decide) (fun c_1 => ?_) (fun c_1 => ?_)
  · exact absurd c_1 (wt_rn hss (by decide))
  · skip
    refine lv_iload_n hx hb dX_topology_7 rfl (lv_at hl 2 rfl) ?_
    refine wt_roi (va_runS (As := [.int ho]) (rest := []) ⟨hx, hb, hml, hown, ht⟩ (c_X_isCost l dC dI cI cZ cL ho) (va_cwS 1 ht (good_S m_181 m_182 m_1 m_183) rfl rfl rfl (by decide +kernel) ⟨Nat.le_of_ble_eq_true rfl, Nat.le_of_ble_eq_true rfl⟩) (wt_preS hK hN (hP.sub [] rfl)) rfl rfl hl.1 rfl (lv_room (Nat.le_of_ble_eq_true rfl)) dX_topology_8 ⟨Nat.le_of_ble_eq_true rfl, Nat.le_of_ble_eq_true rfl⟩) ?_
    refine lv_if_eq (tgt := 21) hx hb dX_topology_11 (by decide) (fun c_2 => ?_) (fun c_2 => ?_)
    · exact absurd c_2 hho
    · skip
      refine lv_iload_n hx hb dX_topology_14 rfl (lv_at hl 3 rfl) ?_
      refine wt_roi (va_runS (As := [.int le]) (rest := []) ⟨hx, hb, hml, hown, ht⟩ (c_X_isCost l dC dI cI cZ cL le) (va_cwS 1 ht (good_S m_181 m_182 m_1 m_183) rfl rfl rfl (by decide +kernel) ⟨Nat.le_of_ble_eq_true rfl, Nat.le_of_ble_eq_true rfl⟩) (wt_preS hK hN (hP.sub [] rfl)) rfl rfl hl.1 rfl (lv_room (Nat.le_of_ble_eq_true rfl)) dX_topology_15 ⟨Nat.le_of_ble_eq_true rfl, Nat.le_of_ble_eq_true rfl⟩) ?_
      refine lv_if_ne (tgt := 23) hx hb dX_topology_18 (by decide) (fun c_3 => ?_) (fun c_3 => ?_)
      · skip
        refine lv_aload_n hx hb dX_topology_23 rfl (lv_at hl 0 rfl) ?_
        refine va_get (D := (dC, dI)) (ci := 0) (v := .ref (q 9)) (C := RX) (T := TX) (N := 5) hx hb ht inX hown hK hP 0 rfl rfl 2 (by decide) (ht _ m_115) (fun _ h9 => h9) rfl dX_topology_24 ?_
        refine lv_iload_n hx hb dX_topology_27 rfl (lv_at hl 1 rfl) ?_
        refine lv_iload_n hx hb dX_topology_28 rfl (lv_at hl 2 rfl) ?_
        refine lv_iload_n hx hb dX_topology_29 rfl (lv_at hl 3 rfl) ?_
        refine wt_rwv (va_runV (As := [.int (nI ss), .int ho, .int le]) (rest := []) ⟨hx, hb, hml, hown, ht⟩ (c_S_setTopology l dC dI cI cZ cL q s.heap.size ph pa ch en sz pr gc gb sc sh sl ct tok wt pn lt wp sd ss ho le hss) (cwV 3 ht (good_V m_223 m_224 m_225 m_5 m_226) rfl rfl rfl (by decide +kernel) ⟨Nat.le_of_ble_eq_true rfl, Nat.le_of_ble_eq_true rfl⟩) (wt_preVw hK hN hP hD (va_recv hK hP (ci := 3) (q0 := 9) rfl rfl)) rfl rfl hl.1 rfl (lv_room (Nat.le_of_ble_eq_true rfl)) dX_topology_30 ⟨Nat.le_of_ble_eq_true rfl, Nat.le_of_ble_eq_true rfl⟩) hD hS hA (fun H locs hP hD hS => ?_)
        have hP : va_P (dC, dI) vwCl (wX cI cZ cL q ph pa ch en sz pr gc gb sc (upd sh ss ho) (upd sl ss le) ct tok wt pn lt wp sd) H := hP
        have hD : va_D A (wX cI cZ cL q ph pa ch en sz pr gc gb sc (upd sh ss ho) (upd sl ss le) ct tok wt pn lt wp sd) := hD
        refine lv_aload_n hx hb dX_topology_33 rfl (lv_at hl 0 rfl) ?_
        refine lv_iconst (v := nI 0) hx hb dX_topology_34 (by decide) ?_
        rw [show (.int (nI 0) : Value) = .int (wt_bI false) from rfl]
        refine va_put (D := (dC, dI)) (ci := 0) (v := .int (wt_bI false)) (ty := .boolean) (C := RX) (T := TX) (N := 5) hx hb ht inX tyX tyX_ok nmX hown hK hP hD hS 0 rfl rfl 4 (by decide) (ht _ m_117) (fun _ h9 => h9) rfl (by decide +kernel) (wt_bI_nar _) (by first | rfl | (cases false <;> rfl)) (Nat.le_of_ble_eq_true rfl) dX_topology_35 (fun H locs hP hD hS => ?_)
        have hP : va_P (dC, dI) vwCl (wX cI cZ cL q ph pa ch en sz pr gc gb sc (upd sh ss ho) (upd sl ss le) ct tok wt pn lt wp false) H := hP
        have hD : va_D A (wX cI cZ cL q ph pa ch en sz pr gc gb sc (upd sh ss ho) (upd sl ss le) ct tok wt pn lt wp false) := hD
        refine lv_iconst (v := nI 1) hx hb dX_topology_38 (by decide) ?_
        have hP9 : va_P (dC, dI) vwCl (wX cI cZ cL q ph pa ch en sz pr gc gb sc (upd sh ss ho) (upd sl ss le) ct tok wt pn lt wp false) H := by exact hP
        have hD9 : va_D A (wX cI cZ cL q ph pa ch en sz pr gc gb sc (upd sh ss ho) (upd sl ss le) ct tok wt pn lt wp false) := by exact hD
        exact W.zret (v := nI 1) hx hb hr rfl (fun t ht hW => ⟨⟨_, (), rfl, rfl, by rw [ht]; exact hP9, hD9⟩, hS.F ht⟩) hS.2.2 dX_topology_39
      · exact absurd c_3 hle

set_option maxHeartbeats 4000000 in
set_option maxRecDepth 100000 in
theorem c_X_frame_0 (l : Launch) (dC : Nat → ClassId) (dI : Nat → Nat → Nat) (cI cZ cL : ClassId) (q : Nat → Nat) (ph : Nat → Nat) (pa : Nat → Nat) (ch : Nat → Nat) (en : Nat → Bool) (sz : Nat) (pr : Nat) (gc : Nat → Int32) (gb : Nat → Int32) (sc : Nat → Int32) (sh : Nat → Int32) (sl : Nat → Int32) (ct : Nat) (tok : Nat → Int64) (wt : Nat → Int64) (pn : Nat → Nat) (lt : Nat → Int64) (wp : Int64) (sd : Bool) (hct : ct = 15) : Met l yX_frame (Cond.code yX_frame cX_frame 1 (some .int) :: tb) ({ frames := 1, cells := 0, slots := 0, locals := 20 }) (va_Pc [.ref (q 0)] (wt_ro (dC, dI) vwCl [(cI, .int), (cZ, .boolean), (cL, .long)] (wX cI cZ cL q ph pa ch en sz pr gc gb sc sh sl ct tok wt pn lt wp sd))) (vp_Si (fun r => r = (-1))) 0 0 (fun _ => False) := by
  refine Met.ofW (cc := cX_frame) (maxL := 1) (ret := (some .int)) (by decide) rfl ?_
  intro p e s m args below meth c s₁ B hml hv
  obtain ⟨rfl, hP, hK, hN⟩ := hv
  have hx := B.exec
  have hb := B.bytes
  have hr := B.returns
  have hts := atoms_spec (ws := (Cond.code yX_frame cX_frame 1 (some .int) :: tb)) B.pre
  have ht : ∀ w ∈ tb, w.before _ s = true := fun w h => hts w (List.mem_cons_of_mem _ h)
  have hown : s.vm.findClass RX = some m.cls := findClass_of_methodNamed B.named
  have hlocks := B.notSynchronized
  have hl := lv_entry ([.ref (q 0)]) (n := 1) (Nat.le_of_ble_eq_true rfl)
  rw [lg_entry_eq]
  generalize (lg_sl ([.ref (q 0)]) ++ List.replicate (1 - (lg_sl ([.ref (q 0)])).length) Slot.unset).toArray = ls at hl ⊢
  have hl : lv_has ls 1 [(0, .ref (q 0))] := hl
  refine lv_aload_n hx hb dX_frame_0 rfl (lv_at hl 0 rfl) ?_
  refine va_get (D := (dC, dI)) (ci := 0) (v := .ref (q 9)) (C := RX) (T := TX) (N := 5) hx hb ht inX hown hK hP 0 rfl rfl 2 (by decide) (ht _ m_115) (fun _ h9 => h9) rfl dX_frame_1 ?_
  refine wt_roi (va_runV (As := []) (rest := []) ⟨hx, hb, hml, hown, ht⟩ (c_S_count l dC dI cI cZ cL q ph pa ch en sz pr gc gb sc sh sl ct tok wt pn lt wp sd) (cwV 0 ht (good_V m_231 m_232 m_233 m_5 m_234) rfl rfl rfl (by decide +kernel) ⟨Nat.le_of_ble_eq_true rfl, Nat.le_of_ble_eq_true rfl⟩) (wt_preV hK hN hP (va_recv hK hP (ci := 3) (q0 := 9) rfl rfl)) rfl rfl hl.1 rfl (lv_room (Nat.le_of_ble_eq_true rfl)) dX_frame_4 ⟨Nat.le_of_ble_eq_true rfl, Nat.le_of_ble_eq_true rfl⟩) ?_
  refine lv_bipush (v := nI 15) hx hb dX_frame_7 (by decide) ?_
  refine wt_icmp_lt (tgt := 14) hx hb dX_frame_9 (by decide) (by omega) (by omega) (fun c_1 => ?_) (fun c_1 => ?_)
  · exact absurd c_1 (by omega)
  · skip
    refine lv_iconst (v := (-1)) hx hb dX_frame_12 (by decide) ?_
    exact W.iret (v := (-1)) hx hb hr (fun t ht hW => ⟨_, rfl, rfl, ht⟩) (fun q h => by cases h) dX_frame_13

set_option maxHeartbeats 4000000 in
set_option maxRecDepth 100000 in
theorem c_X_frame_1 (l : Launch) (dC : Nat → ClassId) (dI : Nat → Nat → Nat) (cI cZ cL : ClassId) (q : Nat → Nat) (sz0 : Nat) (ph : Nat → Nat) (pa : Nat → Nat) (ch : Nat → Nat) (en : Nat → Bool) (sz : Nat) (pr : Nat) (gc : Nat → Int32) (gb : Nat → Int32) (sc : Nat → Int32) (sh : Nat → Int32) (sl : Nat → Int32) (ct : Nat) (tok : Nat → Int64) (wt : Nat → Int64) (pn : Nat → Nat) (lt : Nat → Int64) (wp : Int64) (sd : Bool) (hct : ct ≤ 14) : Met l yX_frame (Cond.code yX_frame cX_frame 1 (some .int) :: tb) ({ frames := 1, cells := 0, slots := 0, locals := 21 }) (va_Pc [.ref (q 0)] (wt_rw (dC, dI) vwCl [(cI, .int), (cZ, .boolean), (cL, .long)] (wX cI cZ cL q ph pa ch en sz pr gc gb sc sh sl ct tok wt pn lt wp sd) sz0)) (va_Qi (fun r (_ : Unit) => r = (nI (ct + 1))) (wt_B (dC, dI) vwCl (va_A (wX cI cZ cL q ph pa ch en sz pr gc gb sc sh sl ct tok wt pn lt wp sd) sz0) (wX cI cZ cL q ph pa ch en sz pr gc gb (wt_z12 (ct * 12) sc) sh sl (ct + 1) tok wt pn lt wp false)) (va_A (wX cI cZ cL q ph pa ch en sz pr gc gb sc sh sl ct tok wt pn lt wp sd) sz0)) 0 0 (va_A (wX cI cZ cL q ph pa ch en sz pr gc gb sc sh sl ct tok wt pn lt wp sd) sz0) := by
  refine Met.ofW (cc := cX_frame) (maxL := 1) (ret := (some .int)) (by decide) rfl ?_
  intro p e s m args below meth c s₁ B hml hv
  obtain ⟨rfl, hsz, hP, hK, hN, hD0⟩ := hv
  have hx := B.exec
  have hb := B.bytes
  have hr := B.returns
  have hts := atoms_spec (ws := (Cond.code yX_frame cX_frame 1 (some .int) :: tb)) B.pre
  have ht : ∀ w ∈ tb, w.before _ s = true := fun w h => hts w (List.mem_cons_of_mem _ h)
  have hown : s.vm.findClass RX = some m.cls := findClass_of_methodNamed B.named
  have hlocks := B.notSynchronized
  subst hsz
  have hD := hD0.self (sz := s.heap.size)
  generalize hAe : va_A (wX cI cZ cL q ph pa ch en sz pr gc gb sc sh sl ct tok wt pn lt wp sd) s.heap.size = A at hD ⊢
  have hA : ∀ q : Nat, s.heap.size ≤ q → A q := fun q h => by rw [← hAe]; exact Or.inr h
  clear hAe hD0
  have hS : va_S A s.heap s.heap [] := va_S.rf
  have hl := lv_entry ([.ref (q 0)]) (n := 1) (Nat.le_of_ble_eq_true rfl)
  rw [lg_entry_eq]
  generalize (lg_sl ([.ref (q 0)]) ++ List.replicate (1 - (lg_sl ([.ref (q 0)])).length) Slot.unset).toArray = ls at hl ⊢
  have hl : lv_has ls 1 [(0, .ref (q 0))] := hl
  refine lv_aload_n hx hb dX_frame_0 rfl (lv_at hl 0 rfl) ?_
  refine va_get (D := (dC, dI)) (ci := 0) (v := .ref (q 9)) (C := RX) (T := TX) (N := 5) hx hb ht inX hown hK hP 0 rfl rfl 2 (by decide) (ht _ m_115) (fun _ h9 => h9) rfl dX_frame_1 ?_
  refine wt_roi (va_runV (As := []) (rest := []) ⟨hx, hb, hml, hown, ht⟩ (c_S_count l dC dI cI cZ cL q ph pa ch en sz pr gc gb sc sh sl ct tok wt pn lt wp sd) (cwV 0 ht (good_V m_231 m_232 m_233 m_5 m_234) rfl rfl rfl (by decide +kernel) ⟨Nat.le_of_ble_eq_true rfl, Nat.le_of_ble_eq_true rfl⟩) (wt_preV hK hN hP (va_recv hK hP (ci := 3) (q0 := 9) rfl rfl)) rfl rfl hl.1 rfl (lv_room (Nat.le_of_ble_eq_true rfl)) dX_frame_4 ⟨Nat.le_of_ble_eq_true rfl, Nat.le_of_ble_eq_true rfl⟩) ?_
  refine lv_bipush (v := nI 15) hx hb dX_frame_7 (by decide) ?_
  refine wt_icmp_lt (tgt := 14) hx hb dX_frame_9 (by decide) (by omega) (by omega) (fun c_1 => ?_) (fun c_1 => ?_)
  · skip
    refine lv_aload_n hx hb dX_frame_14 rfl (lv_at hl 0 rfl) ?_
    refine va_get (D := (dC, dI)) (ci := 0) (v := .ref (q 9)) (C := RX) (T := TX) (N := 5) hx hb ht inX hown hK hP 0 rfl rfl 2 (by decide) (ht _ m_115) (fun _ h9 => h9) rfl dX_frame_15 ?_
    refine wt_rwv (va_runV (As := []) (rest := []) ⟨hx, hb, hml, hown, ht⟩ (c_S_addFrame l dC dI cI cZ cL q s.heap.size ph pa ch en sz pr gc gb sc sh sl ct tok wt pn lt wp sd hct) (cwV 0 ht (good_V m_235 m_236 m_237 m_5 m_238) rfl rfl rfl (by decide +kernel) ⟨Nat.le_of_ble_eq_true rfl, Nat.le_of_ble_eq_true rfl⟩) (wt_preVw hK hN hP hD (va_recv hK hP (ci := 3) (q0 := 9) rfl rfl)) rfl rfl hl.1 rfl (lv_room (Nat.le_of_ble_eq_true rfl)) dX_frame_18 ⟨Nat.le_of_ble_eq_true rfl, Nat.le_of_ble_eq_true rfl⟩) hD hS hA (fun H locs hP hD hS => ?_)
    have hP : va_P (dC, dI) vwCl (wX cI cZ cL q ph pa ch en sz pr gc gb (wt_z12 (ct * 12) sc) sh sl (ct + 1) tok wt pn lt wp sd) H := hP
    have hD : va_D A (wX cI cZ cL q ph pa ch en sz pr gc gb (wt_z12 (ct * 12) sc) sh sl (ct + 1) tok wt pn lt wp sd) := hD
    refine lv_aload_n hx hb dX_frame_21 rfl (lv_at hl 0 rfl) ?_
    refine lv_iconst (v := nI 0) hx hb dX_frame_22 (by decide) ?_
    rw [show (.int (nI 0) : Value) = .int (wt_bI false) from rfl]
    refine va_put (D := (dC, dI)) (ci := 0) (v := .int (wt_bI false)) (ty := .boolean) (C := RX) (T := TX) (N := 5) hx hb ht inX tyX tyX_ok nmX hown hK hP hD hS 0 rfl rfl 4 (by decide) (ht _ m_117) (fun _ h9 => h9) rfl (by decide +kernel) (wt_bI_nar _) (by first | rfl | (cases false <;> rfl)) (Nat.le_of_ble_eq_true rfl) dX_frame_23 (fun H locs hP hD hS => ?_)
    have hP : va_P (dC, dI) vwCl (wX cI cZ cL q ph pa ch en sz pr gc gb (wt_z12 (ct * 12) sc) sh sl (ct + 1) tok wt pn lt wp false) H := hP
    have hD : va_D A (wX cI cZ cL q ph pa ch en sz pr gc gb (wt_z12 (ct * 12) sc) sh sl (ct + 1) tok wt pn lt wp false) := hD
    refine lv_aload_n hx hb dX_frame_26 rfl (lv_at hl 0 rfl) ?_
    refine va_get (D := (dC, dI)) (ci := 0) (v := .ref (q 9)) (C := RX) (T := TX) (N := 5) hx hb ht inX hown hK hP 0 rfl rfl 2 (by decide) (ht _ m_115) (fun _ h9 => h9) rfl dX_frame_27 ?_
    refine wt_roi (va_runV (As := []) (rest := []) ⟨hx, hb, hml, hown, ht⟩ (c_S_count l dC dI cI cZ cL q ph pa ch en sz pr gc gb (wt_z12 (ct * 12) sc) sh sl (ct + 1) tok wt pn lt wp false) (cwV 0 ht (good_V m_231 m_232 m_233 m_5 m_234) rfl rfl rfl (by decide +kernel) ⟨Nat.le_of_ble_eq_true rfl, Nat.le_of_ble_eq_true rfl⟩) (wt_preV hK hN hP (va_recv hK hP (ci := 3) (q0 := 9) rfl rfl)) rfl rfl hl.1 rfl (lv_room (Nat.le_of_ble_eq_true rfl)) dX_frame_30 ⟨Nat.le_of_ble_eq_true rfl, Nat.le_of_ble_eq_true rfl⟩) ?_
    have hP9 : va_P (dC, dI) vwCl (wX cI cZ cL q ph pa ch en sz pr gc gb (wt_z12 (ct * 12) sc) sh sl (ct + 1) tok wt pn lt wp false) H := by exact hP
    have hD9 : va_D A (wX cI cZ cL q ph pa ch en sz pr gc gb (wt_z12 (ct * 12) sc) sh sl (ct + 1) tok wt pn lt wp false) := by exact hD
    exact W.iret (v := nI (ct + 1)) hx hb hr (fun t ht hW => ⟨⟨_, (), rfl, rfl, by rw [ht]; exact hP9, hD9⟩, hS.F ht⟩) hS.2.2 dX_frame_33
  · exact absurd c_1 (by omega)

set_option maxHeartbeats 4000000 in
set_option maxRecDepth 100000 in
theorem c_X_drop_0 (l : Launch) (dC : Nat → ClassId) (dI : Nat → Nat → Nat) (cI cZ cL : ClassId) (q : Nat → Nat) (ph : Nat → Nat) (pa : Nat → Nat) (ch : Nat → Nat) (en : Nat → Bool) (sz : Nat) (pr : Nat) (gc : Nat → Int32) (gb : Nat → Int32) (sc : Nat → Int32) (sh : Nat → Int32) (sl : Nat → Int32) (ct : Nat) (tok : Nat → Int64) (wt : Nat → Int64) (pn : Nat → Nat) (lt : Nat → Int64) (wp : Int64) (sd : Bool) (hct : ct = 0) : Met l yX_drop (Cond.code yX_drop cX_drop 1 (some .boolean) :: tb) ({ frames := 1, cells := 0, slots := 0, locals := 20 }) (va_Pc [.ref (q 0)] (wt_ro (dC, dI) vwCl [(cI, .int), (cZ, .boolean), (cL, .long)] (wX cI cZ cL q ph pa ch en sz pr gc gb sc sh sl ct tok wt pn lt wp sd))) (vp_Si (fun r => r = (nI 0))) 0 0 (fun _ => False) := by
  refine Met.ofW (cc := cX_drop) (maxL := 1) (ret := (some .boolean)) (by decide) rfl ?_
  intro p e s m args below meth c s₁ B hml hv
  obtain ⟨rfl, hP, hK, hN⟩ := hv
  have hx := B.exec
  have hb := B.bytes
  have hr := B.returns
  have hts := atoms_spec (ws := (Cond.code yX_drop cX_drop 1 (some .boolean) :: tb)) B.pre
  have ht : ∀ w ∈ tb, w.before _ s = true := fun w h => hts w (List.mem_cons_of_mem _ h)
  have hown : s.vm.findClass RX = some m.cls := findClass_of_methodNamed B.named
  have hlocks := B.notSynchronized
  have hl := lv_entry ([.ref (q 0)]) (n := 1) (Nat.le_of_ble_eq_true rfl)
  rw [lg_entry_eq]
  generalize (lg_sl ([.ref (q 0)]) ++ List.replicate (1 - (lg_sl ([.ref (q 0)])).length) Slot.unset).toArray = ls at hl ⊢
  have hl : lv_has ls 1 [(0, .ref (q 0))] := hl
  refine lv_aload_n hx hb dX_drop_0 rfl (lv_at hl 0 rfl) ?_
  refine va_get (D := (dC, dI)) (ci := 0) (v := .ref (q 9)) (C := RX) (T := TX) (N := 5) hx hb ht inX hown hK hP 0 rfl rfl 2 (by decide) (ht _ m_115) (fun _ h9 => h9) rfl dX_drop_1 ?_
  refine wt_roi (va_runV (As := []) (rest := []) ⟨hx, hb, hml, hown, ht⟩ (c_S_count l dC dI cI cZ cL q ph pa ch en sz pr gc gb sc sh sl ct tok wt pn lt wp sd) (cwV 0 ht (good_V m_231 m_232 m_233 m_5 m_234) rfl rfl rfl (by decide +kernel) ⟨Nat.le_of_ble_eq_true rfl, Nat.le_of_ble_eq_true rfl⟩) (wt_preV hK hN hP (va_recv hK hP (ci := 3) (q0 := 9) rfl rfl)) rfl rfl hl.1 rfl (lv_room (Nat.le_of_ble_eq_true rfl)) dX_drop_4 ⟨Nat.le_of_ble_eq_true rfl, Nat.le_of_ble_eq_true rfl⟩) ?_
  refine wt_if_gt (tgt := 12) hx hb dX_drop_7 (by decide) (by omega) (fun c_1 => ?_) (fun c_1 => ?_)
  · exact absurd c_1 (by omega)
  · skip
    refine lv_iconst (v := nI 0) hx hb dX_drop_10 (by decide) ?_
    exact W.zret (v := nI 0) hx hb hr rfl (fun t ht hW => ⟨_, rfl, rfl, ht⟩) (fun q h => by cases h) dX_drop_11

set_option maxHeartbeats 4000000 in
set_option maxRecDepth 100000 in
theorem c_X_drop_1 (l : Launch) (dC : Nat → ClassId) (dI : Nat → Nat → Nat) (cI cZ cL : ClassId) (q : Nat → Nat) (sz0 : Nat) (ph : Nat → Nat) (pa : Nat → Nat) (ch : Nat → Nat) (en : Nat → Bool) (sz : Nat) (pr : Nat) (gc : Nat → Int32) (gb : Nat → Int32) (sc : Nat → Int32) (sh : Nat → Int32) (sl : Nat → Int32) (ct : Nat) (tok : Nat → Int64) (wt : Nat → Int64) (pn : Nat → Nat) (lt : Nat → Int64) (wp : Int64) (sd : Bool) (hct : 1 ≤ ct) (hct5 : ct ≤ 15) : Met l yX_drop (Cond.code yX_drop cX_drop 1 (some .boolean) :: tb) ({ frames := 1, cells := 0, slots := 0, locals := 20 }) (va_Pc [.ref (q 0)] (wt_rw (dC, dI) vwCl [(cI, .int), (cZ, .boolean), (cL, .long)] (wX cI cZ cL q ph pa ch en sz pr gc gb sc sh sl ct tok wt pn lt wp sd) sz0)) (va_Qi (fun r (_ : Unit) => r = (nI 1)) (wt_B (dC, dI) vwCl (va_A (wX cI cZ cL q ph pa ch en sz pr gc gb sc sh sl ct tok wt pn lt wp sd) sz0) (wX cI cZ cL q ph pa ch en sz pr gc gb sc sh sl (ct - 1) tok wt pn lt wp false)) (va_A (wX cI cZ cL q ph pa ch en sz pr gc gb sc sh sl ct tok wt pn lt wp sd) sz0)) 0 0 (va_A (wX cI cZ cL q ph pa ch en sz pr gc gb sc sh sl ct tok wt pn lt wp sd) sz0) := by
  refine Met.ofW (cc := cX_drop) (maxL := 1) (ret := (some .boolean)) (by decide) rfl ?_
  intro p e s m args below meth c s₁ B hml hv
  obtain ⟨rfl, hsz, hP, hK, hN, hD0⟩ := hv
  have hx := B.exec
  have hb := B.bytes
  have hr := B.returns
  have hts := atoms_spec (ws := (Cond.code yX_drop cX_drop 1 (some .boolean) :: tb)) B.pre
  have ht : ∀ w ∈ tb, w.before _ s = true := fun w h => hts w (List.mem_cons_of_mem _ h)
  have hown : s.vm.findClass RX = some m.cls := findClass_of_methodNamed B.named
  have hlocks := B.notSynchronized
  subst hsz
  have hD := hD0.self (sz := s.heap.size)
  generalize hAe : va_A (wX cI cZ cL q ph pa ch en sz pr gc gb sc sh sl ct tok wt pn lt wp sd) s.heap.size = A at hD ⊢
  have hA : ∀ q : Nat, s.heap.size ≤ q → A q := fun q h => by rw [← hAe]; exact Or.inr h
  clear hAe hD0
  have hS : va_S A s.heap s.heap [] := va_S.rf
  have hl := lv_entry ([.ref (q 0)]) (n := 1) (Nat.le_of_ble_eq_true rfl)
  rw [lg_entry_eq]
  generalize (lg_sl ([.ref (q 0)]) ++ List.replicate (1 - (lg_sl ([.ref (q 0)])).length) Slot.unset).toArray = ls at hl ⊢
  have hl : lv_has ls 1 [(0, .ref (q 0))] := hl
  refine lv_aload_n hx hb dX_drop_0 rfl (lv_at hl 0 rfl) ?_
  refine va_get (D := (dC, dI)) (ci := 0) (v := .ref (q 9)) (C := RX) (T := TX) (N := 5) hx hb ht inX hown hK hP 0 rfl rfl 2 (by decide) (ht _ m_115) (fun _ h9 => h9) rfl dX_drop_1 ?_
  refine wt_roi (va_runV (As := []) (rest := []) ⟨hx, hb, hml, hown, ht⟩ (c_S_count l dC dI cI cZ cL q ph pa ch en sz pr gc gb sc sh sl ct tok wt pn lt wp sd) (cwV 0 ht (good_V m_231 m_232 m_233 m_5 m_234) rfl rfl rfl (by decide +kernel) ⟨Nat.le_of_ble_eq_true rfl, Nat.le_of_ble_eq_true rfl⟩) (wt_preV hK hN hP (va_recv hK hP (ci := 3) (q0 := 9) rfl rfl)) rfl rfl hl.1 rfl (lv_room (Nat.le_of_ble_eq_true rfl)) dX_drop_4 ⟨Nat.le_of_ble_eq_true rfl, Nat.le_of_ble_eq_true rfl⟩) ?_
  refine wt_if_gt (tgt := 12) hx hb dX_drop_7 (by decide) (by omega) (fun c_1 => ?_) (fun c_1 => ?_)
  · skip
    refine lv_aload_n hx hb dX_drop_12 rfl (lv_at hl 0 rfl) ?_
    refine va_get (D := (dC, dI)) (ci := 0) (v := .ref (q 9)) (C := RX) (T := TX) (N := 5) hx hb ht inX hown hK hP 0 rfl rfl 2 (by decide) (ht _ m_115) (fun _ h9 => h9) rfl dX_drop_13 ?_
    refine wt_rwv (va_runV (As := []) (rest := []) ⟨hx, hb, hml, hown, ht⟩ (c_S_removeFrame l dC dI cI cZ cL q s.heap.size ph pa ch en sz pr gc gb sc sh sl ct tok wt pn lt wp sd hct) (cwV 0 ht (good_V m_243 m_244 m_245 m_5 m_246) rfl rfl rfl (by decide +kernel) ⟨Nat.le_of_ble_eq_true rfl, Nat.le_of_ble_eq_true rfl⟩) (wt_preVw hK hN hP hD (va_recv hK hP (ci := 3) (q0 := 9) rfl rfl)) rfl rfl hl.1 rfl (lv_room (Nat.le_of_ble_eq_true rfl)) dX_drop_16 ⟨Nat.le_of_ble_eq_true rfl, Nat.le_of_ble_eq_true rfl⟩) hD hS hA (fun H locs hP hD hS => ?_)
    have hP : va_P (dC, dI) vwCl (wX cI cZ cL q ph pa ch en sz pr gc gb sc sh sl (ct - 1) tok wt pn lt wp sd) H := hP
    have hD : va_D A (wX cI cZ cL q ph pa ch en sz pr gc gb sc sh sl (ct - 1) tok wt pn lt wp sd) := hD
    refine lv_aload_n hx hb dX_drop_19 rfl (lv_at hl 0 rfl) ?_
    refine lv_iconst (v := nI 0) hx hb dX_drop_20 (by decide) ?_
    rw [show (.int (nI 0) : Value) = .int (wt_bI false) from rfl]
    refine va_put (D := (dC, dI)) (ci := 0) (v := .int (wt_bI false)) (ty := .boolean) (C := RX) (T := TX) (N := 5) hx hb ht inX tyX tyX_ok nmX hown hK hP hD hS 0 rfl rfl 4 (by decide) (ht _ m_117) (fun _ h9 => h9) rfl (by decide +kernel) (wt_bI_nar _) (by first | rfl | (cases false <;> rfl)) (Nat.le_of_ble_eq_true rfl) dX_drop_21 (fun H locs hP hD hS => ?_)
    have hP : va_P (dC, dI) vwCl (wX cI cZ cL q ph pa ch en sz pr gc gb sc sh sl (ct - 1) tok wt pn lt wp false) H := hP
    have hD : va_D A (wX cI cZ cL q ph pa ch en sz pr gc gb sc sh sl (ct - 1) tok wt pn lt wp false) := hD
    refine lv_iconst (v := nI 1) hx hb dX_drop_24 (by decide) ?_
    have hP9 : va_P (dC, dI) vwCl (wX cI cZ cL q ph pa ch en sz pr gc gb sc sh sl (ct - 1) tok wt pn lt wp false) H := by exact hP
    have hD9 : va_D A (wX cI cZ cL q ph pa ch en sz pr gc gb sc sh sl (ct - 1) tok wt pn lt wp false) := by exact hD
    exact W.zret (v := nI 1) hx hb hr rfl (fun t ht hW => ⟨⟨_, (), rfl, rfl, by rw [ht]; exact hP9, hD9⟩, hS.F ht⟩) hS.2.2 dX_drop_25
  · exact absurd c_1 (by omega)

set_option maxHeartbeats 4000000 in
set_option maxRecDepth 100000 in
theorem c_X_sound_0 (l : Launch) (dC : Nat → ClassId) (dI : Nat → Nat → Nat) (cI cZ cL : ClassId) (q : Nat → Nat) (ph : Nat → Nat) (pa : Nat → Nat) (ch : Nat → Nat) (en : Nat → Bool) (sz : Nat) (pr : Nat) (gc : Nat → Int32) (gb : Nat → Int32) (sc : Nat → Int32) (sh : Nat → Int32) (sl : Nat → Int32) (ct : Nat) (tok : Nat → Int64) (wt : Nat → Int64) (pn : Nat → Nat) (lt : Nat → Int64) (wp : Int64) (sd : Bool) (tt : Int32) (pp : Int32) (ss : Int32) (co : Int32) (hbad : (decide (¬ wt_rng tt ct = 0) && (decide (¬ wt_rng pp 4 = 0) && (decide (¬ wt_rng ss 3 = 0) && decide (¬ wt_rng co 10000 = 0)))) = false) (hct : ct ≤ 15) : Met l yX_sound (Cond.code yX_sound cX_sound 5 (some .boolean) :: tb) ({ frames := 1, cells := 0, slots := 0, locals := 20 }) (va_Pc [.ref (q 0), .int tt, .int pp, .int ss, .int co] (wt_ro (dC, dI) vwCl [(cI, .int), (cZ, .boolean), (cL, .long)] (wX cI cZ cL q ph pa ch en sz pr gc gb sc sh sl ct tok wt pn lt wp sd))) (vp_Si (fun r => r = (nI 0))) 0 0 (fun _ => False) := by
  refine Met.ofW (cc := cX_sound) (maxL := 5) (ret := (some .boolean)) (by decide) rfl ?_
  intro p e s m args below meth c s₁ B hml hv
  obtain ⟨rfl, hP, hK, hN⟩ := hv
  have hx := B.exec
  have hb := B.bytes
  have hr := B.returns
  have hts := atoms_spec (ws := (Cond.code yX_sound cX_sound 5 (some .boolean) :: tb)) B.pre
  have ht : ∀ w ∈ tb, w.before _ s = true := fun w h => hts w (List.mem_cons_of_mem _ h)
  have hown : s.vm.findClass RX = some m.cls := findClass_of_methodNamed B.named
  have hlocks := B.notSynchronized
  have hl := lv_entry ([.ref (q 0), .int tt, .int pp, .int ss, .int co]) (n := 5) (Nat.le_of_ble_eq_true rfl)
  rw [lg_entry_eq]
  generalize (lg_sl ([.ref (q 0), .int tt, .int pp, .int ss, .int co]) ++ List.replicate (5 - (lg_sl ([.ref (q 0), .int tt, .int pp, .int ss, .int co])).length) Slot.unset).toArray = ls at hl ⊢
  have hl : lv_has ls 5 [(0, .ref (q 0)), (1, .int tt), (2, .int pp), (3, .int ss), (4, .int co)] := hl
  refine lv_iload_n hx hb dX_sound_0 rfl (lv_at hl 1 rfl) ?_
  refine lv_if_lt (tgt := 37) hx hb dX_sound_1 (by decide) (fun c_1 => ?_) (fun c_1 => ?_)
  · skip
    refine lv_iconst (v := nI 0) hx hb dX_sound_37 (by decide) ?_
    exact W.zret (v := nI 0) hx hb hr rfl (fun t ht hW => ⟨_, rfl, rfl, ht⟩) (fun q h => by cases h) dX_sound_38
  · skip
    refine lv_iload_n hx hb dX_sound_4 rfl (lv_at hl 1 rfl) ?_
    refine lv_aload_n hx hb dX_sound_5 rfl (lv_at hl 0 rfl) ?_
    refine va_get (D := (dC, dI)) (ci := 0) (v := .ref (q 9)) (C := RX) (T := TX) (N := 5) hx hb ht inX hown hK hP 0 rfl rfl 2 (by decide) (ht _ m_115) (fun _ h9 => h9) rfl dX_sound_6 ?_
    refine wt_roi (va_runV (As := []) (rest := [.int tt]) ⟨hx, hb, hml, hown, ht⟩ (c_S_count l dC dI cI cZ cL q ph pa ch en sz pr gc gb sc sh sl ct tok wt pn lt wp sd) (cwV 0 ht (good_V m_231 m_232 m_233 m_5 m_234) rfl rfl rfl (by decide +kernel) ⟨Nat.le_of_ble_eq_true rfl, Nat.le_of_ble_eq_true rfl⟩) (wt_preV hK hN hP (va_recv hK hP (ci := 3) (q0 := 9) rfl rfl)) rfl rfl hl.1 rfl (lv_room (Nat.le_of_ble_eq_true rfl)) dX_sound_9 ⟨Nat.le_of_ble_eq_true rfl, Nat.le_of_ble_eq_true rfl⟩) ?_
    refine lv_icmp_ge (tgt := 37) hx hb dX_sound_12 (by decide) (fun c_2 => ?_) (fun c_2 => ?_)
    · skip
      refine lv_iconst (v := nI 0) hx hb dX_sound_37 (by decide) ?_
      exact W.zret (v := nI 0) hx hb hr rfl (fun t ht hW => ⟨_, rfl, rfl, ht⟩) (fun q h => by cases h) dX_sound_38
    · skip
      refine lv_iload_n hx hb dX_sound_15 rfl (lv_at hl 2 rfl) ?_
      refine wt_roi (va_runS (As := [.int pp]) (rest := []) ⟨hx, hb, hml, hown, ht⟩ (c_X_isPhone l dC dI cI cZ cL pp) (va_cwS 1 ht (good_S m_139 m_140 m_1 m_141) rfl rfl rfl (by decide +kernel) ⟨Nat.le_of_ble_eq_true rfl, Nat.le_of_ble_eq_true rfl⟩) (wt_preS hK hN (hP.sub [] rfl)) rfl rfl hl.1 rfl (lv_room (Nat.le_of_ble_eq_true rfl)) dX_sound_16 ⟨Nat.le_of_ble_eq_true rfl, Nat.le_of_ble_eq_true rfl⟩) ?_
      refine lv_if_eq (tgt := 37) hx hb dX_sound_19 (by decide) (fun c_3 => ?_) (fun c_3 => ?_)
      · skip
        refine lv_iconst (v := nI 0) hx hb dX_sound_37 (by decide) ?_
        exact W.zret (v := nI 0) hx hb hr rfl (fun t ht hW => ⟨_, rfl, rfl, ht⟩) (fun q h => by cases h) dX_sound_38
      · skip
        refine lv_iload_n hx hb dX_sound_22 rfl (lv_at hl 3 rfl) ?_
        refine wt_roi (va_runS (As := [.int ss]) (rest := []) ⟨hx, hb, hml, hown, ht⟩ (c_X_isState l dC dI cI cZ cL ss) (va_cwS 1 ht (good_S m_220 m_221 m_1 m_222) rfl rfl rfl (by decide +kernel) ⟨Nat.le_of_ble_eq_true rfl, Nat.le_of_ble_eq_true rfl⟩) (wt_preS hK hN (hP.sub [] rfl)) rfl rfl hl.1 rfl (lv_room (Nat.le_of_ble_eq_true rfl)) dX_sound_23 ⟨Nat.le_of_ble_eq_true rfl, Nat.le_of_ble_eq_true rfl⟩) ?_
        refine lv_if_eq (tgt := 37) hx hb dX_sound_26 (by decide) (fun c_4 => ?_) (fun c_4 => ?_)
        · skip
          refine lv_iconst (v := nI 0) hx hb dX_sound_37 (by decide) ?_
          exact W.zret (v := nI 0) hx hb hr rfl (fun t ht hW => ⟨_, rfl, rfl, ht⟩) (fun q h => by cases h) dX_sound_38
        · skip
          refine lv_iload hx hb dX_sound_29 (lv_at hl 4 rfl) ?_
          refine wt_roi (va_runS (As := [.int co]) (rest := []) ⟨hx, hb, hml, hown, ht⟩ (c_X_isCost l dC dI cI cZ cL co) (va_cwS 1 ht (good_S m_181 m_182 m_1 m_183) rfl rfl rfl (by decide +kernel) ⟨Nat.le_of_ble_eq_true rfl, Nat.le_of_ble_eq_true rfl⟩) (wt_preS hK hN (hP.sub [] rfl)) rfl rfl hl.1 rfl (lv_room (Nat.le_of_ble_eq_true rfl)) dX_sound_31 ⟨Nat.le_of_ble_eq_true rfl, Nat.le_of_ble_eq_true rfl⟩) ?_
          refine lv_if_ne (tgt := 39) hx hb dX_sound_34 (by decide) (fun c_5 => ?_) (fun c_5 => ?_)
          · exact absurd hbad (by rw [show wt_rng tt ct = 1 from (wt_r1b c_1 c_2 (by omega)).symm.trans wt_nI1]; simp [c_3, c_4, c_5])
          · skip
            refine lv_iconst (v := nI 0) hx hb dX_sound_37 (by decide) ?_
            exact W.zret (v := nI 0) hx hb hr rfl (fun t ht hW => ⟨_, rfl, rfl, ht⟩) (fun q h => by cases h) dX_sound_38

set_option maxHeartbeats 4000000 in
set_option maxRecDepth 100000 in
theorem c_X_sound_1 (l : Launch) (dC : Nat → ClassId) (dI : Nat → Nat → Nat) (cI cZ cL : ClassId) (q : Nat → Nat) (sz0 : Nat) (ph : Nat → Nat) (pa : Nat → Nat) (ch : Nat → Nat) (en : Nat → Bool) (sz : Nat) (pr : Nat) (gc : Nat → Int32) (gb : Nat → Int32) (sc : Nat → Int32) (sh : Nat → Int32) (sl : Nat → Int32) (ct : Nat) (tok : Nat → Int64) (wt : Nat → Int64) (pn : Nat → Nat) (lt : Nat → Int64) (wp : Int64) (sd : Bool) (tt : Nat) (pp : Nat) (ss : Nat) (co : Int32) (htt : tt < ct) (hct : ct ≤ 15) (hpp : pp < 4) (hss : ss < 3) (hco : ¬ wt_rng co 10000 = 0) : Met l yX_sound (Cond.code yX_sound cX_sound 5 (some .boolean) :: tb) ({ frames := 1, cells := 0, slots := 0, locals := 24 }) (va_Pc [.ref (q 0), .int (nI tt), .int (nI pp), .int (nI ss), .int co] (wt_rw (dC, dI) vwCl [(cI, .int), (cZ, .boolean), (cL, .long)] (wX cI cZ cL q ph pa ch en sz pr gc gb sc sh sl ct tok wt pn lt wp sd) sz0)) (va_Qi (fun r (_ : Unit) => r = (nI 1)) (wt_B (dC, dI) vwCl (va_A (wX cI cZ cL q ph pa ch en sz pr gc gb sc sh sl ct tok wt pn lt wp sd) sz0) (wX cI cZ cL q ph pa ch en sz pr gc gb (upd sc (tt * 12 + pp * 3 + ss) co) sh sl ct tok wt pn lt wp false)) (va_A (wX cI cZ cL q ph pa ch en sz pr gc gb sc sh sl ct tok wt pn lt wp sd) sz0)) 0 0 (va_A (wX cI cZ cL q ph pa ch en sz pr gc gb sc sh sl ct tok wt pn lt wp sd) sz0) := by
  refine Met.ofW (cc := cX_sound) (maxL := 5) (ret := (some .boolean)) (by decide) rfl ?_
  intro p e s m args below meth c s₁ B hml hv
  obtain ⟨rfl, hsz, hP, hK, hN, hD0⟩ := hv
  have hx := B.exec
  have hb := B.bytes
  have hr := B.returns
  have hts := atoms_spec (ws := (Cond.code yX_sound cX_sound 5 (some .boolean) :: tb)) B.pre
  have ht : ∀ w ∈ tb, w.before _ s = true := fun w h => hts w (List.mem_cons_of_mem _ h)
  have hown : s.vm.findClass RX = some m.cls := findClass_of_methodNamed B.named
  have hlocks := B.notSynchronized
  subst hsz
  have hD := hD0.self (sz := s.heap.size)
  generalize hAe : va_A (wX cI cZ cL q ph pa ch en sz pr gc gb sc sh sl ct tok wt pn lt wp sd) s.heap.size = A at hD ⊢
  have hA : ∀ q : Nat, s.heap.size ≤ q → A q := fun q h => by rw [← hAe]; exact Or.inr h
  clear hAe hD0
  have hS : va_S A s.heap s.heap [] := va_S.rf
  have hl := lv_entry ([.ref (q 0), .int (nI tt), .int (nI pp), .int (nI ss), .int co]) (n := 5) (Nat.le_of_ble_eq_true rfl)
  rw [lg_entry_eq]
  generalize (lg_sl ([.ref (q 0), .int (nI tt), .int (nI pp), .int (nI ss), .int co]) ++ List.replicate (5 - (lg_sl ([.ref (q 0), .int (nI tt), .int (nI pp), .int (nI ss), .int co])).length) Slot.unset).toArray = ls at hl ⊢
  have hl : lv_has ls 5 [(0, .ref (q 0)), (1, .int (nI tt)), (2, .int (nI pp)), (3, .int (nI ss)), (4, .int co)] := hl
  refine lv_iload_n hx hb dX_sound_0 rfl (lv_at hl 1 rfl) ?_
  refine wt_if_lt (tgt := 37) hx hb dX_sound_1 (by decide) (by omega) ?_
  refine lv_iload_n hx hb dX_sound_4 rfl (lv_at hl 1 rfl) ?_
  refine lv_aload_n hx hb dX_sound_5 rfl (lv_at hl 0 rfl) ?_
  refine va_get (D := (dC, dI)) (ci := 0) (v := .ref (q 9)) (C := RX) (T := TX) (N := 5) hx hb ht inX hown hK hP 0 rfl rfl 2 (by decide) (ht _ m_115) (fun _ h9 => h9) rfl dX_sound_6 ?_
  refine wt_roi (va_runV (As := []) (rest := [.int (nI tt)]) ⟨hx, hb, hml, hown, ht⟩ (c_S_count l dC dI cI cZ cL q ph pa ch en sz pr gc gb sc sh sl ct tok wt pn lt wp sd) (cwV 0 ht (good_V m_231 m_232 m_233 m_5 m_234) rfl rfl rfl (by decide +kernel) ⟨Nat.le_of_ble_eq_true rfl, Nat.le_of_ble_eq_true rfl⟩) (wt_preV hK hN hP (va_recv hK hP (ci := 3) (q0 := 9) rfl rfl)) rfl rfl hl.1 rfl (lv_room (Nat.le_of_ble_eq_true rfl)) dX_sound_9 ⟨Nat.le_of_ble_eq_true rfl, Nat.le_of_ble_eq_true rfl⟩) ?_
  refine wt_icmp_ge (tgt := 37) hx hb dX_sound_12 (by decide) (by omega) (by omega) (fun c_2 => ?_) (fun c_2 => ?_)
  · exact absurd c_2 (by omega)
  · skip
    refine lv_iload_n hx hb dX_sound_15 rfl (lv_at hl 2 rfl) ?_
    refine wt_roi (va_runS (As := [.int (nI pp)]) (rest := []) ⟨hx, hb, hml, hown, ht⟩ (c_X_isPhone l dC dI cI cZ cL (nI pp)) (va_cwS 1 ht (good_S m_139 m_140 m_1 m_141) rfl rfl rfl (by decide +kernel) ⟨Nat.le_of_ble_eq_true rfl, Nat.le_of_ble_eq_true rfl⟩) (wt_preS hK hN (hP.sub [] rfl)) rfl rfl hl.1 rfl (lv_room (Nat.le_of_ble_eq_true rfl)) dX_sound_16 ⟨Nat.le_of_ble_eq_true rfl, Nat.le_of_ble_eq_true rfl⟩) ?_
    refine lv_if_eq (tgt := 37) hx hb dX_sound_19 (by decide) (fun c_3 => ?_) (fun c_3 => ?_)
    · exact absurd c_3 (wt_rn hpp (by decide))
    · skip
      refine lv_iload_n hx hb dX_sound_22 rfl (lv_at hl 3 rfl) ?_
      refine wt_roi (va_runS (As := [.int (nI ss)]) (rest := []) ⟨hx, hb, hml, hown, ht⟩ (c_X_isState l dC dI cI cZ cL (nI ss)) (va_cwS 1 ht (good_S m_220 m_221 m_1 m_222) rfl rfl rfl (by decide +kernel) ⟨Nat.le_of_ble_eq_true rfl, Nat.le_of_ble_eq_true rfl⟩) (wt_preS hK hN (hP.sub [] rfl)) rfl rfl hl.1 rfl (lv_room (Nat.le_of_ble_eq_true rfl)) dX_sound_23 ⟨Nat.le_of_ble_eq_true rfl, Nat.le_of_ble_eq_true rfl⟩) ?_
      refine lv_if_eq (tgt := 37) hx hb dX_sound_26 (by decide) (fun c_4 => ?_) (fun c_4 => ?_)
      · exact absurd c_4 (wt_rn hss (by decide))
      · skip
        refine lv_iload hx hb dX_sound_29 (lv_at hl 4 rfl) ?_
        refine wt_roi (va_runS (As := [.int co]) (rest := []) ⟨hx, hb, hml, hown, ht⟩ (c_X_isCost l dC dI cI cZ cL co) (va_cwS 1 ht (good_S m_181 m_182 m_1 m_183) rfl rfl rfl (by decide +kernel) ⟨Nat.le_of_ble_eq_true rfl, Nat.le_of_ble_eq_true rfl⟩) (wt_preS hK hN (hP.sub [] rfl)) rfl rfl hl.1 rfl (lv_room (Nat.le_of_ble_eq_true rfl)) dX_sound_31 ⟨Nat.le_of_ble_eq_true rfl, Nat.le_of_ble_eq_true rfl⟩) ?_
        refine lv_if_ne (tgt := 39) hx hb dX_sound_34 (by decide) (fun c_5 => ?_) (fun c_5 => ?_)
        · skip
          refine lv_aload_n hx hb dX_sound_39 rfl (lv_at hl 0 rfl) ?_
          refine va_get (D := (dC, dI)) (ci := 0) (v := .ref (q 9)) (C := RX) (T := TX) (N := 5) hx hb ht inX hown hK hP 0 rfl rfl 2 (by decide) (ht _ m_115) (fun _ h9 => h9) rfl dX_sound_40 ?_
          refine lv_iload_n hx hb dX_sound_43 rfl (lv_at hl 1 rfl) ?_
          refine lv_iload_n hx hb dX_sound_44 rfl (lv_at hl 2 rfl) ?_
          refine lv_iload_n hx hb dX_sound_45 rfl (lv_at hl 3 rfl) ?_
          refine lv_iload hx hb dX_sound_46 (lv_at hl 4 rfl) ?_
          refine wt_rwv (va_runV (As := [.int (nI tt), .int (nI pp), .int (nI ss), .int co]) (rest := []) ⟨hx, hb, hml, hown, ht⟩ (c_S_setCost l dC dI cI cZ cL q s.heap.size ph pa ch en sz pr gc gb sc sh sl ct tok wt pn lt wp sd tt pp ss co (by omega) hpp hss) (cwV 4 ht (good_V m_251 m_252 m_253 m_5 m_254) rfl rfl rfl (by decide +kernel) ⟨Nat.le_of_ble_eq_true rfl, Nat.le_of_ble_eq_true rfl⟩) (wt_preVw hK hN hP hD (va_recv hK hP (ci := 3) (q0 := 9) rfl rfl)) rfl rfl hl.1 rfl (lv_room (Nat.le_of_ble_eq_true rfl)) dX_sound_48 ⟨Nat.le_of_ble_eq_true rfl, Nat.le_of_ble_eq_true rfl⟩) hD hS hA (fun H locs hP hD hS => ?_)
          have hP : va_P (dC, dI) vwCl (wX cI cZ cL q ph pa ch en sz pr gc gb (upd sc (tt * 12 + pp * 3 + ss) co) sh sl ct tok wt pn lt wp sd) H := hP
          have hD : va_D A (wX cI cZ cL q ph pa ch en sz pr gc gb (upd sc (tt * 12 + pp * 3 + ss) co) sh sl ct tok wt pn lt wp sd) := hD
          refine lv_aload_n hx hb dX_sound_51 rfl (lv_at hl 0 rfl) ?_
          refine lv_iconst (v := nI 0) hx hb dX_sound_52 (by decide) ?_
          rw [show (.int (nI 0) : Value) = .int (wt_bI false) from rfl]
          refine va_put (D := (dC, dI)) (ci := 0) (v := .int (wt_bI false)) (ty := .boolean) (C := RX) (T := TX) (N := 5) hx hb ht inX tyX tyX_ok nmX hown hK hP hD hS 0 rfl rfl 4 (by decide) (ht _ m_117) (fun _ h9 => h9) rfl (by decide +kernel) (wt_bI_nar _) (by first | rfl | (cases false <;> rfl)) (Nat.le_of_ble_eq_true rfl) dX_sound_53 (fun H locs hP hD hS => ?_)
          have hP : va_P (dC, dI) vwCl (wX cI cZ cL q ph pa ch en sz pr gc gb (upd sc (tt * 12 + pp * 3 + ss) co) sh sl ct tok wt pn lt wp false) H := hP
          have hD : va_D A (wX cI cZ cL q ph pa ch en sz pr gc gb (upd sc (tt * 12 + pp * 3 + ss) co) sh sl ct tok wt pn lt wp false) := hD
          refine lv_iconst (v := nI 1) hx hb dX_sound_56 (by decide) ?_
          have hP9 : va_P (dC, dI) vwCl (wX cI cZ cL q ph pa ch en sz pr gc gb (upd sc (tt * 12 + pp * 3 + ss) co) sh sl ct tok wt pn lt wp false) H := by exact hP
          have hD9 : va_D A (wX cI cZ cL q ph pa ch en sz pr gc gb (upd sc (tt * 12 + pp * 3 + ss) co) sh sl ct tok wt pn lt wp false) := by exact hD
          exact W.zret (v := nI 1) hx hb hr rfl (fun t ht hW => ⟨⟨_, (), rfl, rfl, by rw [ht]; exact hP9, hD9⟩, hS.F ht⟩) hS.2.2 dX_sound_57
        · exact absurd c_5 hco
