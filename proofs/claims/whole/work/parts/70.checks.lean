abbrev wX (cI cZ cL : ClassId) (q : Nat → Nat) (ph : Nat → Nat) (pa : Nat → Nat) (ch : Nat → Nat) (en : Nat → Bool) (sz : Nat) (pr : Nat) (gc : Nat → Int32) (gb : Nat → Int32) (sc : Nat → Int32) (sh : Nat → Int32) (sl : Nat → Int32) (ct : Nat) (tok : Nat → Int64) (wt : Nat → Int64) (pn : Nat → Nat) (lt : Nat → Int64) (wp : Int64) (sd : Bool) : va_W := [(q 0, .inr (0, [.ref (q 1), .ref (q 6), .ref (q 9), .ref (q 13), .int (wt_bI sd)])), (q 1, .inr (1, [.ref (q 2), .ref (q 3), .ref (q 4), .ref (q 5), .int (nI sz), .int (nI pr)])), (q 2, .inl (cI, 25, .inl (fun j => nI (ph j)))), (q 3, .inl (cI, 25, .inl (fun j => nI (pa j)))), (q 4, .inl (cI, 100, .inl (fun j => nI (ch j)))), (q 5, .inl (cZ, 100, .inl (fun j => wt_bI (en j)))), (q 6, .inr (2, [.ref (q 7), .ref (q 8)])), (q 7, .inl (cI, 216, .inl gc)), (q 8, .inl (cI, 216, .inl gb)), (q 9, .inr (3, [.ref (q 10), .ref (q 11), .ref (q 12), .int (nI ct)])), (q 10, .inl (cI, 180, .inl sc)), (q 11, .inl (cI, 3, .inl sh)), (q 12, .inl (cI, 3, .inl sl)), (q 13, .inr (4, [.ref (q 1), .ref (q 6), .ref (q 9), .ref (q 14), .ref (q 15), .ref (q 16), .ref (q 17), .long wp])), (q 14, .inl (cL, 1875, .inr (.inl tok))), (q 15, .inl (cL, 25, .inr (.inl wt))), (q 16, .inl (cI, 16, .inl (fun j => nI (pn j)))), (q 17, .inl (cL, 16, .inr (.inl lt)))]

abbrev wM (cI cZ cL : ClassId) (q : Nat → Nat) (kn : Nat → Bool) (co : Nat → Int32) (bo : Nat → Int32) (mn : Nat) (wd : Nat → Nat) (zs : Nat → Nat) (fp : Nat → Int32) (ho : Nat → Int32) (lv : Nat → Int32) (fr : Nat) (so : Nat → Int32) (ea : Nat → Int32) (dn : Nat → Int32) (cd : Nat → Int32) (nx : Nat → Int32) (nd : Nat → Int32) (nc : Nat → Int32) (al : Int32) (wo : Int32) (wh : Int32) : va_W := [(q 0, .inr (5, [.ref (q 1), .ref (q 2), .ref (q 3), .int (nI mn), .ref (q 4), .ref (q 5), .ref (q 6), .ref (q 7), .ref (q 8), .int (nI fr), .ref (q 9), .ref (q 10), .ref (q 11), .ref (q 12), .ref (q 13), .ref (q 14), .ref (q 15), .int al, .int wo, .int wh])), (q 1, .inl (cZ, 155, .inl (fun j => wt_bI (kn j)))), (q 2, .inl (cI, 155, .inl co)), (q 3, .inl (cI, 155, .inl bo)), (q 4, .inl (cI, 8, .inl (fun j => nI (wd j)))), (q 5, .inl (cI, 8, .inl (fun j => nI (zs j)))), (q 6, .inl (cI, 24, .inl fp)), (q 7, .inl (cI, 3, .inl ho)), (q 8, .inl (cI, 3, .inl lv)), (q 9, .inl (cI, 180, .inl so)), (q 10, .inl (cI, 1800, .inl ea)), (q 11, .inl (cI, 1800, .inl dn)), (q 12, .inl (cI, 1800, .inl cd)), (q 13, .inl (cI, 1800, .inl nx)), (q 14, .inl (cI, 1800, .inl nd)), (q 15, .inl (cI, 1800, .inl nc))]

set_option maxHeartbeats 4000000 in
set_option maxRecDepth 100000 in
theorem c_X_isWord (l : Launch) (dC : Nat → ClassId) (dI : Nat → Nat → Nat) (cI cZ cL : ClassId) (ww : Int32) : Met l yX_isWord (Cond.code yX_isWord cX_isWord 1 (some .boolean) :: tb) ({ frames := 0, cells := 0, slots := 0, locals := 0 }) (va_Pc [.int ww] (wt_ro (dC, dI) vwCl [(cI, .int), (cZ, .boolean), (cL, .long)] [])) (vp_Si (fun r => r = (wt_rng ww 4))) 0 0 (fun _ => False) := by
  refine Met.ofW (cc := cX_isWord) (maxL := 1) (ret := (some .boolean)) (by decide) rfl ?_
  intro p e s m args below meth c s₁ B hml hv
  obtain ⟨rfl, hP, hK, hN⟩ := hv
  have hx := B.exec
  have hb := B.bytes
  have hr := B.returns
  have hts := atoms_spec (ws := (Cond.code yX_isWord cX_isWord 1 (some .boolean) :: tb)) B.pre
  have ht : ∀ w ∈ tb, w.before _ s = true := fun w h => hts w (List.mem_cons_of_mem _ h)
  have hown : s.vm.findClass RX = some m.cls := findClass_of_methodNamed B.named
  have hlocks := B.notSynchronized
  have hl := lv_entry ([.int ww]) (n := 1) (Nat.le_of_ble_eq_true rfl)
  rw [lg_entry_eq]
  generalize (lg_sl ([.int ww]) ++ List.replicate (1 - (lg_sl ([.int ww])).length) Slot.unset).toArray = ls at hl ⊢
  have hl : lv_has ls 1 [(0, .int ww)] := hl
  refine lv_iload_n hx hb dX_isWord_0 rfl (lv_at hl 0 rfl) ?_
  refine lv_if_lt (tgt := 13) hx hb dX_isWord_1 (by decide) (fun c_1 => ?_) (fun c_1 => ?_)
  · skip
    refine lv_iconst (v := nI 0) hx hb dX_isWord_13 (by decide) ?_
    exact W.zret (v := nI 0) hx hb hr rfl (fun t ht hW => ⟨_, rfl, (by first | exact wt_r1b c_1 trivial (by decide) | exact wt_r0b trivial (by decide) | exact wt_r0a c_1), ht⟩) (fun q h => by cases h) dX_isWord_14
  · skip
    refine lv_iload_n hx hb dX_isWord_4 rfl (lv_at hl 0 rfl) ?_
    refine lv_iconst (v := nI 4) hx hb dX_isWord_5 (by decide) ?_
    refine lv_icmp_ge (tgt := 13) hx hb dX_isWord_6 (by decide) (fun c_2 => ?_) (fun c_2 => ?_)
    · skip
      refine lv_iconst (v := nI 0) hx hb dX_isWord_13 (by decide) ?_
      exact W.zret (v := nI 0) hx hb hr rfl (fun t ht hW => ⟨_, rfl, (by first | exact wt_r1b c_1 c_2 (by decide) | exact wt_r0b c_2 (by decide) | exact wt_r0a c_1), ht⟩) (fun q h => by cases h) dX_isWord_14
    · skip
      refine lv_iconst (v := nI 1) hx hb dX_isWord_9 (by decide) ?_
      refine lv_goto (tgt := 14) hx hb dX_isWord_10 (by decide) ?_
      exact W.zret (v := nI 1) hx hb hr rfl (fun t ht hW => ⟨_, rfl, (by first | exact wt_r1b c_1 c_2 (by decide) | exact wt_r0b c_2 (by decide) | exact wt_r0a c_1), ht⟩) (fun q h => by cases h) dX_isWord_14

set_option maxHeartbeats 4000000 in
set_option maxRecDepth 100000 in
theorem c_X_isPhone (l : Launch) (dC : Nat → ClassId) (dI : Nat → Nat → Nat) (cI cZ cL : ClassId) (ww : Int32) : Met l yX_isPhone (Cond.code yX_isPhone cX_isPhone 1 (some .boolean) :: tb) ({ frames := 0, cells := 0, slots := 0, locals := 0 }) (va_Pc [.int ww] (wt_ro (dC, dI) vwCl [(cI, .int), (cZ, .boolean), (cL, .long)] [])) (vp_Si (fun r => r = (wt_rng ww 4))) 0 0 (fun _ => False) := by
  refine Met.ofW (cc := cX_isPhone) (maxL := 1) (ret := (some .boolean)) (by decide) rfl ?_
  intro p e s m args below meth c s₁ B hml hv
  obtain ⟨rfl, hP, hK, hN⟩ := hv
  have hx := B.exec
  have hb := B.bytes
  have hr := B.returns
  have hts := atoms_spec (ws := (Cond.code yX_isPhone cX_isPhone 1 (some .boolean) :: tb)) B.pre
  have ht : ∀ w ∈ tb, w.before _ s = true := fun w h => hts w (List.mem_cons_of_mem _ h)
  have hown : s.vm.findClass RX = some m.cls := findClass_of_methodNamed B.named
  have hlocks := B.notSynchronized
  have hl := lv_entry ([.int ww]) (n := 1) (Nat.le_of_ble_eq_true rfl)
  rw [lg_entry_eq]
  generalize (lg_sl ([.int ww]) ++ List.replicate (1 - (lg_sl ([.int ww])).length) Slot.unset).toArray = ls at hl ⊢
  have hl : lv_has ls 1 [(0, .int ww)] := hl
  refine lv_iload_n hx hb dX_isPhone_0 rfl (lv_at hl 0 rfl) ?_
  refine lv_if_lt (tgt := 13) hx hb dX_isPhone_1 (by decide) (fun c_1 => ?_) (fun c_1 => ?_)
  · skip
    refine lv_iconst (v := nI 0) hx hb dX_isPhone_13 (by decide) ?_
    exact W.zret (v := nI 0) hx hb hr rfl (fun t ht hW => ⟨_, rfl, (by first | exact wt_r1b c_1 trivial (by decide) | exact wt_r0b trivial (by decide) | exact wt_r0a c_1), ht⟩) (fun q h => by cases h) dX_isPhone_14
  · skip
    refine lv_iload_n hx hb dX_isPhone_4 rfl (lv_at hl 0 rfl) ?_
    refine lv_iconst (v := nI 4) hx hb dX_isPhone_5 (by decide) ?_
    refine lv_icmp_ge (tgt := 13) hx hb dX_isPhone_6 (by decide) (fun c_2 => ?_) (fun c_2 => ?_)
    · skip
      refine lv_iconst (v := nI 0) hx hb dX_isPhone_13 (by decide) ?_
      exact W.zret (v := nI 0) hx hb hr rfl (fun t ht hW => ⟨_, rfl, (by first | exact wt_r1b c_1 c_2 (by decide) | exact wt_r0b c_2 (by decide) | exact wt_r0a c_1), ht⟩) (fun q h => by cases h) dX_isPhone_14
    · skip
      refine lv_iconst (v := nI 1) hx hb dX_isPhone_9 (by decide) ?_
      refine lv_goto (tgt := 14) hx hb dX_isPhone_10 (by decide) ?_
      exact W.zret (v := nI 1) hx hb hr rfl (fun t ht hW => ⟨_, rfl, (by first | exact wt_r1b c_1 c_2 (by decide) | exact wt_r0b c_2 (by decide) | exact wt_r0a c_1), ht⟩) (fun q h => by cases h) dX_isPhone_14

set_option maxHeartbeats 4000000 in
set_option maxRecDepth 100000 in
theorem c_X_isState (l : Launch) (dC : Nat → ClassId) (dI : Nat → Nat → Nat) (cI cZ cL : ClassId) (ww : Int32) : Met l yX_isState (Cond.code yX_isState cX_isState 1 (some .boolean) :: tb) ({ frames := 0, cells := 0, slots := 0, locals := 0 }) (va_Pc [.int ww] (wt_ro (dC, dI) vwCl [(cI, .int), (cZ, .boolean), (cL, .long)] [])) (vp_Si (fun r => r = (wt_rng ww 3))) 0 0 (fun _ => False) := by
  refine Met.ofW (cc := cX_isState) (maxL := 1) (ret := (some .boolean)) (by decide) rfl ?_
  intro p e s m args below meth c s₁ B hml hv
  obtain ⟨rfl, hP, hK, hN⟩ := hv
  have hx := B.exec
  have hb := B.bytes
  have hr := B.returns
  have hts := atoms_spec (ws := (Cond.code yX_isState cX_isState 1 (some .boolean) :: tb)) B.pre
  have ht : ∀ w ∈ tb, w.before _ s = true := fun w h => hts w (List.mem_cons_of_mem _ h)
  have hown : s.vm.findClass RX = some m.cls := findClass_of_methodNamed B.named
  have hlocks := B.notSynchronized
  have hl := lv_entry ([.int ww]) (n := 1) (Nat.le_of_ble_eq_true rfl)
  rw [lg_entry_eq]
  generalize (lg_sl ([.int ww]) ++ List.replicate (1 - (lg_sl ([.int ww])).length) Slot.unset).toArray = ls at hl ⊢
  have hl : lv_has ls 1 [(0, .int ww)] := hl
  refine lv_iload_n hx hb dX_isState_0 rfl (lv_at hl 0 rfl) ?_
  refine lv_if_lt (tgt := 13) hx hb dX_isState_1 (by decide) (fun c_1 => ?_) (fun c_1 => ?_)
  · skip
    refine lv_iconst (v := nI 0) hx hb dX_isState_13 (by decide) ?_
    exact W.zret (v := nI 0) hx hb hr rfl (fun t ht hW => ⟨_, rfl, (by first | exact wt_r1b c_1 trivial (by decide) | exact wt_r0b trivial (by decide) | exact wt_r0a c_1), ht⟩) (fun q h => by cases h) dX_isState_14
  · skip
    refine lv_iload_n hx hb dX_isState_4 rfl (lv_at hl 0 rfl) ?_
    refine lv_iconst (v := nI 3) hx hb dX_isState_5 (by decide) ?_
    refine lv_icmp_ge (tgt := 13) hx hb dX_isState_6 (by decide) (fun c_2 => ?_) (fun c_2 => ?_)
    · skip
      refine lv_iconst (v := nI 0) hx hb dX_isState_13 (by decide) ?_
      exact W.zret (v := nI 0) hx hb hr rfl (fun t ht hW => ⟨_, rfl, (by first | exact wt_r1b c_1 c_2 (by decide) | exact wt_r0b c_2 (by decide) | exact wt_r0a c_1), ht⟩) (fun q h => by cases h) dX_isState_14
    · skip
      refine lv_iconst (v := nI 1) hx hb dX_isState_9 (by decide) ?_
      refine lv_goto (tgt := 14) hx hb dX_isState_10 (by decide) ?_
      exact W.zret (v := nI 1) hx hb hr rfl (fun t ht hW => ⟨_, rfl, (by first | exact wt_r1b c_1 c_2 (by decide) | exact wt_r0b c_2 (by decide) | exact wt_r0a c_1), ht⟩) (fun q h => by cases h) dX_isState_14

set_option maxHeartbeats 4000000 in
set_option maxRecDepth 100000 in
theorem c_X_isCost (l : Launch) (dC : Nat → ClassId) (dI : Nat → Nat → Nat) (cI cZ cL : ClassId) (ww : Int32) : Met l yX_isCost (Cond.code yX_isCost cX_isCost 1 (some .boolean) :: tb) ({ frames := 0, cells := 0, slots := 0, locals := 0 }) (va_Pc [.int ww] (wt_ro (dC, dI) vwCl [(cI, .int), (cZ, .boolean), (cL, .long)] [])) (vp_Si (fun r => r = (wt_rng ww 10000))) 0 0 (fun _ => False) := by
  refine Met.ofW (cc := cX_isCost) (maxL := 1) (ret := (some .boolean)) (by decide) rfl ?_
  intro p e s m args below meth c s₁ B hml hv
  obtain ⟨rfl, hP, hK, hN⟩ := hv
  have hx := B.exec
  have hb := B.bytes
  have hr := B.returns
  have hts := atoms_spec (ws := (Cond.code yX_isCost cX_isCost 1 (some .boolean) :: tb)) B.pre
  have ht : ∀ w ∈ tb, w.before _ s = true := fun w h => hts w (List.mem_cons_of_mem _ h)
  have hown : s.vm.findClass RX = some m.cls := findClass_of_methodNamed B.named
  have hlocks := B.notSynchronized
  have hl := lv_entry ([.int ww]) (n := 1) (Nat.le_of_ble_eq_true rfl)
  rw [lg_entry_eq]
  generalize (lg_sl ([.int ww]) ++ List.replicate (1 - (lg_sl ([.int ww])).length) Slot.unset).toArray = ls at hl ⊢
  have hl : lv_has ls 1 [(0, .int ww)] := hl
  refine lv_iload_n hx hb dX_isCost_0 rfl (lv_at hl 0 rfl) ?_
  refine lv_if_lt (tgt := 15) hx hb dX_isCost_1 (by decide) (fun c_1 => ?_) (fun c_1 => ?_)
  · skip
    refine lv_iconst (v := nI 0) hx hb dX_isCost_15 (by decide) ?_
    exact W.zret (v := nI 0) hx hb hr rfl (fun t ht hW => ⟨_, rfl, (by first | exact wt_r1c c_1 trivial (by decide) | exact wt_r0c trivial (by decide) | exact wt_r0a c_1), ht⟩) (fun q h => by cases h) dX_isCost_16
  · skip
    refine lv_iload_n hx hb dX_isCost_4 rfl (lv_at hl 0 rfl) ?_
    refine lv_sipush (v := nI 9999) hx hb dX_isCost_5 (by decide) ?_
    refine lv_icmp_gt (tgt := 15) hx hb dX_isCost_8 (by decide) (fun c_2 => ?_) (fun c_2 => ?_)
    · skip
      refine lv_iconst (v := nI 0) hx hb dX_isCost_15 (by decide) ?_
      exact W.zret (v := nI 0) hx hb hr rfl (fun t ht hW => ⟨_, rfl, (by first | exact wt_r1c c_1 c_2 (by decide) | exact wt_r0c c_2 (by decide) | exact wt_r0a c_1), ht⟩) (fun q h => by cases h) dX_isCost_16
    · skip
      refine lv_iconst (v := nI 1) hx hb dX_isCost_11 (by decide) ?_
      refine lv_goto (tgt := 16) hx hb dX_isCost_12 (by decide) ?_
      exact W.zret (v := nI 1) hx hb hr rfl (fun t ht hW => ⟨_, rfl, (by first | exact wt_r1c c_1 c_2 (by decide) | exact wt_r0c c_2 (by decide) | exact wt_r0a c_1), ht⟩) (fun q h => by cases h) dX_isCost_16

set_option maxHeartbeats 4000000 in
set_option maxRecDepth 100000 in
theorem c_X_isWordOrEdge (l : Launch) (dC : Nat → ClassId) (dI : Nat → Nat → Nat) (cI cZ cL : ClassId) (ww : Int32) : Met l yX_isWordOrEdge (Cond.code yX_isWordOrEdge cX_isWordOrEdge 1 (some .boolean) :: tb) ({ frames := 1, cells := 0, slots := 0, locals := 20 }) (va_Pc [.int ww] (wt_ro (dC, dI) vwCl [(cI, .int), (cZ, .boolean), (cL, .long)] [])) (vp_Si (fun r => r = (wt_rng ww 5))) 0 0 (fun _ => False) := by
  refine Met.ofW (cc := cX_isWordOrEdge) (maxL := 1) (ret := (some .boolean)) (by decide) rfl ?_
  intro p e s m args below meth c s₁ B hml hv
  obtain ⟨rfl, hP, hK, hN⟩ := hv
  have hx := B.exec
  have hb := B.bytes
  have hr := B.returns
  have hts := atoms_spec (ws := (Cond.code yX_isWordOrEdge cX_isWordOrEdge 1 (some .boolean) :: tb)) B.pre
  have ht : ∀ w ∈ tb, w.before _ s = true := fun w h => hts w (List.mem_cons_of_mem _ h)
  have hown : s.vm.findClass RX = some m.cls := findClass_of_methodNamed B.named
  have hlocks := B.notSynchronized
  have hl := lv_entry ([.int ww]) (n := 1) (Nat.le_of_ble_eq_true rfl)
  rw [lg_entry_eq]
  generalize (lg_sl ([.int ww]) ++ List.replicate (1 - (lg_sl ([.int ww])).length) Slot.unset).toArray = ls at hl ⊢
  have hl : lv_has ls 1 [(0, .int ww)] := hl
  refine lv_iload_n hx hb dX_isWordOrEdge_0 rfl (lv_at hl 0 rfl) ?_
  refine wt_roi (va_runS (As := [.int ww]) (rest := []) ⟨hx, hb, hml, hown, ht⟩ (c_X_isWord l dC dI cI cZ cL ww) (va_cwS 1 ht (good_S m_133 m_134 m_1 m_135) rfl rfl rfl (by decide +kernel) ⟨Nat.le_of_ble_eq_true rfl, Nat.le_of_ble_eq_true rfl⟩) (wt_preS hK hN hP) rfl rfl hl.1 rfl (lv_room (Nat.le_of_ble_eq_true rfl)) dX_isWordOrEdge_1 ⟨Nat.le_of_ble_eq_true rfl, Nat.le_of_ble_eq_true rfl⟩) ?_
  refine lv_if_ne (tgt := 12) hx hb dX_isWordOrEdge_4 (by decide) (fun c_1 => ?_) (fun c_1 => ?_)
  · skip
    refine lv_iconst (v := nI 1) hx hb dX_isWordOrEdge_12 (by decide) ?_
    refine lv_goto (tgt := 17) hx hb dX_isWordOrEdge_13 (by decide) ?_
    exact W.zret (v := nI 1) hx hb hr rfl (fun t ht hW => ⟨_, rfl, (by first | exact wt_r5c c_1 trivial | exact wt_r5a c_1 | exact wt_r5b trivial), ht⟩) (fun q h => by cases h) dX_isWordOrEdge_17
  · skip
    refine lv_iload_n hx hb dX_isWordOrEdge_7 rfl (lv_at hl 0 rfl) ?_
    refine lv_iconst (v := nI 4) hx hb dX_isWordOrEdge_8 (by decide) ?_
    refine lv_icmp_ne (tgt := 16) hx hb dX_isWordOrEdge_9 (by decide) (fun c_2 => ?_) (fun c_2 => ?_)
    · skip
      refine lv_iconst (v := nI 0) hx hb dX_isWordOrEdge_16 (by decide) ?_
      exact W.zret (v := nI 0) hx hb hr rfl (fun t ht hW => ⟨_, rfl, (by first | exact wt_r5c c_1 c_2 | exact wt_r5a c_1 | exact wt_r5b c_2), ht⟩) (fun q h => by cases h) dX_isWordOrEdge_17
    · skip
      refine lv_iconst (v := nI 1) hx hb dX_isWordOrEdge_12 (by decide) ?_
      refine lv_goto (tgt := 17) hx hb dX_isWordOrEdge_13 (by decide) ?_
      exact W.zret (v := nI 1) hx hb hr rfl (fun t ht hW => ⟨_, rfl, (by first | exact wt_r5c c_1 c_2 | exact wt_r5a c_1 | exact wt_r5b c_2), ht⟩) (fun q h => by cases h) dX_isWordOrEdge_17

set_option maxHeartbeats 4000000 in
set_option maxRecDepth 100000 in
theorem c_X_isPronunciation (l : Launch) (dC : Nat → ClassId) (dI : Nat → Nat → Nat) (cI cZ cL : ClassId) (pp : Int32) (qq : Int32) (rr : Int32) : Met l yX_isPronunciation (Cond.code yX_isPronunciation cX_isPronunciation 3 (some .boolean) :: tb) ({ frames := 1, cells := 0, slots := 0, locals := 20 }) (va_Pc [.int pp, .int qq, .int rr] (wt_ro (dC, dI) vwCl [(cI, .int), (cZ, .boolean), (cL, .long)] [])) (vp_Si (fun r => r = (wt_bI (wt_isP pp qq rr)))) 0 0 (fun _ => False) := by
  refine Met.ofW (cc := cX_isPronunciation) (maxL := 3) (ret := (some .boolean)) (by decide) rfl ?_
  intro p e s m args below meth c s₁ B hml hv
  obtain ⟨rfl, hP, hK, hN⟩ := hv
  have hx := B.exec
  have hb := B.bytes
  have hr := B.returns
  have hts := atoms_spec (ws := (Cond.code yX_isPronunciation cX_isPronunciation 3 (some .boolean) :: tb)) B.pre
  have ht : ∀ w ∈ tb, w.before _ s = true := fun w h => hts w (List.mem_cons_of_mem _ h)
  have hown : s.vm.findClass RX = some m.cls := findClass_of_methodNamed B.named
  have hlocks := B.notSynchronized
  have hl := lv_entry ([.int pp, .int qq, .int rr]) (n := 3) (Nat.le_of_ble_eq_true rfl)
  rw [lg_entry_eq]
  generalize (lg_sl ([.int pp, .int qq, .int rr]) ++ List.replicate (3 - (lg_sl ([.int pp, .int qq, .int rr])).length) Slot.unset).toArray = ls at hl ⊢
  have hl : lv_has ls 3 [(0, .int pp), (1, .int qq), (2, .int rr)] := hl
  refine lv_iload_n hx hb dX_isPronunciation_0 rfl (lv_at hl 0 rfl) ?_
  refine wt_roi (va_runS (As := [.int pp]) (rest := []) ⟨hx, hb, hml, hown, ht⟩ (c_X_isPhone l dC dI cI cZ cL pp) (va_cwS 1 ht (good_S m_139 m_140 m_1 m_141) rfl rfl rfl (by decide +kernel) ⟨Nat.le_of_ble_eq_true rfl, Nat.le_of_ble_eq_true rfl⟩) (wt_preS hK hN hP) rfl rfl hl.1 rfl (lv_room (Nat.le_of_ble_eq_true rfl)) dX_isPronunciation_1 ⟨Nat.le_of_ble_eq_true rfl, Nat.le_of_ble_eq_true rfl⟩) ?_
  refine lv_if_ne (tgt := 9) hx hb dX_isPronunciation_4 (by decide) (fun c_1 => ?_) (fun c_1 => ?_)
  · skip
    refine lv_iload_n hx hb dX_isPronunciation_9 rfl (lv_at hl 1 rfl) ?_
    refine lv_iconst (v := (-1)) hx hb dX_isPronunciation_10 (by decide) ?_
    refine lv_icmp_ne (tgt := 27) hx hb dX_isPronunciation_11 (by decide) (fun c_2 => ?_) (fun c_2 => ?_)
    · skip
      refine lv_iload_n hx hb dX_isPronunciation_27 rfl (lv_at hl 1 rfl) ?_
      refine wt_roi (va_runS (As := [.int qq]) (rest := []) ⟨hx, hb, hml, hown, ht⟩ (c_X_isPhone l dC dI cI cZ cL qq) (va_cwS 1 ht (good_S m_139 m_140 m_1 m_141) rfl rfl rfl (by decide +kernel) ⟨Nat.le_of_ble_eq_true rfl, Nat.le_of_ble_eq_true rfl⟩) (wt_preS hK hN hP) rfl rfl hl.1 rfl (lv_room (Nat.le_of_ble_eq_true rfl)) dX_isPronunciation_28 ⟨Nat.le_of_ble_eq_true rfl, Nat.le_of_ble_eq_true rfl⟩) ?_
      refine lv_if_eq (tgt := 50) hx hb dX_isPronunciation_31 (by decide) (fun c_3 => ?_) (fun c_3 => ?_)
      · skip
        refine lv_iconst (v := nI 0) hx hb dX_isPronunciation_50 (by decide) ?_
        exact W.zret (v := nI 0) hx hb hr rfl (fun t ht hW => ⟨_, rfl, (by simp [wt_isP, wt_bI, nI_0, wt_nI1, c_1, c_2, c_3]), ht⟩) (fun q h => by cases h) dX_isPronunciation_51
      · skip
        refine lv_iload_n hx hb dX_isPronunciation_34 rfl (lv_at hl 2 rfl) ?_
        refine lv_iconst (v := (-1)) hx hb dX_isPronunciation_35 (by decide) ?_
        refine lv_icmp_eq (tgt := 46) hx hb dX_isPronunciation_36 (by decide) (fun c_4 => ?_) (fun c_4 => ?_)
        · skip
          refine lv_iconst (v := nI 1) hx hb dX_isPronunciation_46 (by decide) ?_
          refine lv_goto (tgt := 51) hx hb dX_isPronunciation_47 (by decide) ?_
          exact W.zret (v := nI 1) hx hb hr rfl (fun t ht hW => ⟨_, rfl, (by simp [wt_isP, wt_bI, nI_0, wt_nI1, c_1, c_2, c_3, c_4]), ht⟩) (fun q h => by cases h) dX_isPronunciation_51
        · skip
          refine lv_iload_n hx hb dX_isPronunciation_39 rfl (lv_at hl 2 rfl) ?_
          refine wt_roi (va_runS (As := [.int rr]) (rest := []) ⟨hx, hb, hml, hown, ht⟩ (c_X_isPhone l dC dI cI cZ cL rr) (va_cwS 1 ht (good_S m_139 m_140 m_1 m_141) rfl rfl rfl (by decide +kernel) ⟨Nat.le_of_ble_eq_true rfl, Nat.le_of_ble_eq_true rfl⟩) (wt_preS hK hN hP) rfl rfl hl.1 rfl (lv_room (Nat.le_of_ble_eq_true rfl)) dX_isPronunciation_40 ⟨Nat.le_of_ble_eq_true rfl, Nat.le_of_ble_eq_true rfl⟩) ?_
          refine lv_if_eq (tgt := 50) hx hb dX_isPronunciation_43 (by decide) (fun c_5 => ?_) (fun c_5 => ?_)
          · skip
            refine lv_iconst (v := nI 0) hx hb dX_isPronunciation_50 (by decide) ?_
            exact W.zret (v := nI 0) hx hb hr rfl (fun t ht hW => ⟨_, rfl, (by simp [wt_isP, wt_bI, nI_0, wt_nI1, c_1, c_2, c_3, c_4, c_5]), ht⟩) (fun q h => by cases h) dX_isPronunciation_51
          · skip
            refine lv_iconst (v := nI 1) hx hb dX_isPronunciation_46 (by decide) ?_
            refine lv_goto (tgt := 51) hx hb dX_isPronunciation_47 (by decide) ?_
            exact W.zret (v := nI 1) hx hb hr rfl (fun t ht hW => ⟨_, rfl, (by simp [wt_isP, wt_bI, nI_0, wt_nI1, c_1, c_2, c_3, c_4, c_5]), ht⟩) (fun q h => by cases h) dX_isPronunciation_51
    · skip
      refine lv_iload_n hx hb dX_isPronunciation_14 rfl (lv_at hl 2 rfl) ?_
      refine lv_iconst (v := (-1)) hx hb dX_isPronunciation_15 (by decide) ?_
      refine lv_icmp_ne (tgt := 23) hx hb dX_isPronunciation_16 (by decide) (fun c_6 => ?_) (fun c_6 => ?_)
      · skip
        refine lv_iconst (v := nI 0) hx hb dX_isPronunciation_23 (by decide) ?_
        refine lv_goto (tgt := 51) hx hb dX_isPronunciation_24 (by decide) ?_
        exact W.zret (v := nI 0) hx hb hr rfl (fun t ht hW => ⟨_, rfl, (by simp [wt_isP, wt_bI, nI_0, wt_nI1, c_1, c_2, c_6]), ht⟩) (fun q h => by cases h) dX_isPronunciation_51
      · skip
        refine lv_iconst (v := nI 1) hx hb dX_isPronunciation_19 (by decide) ?_
        refine lv_goto (tgt := 51) hx hb dX_isPronunciation_20 (by decide) ?_
        exact W.zret (v := nI 1) hx hb hr rfl (fun t ht hW => ⟨_, rfl, (by simp [wt_isP, wt_bI, nI_0, wt_nI1, c_1, c_2, c_6]), ht⟩) (fun q h => by cases h) dX_isPronunciation_51
  · skip
    refine lv_iconst (v := nI 0) hx hb dX_isPronunciation_7 (by decide) ?_
    exact W.zret (v := nI 0) hx hb hr rfl (fun t ht hW => ⟨_, rfl, (by simp [wt_isP, wt_bI, nI_0, wt_nI1, c_1]), ht⟩) (fun q h => by cases h) dX_isPronunciation_8

set_option maxHeartbeats 4000000 in
set_option maxRecDepth 100000 in
theorem c_G_isGram (l : Launch) (dC : Nat → ClassId) (dI : Nat → Nat → Nat) (cI cZ cL : ClassId) (uu : Int32) (vv : Int32) (ww : Int32) : Met l yG_isGram (Cond.code yG_isGram cG_isGram 3 (some .boolean) :: tb) ({ frames := 2, cells := 0, slots := 0, locals := 40 }) (va_Pc [.int uu, .int vv, .int ww] (wt_ro (dC, dI) vwCl [(cI, .int), (cZ, .boolean), (cL, .long)] [])) (vp_Si (fun r => r = (wt_bI (wt_isG uu vv ww)))) 0 0 (fun _ => False) := by
  refine Met.ofW (cc := cG_isGram) (maxL := 3) (ret := (some .boolean)) (by decide) rfl ?_
  intro p e s m args below meth c s₁ B hml hv
  obtain ⟨rfl, hP, hK, hN⟩ := hv
  have hx := B.exec
  have hb := B.bytes
  have hr := B.returns
  have hts := atoms_spec (ws := (Cond.code yG_isGram cG_isGram 3 (some .boolean) :: tb)) B.pre
  have ht : ∀ w ∈ tb, w.before _ s = true := fun w h => hts w (List.mem_cons_of_mem _ h)
  have hown : s.vm.findClass RG = some m.cls := findClass_of_methodNamed B.named
  have hlocks := B.notSynchronized
  have hl := lv_entry ([.int uu, .int vv, .int ww]) (n := 3) (Nat.le_of_ble_eq_true rfl)
  rw [lg_entry_eq]
  generalize (lg_sl ([.int uu, .int vv, .int ww]) ++ List.replicate (3 - (lg_sl ([.int uu, .int vv, .int ww])).length) Slot.unset).toArray = ls at hl ⊢
  have hl : lv_has ls 3 [(0, .int uu), (1, .int vv), (2, .int ww)] := hl
  refine lv_iload_n hx hb dG_isGram_0 rfl (lv_at hl 2 rfl) ?_
  refine wt_roi (va_runSN (As := [.int ww]) (rest := []) ⟨hx, hb, hml, hown, ht⟩ (c_X_isWordOrEdge l dC dI cI cZ cL ww) ⟨va_cnB 1 ht (good_C m_179) rfl rfl rfl hN.1 (ht _ m_1) (by decide +kernel) ⟨Nat.le_of_ble_eq_true rfl, Nat.le_of_ble_eq_true rfl⟩, ht _ m_178, trivial⟩ (wt_preS hK hN hP) rfl rfl hl.1 rfl (lv_room (Nat.le_of_ble_eq_true rfl)) dG_isGram_1 ⟨Nat.le_of_ble_eq_true rfl, Nat.le_of_ble_eq_true rfl⟩) ?_
  refine lv_if_ne (tgt := 9) hx hb dG_isGram_4 (by decide) (fun c_1 => ?_) (fun c_1 => ?_)
  · skip
    refine lv_iload_n hx hb dG_isGram_9 rfl (lv_at hl 0 rfl) ?_
    refine lv_iconst (v := (-1)) hx hb dG_isGram_10 (by decide) ?_
    refine lv_icmp_ne (tgt := 32) hx hb dG_isGram_11 (by decide) (fun c_2 => ?_) (fun c_2 => ?_)
    · skip
      refine lv_iload_n hx hb dG_isGram_32 rfl (lv_at hl 0 rfl) ?_
      refine wt_roi (va_runSN (As := [.int uu]) (rest := []) ⟨hx, hb, hml, hown, ht⟩ (c_X_isWordOrEdge l dC dI cI cZ cL uu) ⟨va_cnB 1 ht (good_C m_179) rfl rfl rfl hN.1 (ht _ m_1) (by decide +kernel) ⟨Nat.le_of_ble_eq_true rfl, Nat.le_of_ble_eq_true rfl⟩, ht _ m_178, trivial⟩ (wt_preS hK hN hP) rfl rfl hl.1 rfl (lv_room (Nat.le_of_ble_eq_true rfl)) dG_isGram_33 ⟨Nat.le_of_ble_eq_true rfl, Nat.le_of_ble_eq_true rfl⟩) ?_
      refine lv_if_eq (tgt := 50) hx hb dG_isGram_36 (by decide) (fun c_3 => ?_) (fun c_3 => ?_)
      · skip
        refine lv_iconst (v := nI 0) hx hb dG_isGram_50 (by decide) ?_
        exact W.zret (v := nI 0) hx hb hr rfl (fun t ht hW => ⟨_, rfl, (by simp [wt_isG, wt_bI, nI_0, wt_nI1, c_1, c_2, c_3]), ht⟩) (fun q h => by cases h) dG_isGram_51
      · skip
        refine lv_iload_n hx hb dG_isGram_39 rfl (lv_at hl 1 rfl) ?_
        refine wt_roi (va_runSN (As := [.int vv]) (rest := []) ⟨hx, hb, hml, hown, ht⟩ (c_X_isWord l dC dI cI cZ cL vv) ⟨va_cnB 1 ht (good_C m_135) rfl rfl rfl hN.2 (ht _ m_1) (by decide +kernel) ⟨Nat.le_of_ble_eq_true rfl, Nat.le_of_ble_eq_true rfl⟩, ht _ m_134, trivial⟩ (wt_preS hK hN hP) rfl rfl hl.1 rfl (lv_room (Nat.le_of_ble_eq_true rfl)) dG_isGram_40 ⟨Nat.le_of_ble_eq_true rfl, Nat.le_of_ble_eq_true rfl⟩) ?_
        refine lv_if_eq (tgt := 50) hx hb dG_isGram_43 (by decide) (fun c_4 => ?_) (fun c_4 => ?_)
        · skip
          refine lv_iconst (v := nI 0) hx hb dG_isGram_50 (by decide) ?_
          exact W.zret (v := nI 0) hx hb hr rfl (fun t ht hW => ⟨_, rfl, (by simp [wt_isG, wt_bI, nI_0, wt_nI1, c_1, c_2, c_3, c_4]), ht⟩) (fun q h => by cases h) dG_isGram_51
        · skip
          refine lv_iconst (v := nI 1) hx hb dG_isGram_46 (by decide) ?_
          refine lv_goto (tgt := 51) hx hb dG_isGram_47 (by decide) ?_
          exact W.zret (v := nI 1) hx hb hr rfl (fun t ht hW => ⟨_, rfl, (by simp [wt_isG, wt_bI, nI_0, wt_nI1, c_1, c_2, c_3, c_4]), ht⟩) (fun q h => by cases h) dG_isGram_51
    · skip
      refine lv_iload_n hx hb dG_isGram_14 rfl (lv_at hl 1 rfl) ?_
      refine lv_iconst (v := (-1)) hx hb dG_isGram_15 (by decide) ?_
      refine lv_icmp_eq (tgt := 26) hx hb dG_isGram_16 (by decide) (fun c_5 => ?_) (fun c_5 => ?_)
      · skip
        refine lv_iconst (v := nI 1) hx hb dG_isGram_26 (by decide) ?_
        refine lv_goto (tgt := 31) hx hb dG_isGram_27 (by decide) ?_
        exact W.zret (v := nI 1) hx hb hr rfl (fun t ht hW => ⟨_, rfl, (by simp [wt_isG, wt_bI, nI_0, wt_nI1, c_1, c_2, c_5]), ht⟩) (fun q h => by cases h) dG_isGram_31
      · skip
        refine lv_iload_n hx hb dG_isGram_19 rfl (lv_at hl 1 rfl) ?_
        refine wt_roi (va_runSN (As := [.int vv]) (rest := []) ⟨hx, hb, hml, hown, ht⟩ (c_X_isWordOrEdge l dC dI cI cZ cL vv) ⟨va_cnB 1 ht (good_C m_179) rfl rfl rfl hN.1 (ht _ m_1) (by decide +kernel) ⟨Nat.le_of_ble_eq_true rfl, Nat.le_of_ble_eq_true rfl⟩, ht _ m_178, trivial⟩ (wt_preS hK hN hP) rfl rfl hl.1 rfl (lv_room (Nat.le_of_ble_eq_true rfl)) dG_isGram_20 ⟨Nat.le_of_ble_eq_true rfl, Nat.le_of_ble_eq_true rfl⟩) ?_
        refine lv_if_eq (tgt := 30) hx hb dG_isGram_23 (by decide) (fun c_6 => ?_) (fun c_6 => ?_)
        · skip
          refine lv_iconst (v := nI 0) hx hb dG_isGram_30 (by decide) ?_
          exact W.zret (v := nI 0) hx hb hr rfl (fun t ht hW => ⟨_, rfl, (by simp [wt_isG, wt_bI, nI_0, wt_nI1, c_1, c_2, c_5, c_6]), ht⟩) (fun q h => by cases h) dG_isGram_31
        · skip
          refine lv_iconst (v := nI 1) hx hb dG_isGram_26 (by decide) ?_
          refine lv_goto (tgt := 31) hx hb dG_isGram_27 (by decide) ?_
          exact W.zret (v := nI 1) hx hb hr rfl (fun t ht hW => ⟨_, rfl, (by simp [wt_isG, wt_bI, nI_0, wt_nI1, c_1, c_2, c_5, c_6]), ht⟩) (fun q h => by cases h) dG_isGram_31
  · skip
    refine lv_iconst (v := nI 0) hx hb dG_isGram_7 (by decide) ?_
    exact W.zret (v := nI 0) hx hb hr rfl (fun t ht hW => ⟨_, rfl, (by simp [wt_isG, wt_bI, nI_0, wt_nI1, c_1]), ht⟩) (fun q h => by cases h) dG_isGram_8

set_option maxHeartbeats 4000000 in
set_option maxRecDepth 100000 in
theorem c_G_slot (l : Launch) (dC : Nat → ClassId) (dI : Nat → Nat → Nat) (cI cZ cL : ClassId) (ia : Nat) (ib : Nat) (ic : Nat) (uu : Int32) (vv : Int32) (ww : Int32) (hu : uu + nI 1 = nI ia) (hv : vv + nI 1 = nI ib) (hw : ww + nI 1 = nI ic) : Met l yG_slot (Cond.code yG_slot cG_slot 3 (some .int) :: tb) ({ frames := 0, cells := 0, slots := 0, locals := 0 }) (va_Pc [.int uu, .int vv, .int ww] (wt_ro (dC, dI) vwCl [(cI, .int), (cZ, .boolean), (cL, .long)] [])) (vp_Si (fun r => r = (nI (wt_sl ia ib ic)))) 0 0 (fun _ => False) := by
  refine Met.ofW (cc := cG_slot) (maxL := 3) (ret := (some .int)) (by decide) rfl ?_
  intro p e s m args below meth c s₁ B hml hv
  obtain ⟨rfl, hP, hK, hN⟩ := hv
  have hx := B.exec
  have hb := B.bytes
  have hr := B.returns
  have hts := atoms_spec (ws := (Cond.code yG_slot cG_slot 3 (some .int) :: tb)) B.pre
  have ht : ∀ w ∈ tb, w.before _ s = true := fun w h => hts w (List.mem_cons_of_mem _ h)
  have hown : s.vm.findClass RG = some m.cls := findClass_of_methodNamed B.named
  have hlocks := B.notSynchronized
  have hl := lv_entry ([.int uu, .int vv, .int ww]) (n := 3) (Nat.le_of_ble_eq_true rfl)
  rw [lg_entry_eq]
  generalize (lg_sl ([.int uu, .int vv, .int ww]) ++ List.replicate (3 - (lg_sl ([.int uu, .int vv, .int ww])).length) Slot.unset).toArray = ls at hl ⊢
  have hl : lv_has ls 3 [(0, .int uu), (1, .int vv), (2, .int ww)] := hl
  refine lv_iload_n hx hb dG_slot_0 rfl (lv_at hl 0 rfl) ?_
  refine lv_iconst (v := nI 1) hx hb dG_slot_1 (by decide) ?_
  refine lv_iadd hx hb dG_slot_2 ?_
  refine lv_bipush (v := nI 6) hx hb dG_slot_3 (by decide) ?_
  refine lv_imul hx hb dG_slot_5 ?_
  refine lv_iload_n hx hb dG_slot_6 rfl (lv_at hl 1 rfl) ?_
  refine lv_iadd hx hb dG_slot_7 ?_
  refine lv_iconst (v := nI 1) hx hb dG_slot_8 (by decide) ?_
  refine lv_iadd hx hb dG_slot_9 ?_
  refine lv_bipush (v := nI 6) hx hb dG_slot_10 (by decide) ?_
  refine lv_imul hx hb dG_slot_12 ?_
  refine lv_iload_n hx hb dG_slot_13 rfl (lv_at hl 2 rfl) ?_
  refine lv_iadd hx hb dG_slot_14 ?_
  refine lv_iconst (v := nI 1) hx hb dG_slot_15 (by decide) ?_
  refine lv_iadd hx hb dG_slot_16 ?_
  exact W.iret (v := ((uu + nI 1) * nI 6 + vv + nI 1) * nI 6 + ww + nI 1) hx hb hr (fun t ht hW => ⟨_, rfl, (wt_slot hu hv hw), ht⟩) (fun q h => by cases h) dG_slot_17

set_option maxHeartbeats 4000000 in
set_option maxRecDepth 100000 in
theorem c_Q_context (l : Launch) (dC : Nat → ClassId) (dI : Nat → Nat → Nat) (cI cZ cL : ClassId) (uu : Nat) (vv : Nat) : Met l yQ_context (Cond.code yQ_context cQ_context 2 (some .int) :: tb) ({ frames := 0, cells := 0, slots := 0, locals := 0 }) (va_Pc [.int (nI uu), .int (nI vv)] (wt_ro (dC, dI) vwCl [(cI, .int), (cZ, .boolean), (cL, .long)] [])) (vp_Si (fun r => r = (nI (wt_cx uu vv)))) 0 0 (fun _ => False) := by
  refine Met.ofW (cc := cQ_context) (maxL := 2) (ret := (some .int)) (by decide) rfl ?_
  intro p e s m args below meth c s₁ B hml hv
  obtain ⟨rfl, hP, hK, hN⟩ := hv
  have hx := B.exec
  have hb := B.bytes
  have hr := B.returns
  have hts := atoms_spec (ws := (Cond.code yQ_context cQ_context 2 (some .int) :: tb)) B.pre
  have ht : ∀ w ∈ tb, w.before _ s = true := fun w h => hts w (List.mem_cons_of_mem _ h)
  have hown : s.vm.findClass RQ = some m.cls := findClass_of_methodNamed B.named
  have hlocks := B.notSynchronized
  have hl := lv_entry ([.int (nI uu), .int (nI vv)]) (n := 2) (Nat.le_of_ble_eq_true rfl)
  rw [lg_entry_eq]
  generalize (lg_sl ([.int (nI uu), .int (nI vv)]) ++ List.replicate (2 - (lg_sl ([.int (nI uu), .int (nI vv)])).length) Slot.unset).toArray = ls at hl ⊢
  have hl : lv_has ls 2 [(0, .int (nI uu)), (1, .int (nI vv))] := hl
  refine lv_iload_n hx hb dQ_context_0 rfl (lv_at hl 0 rfl) ?_
  refine lv_iconst (v := nI 5) hx hb dQ_context_1 (by decide) ?_
  refine wt_imul hx hb dQ_context_2 ?_
  refine lv_iload_n hx hb dQ_context_3 rfl (lv_at hl 1 rfl) ?_
  refine wt_iadd hx hb dQ_context_4 ?_
  exact W.iret (v := nI (uu * 5 + vv)) hx hb hr (fun t ht hW => ⟨_, rfl, rfl, ht⟩) (fun q h => by cases h) dQ_context_5

set_option maxHeartbeats 4000000 in
set_option maxRecDepth 100000 in
theorem c_Q_place (l : Launch) (dC : Nat → ClassId) (dI : Nat → Nat → Nat) (cI cZ cL : ClassId) (cx : Nat) (nd : Nat) (ss : Nat) : Met l yQ_place (Cond.code yQ_place cQ_place 3 (some .int) :: tb) ({ frames := 0, cells := 0, slots := 0, locals := 0 }) (va_Pc [.int (nI cx), .int (nI nd), .int (nI ss)] (wt_ro (dC, dI) vwCl [(cI, .int), (cZ, .boolean), (cL, .long)] [])) (vp_Si (fun r => r = (nI (wt_pl cx nd ss)))) 0 0 (fun _ => False) := by
  refine Met.ofW (cc := cQ_place) (maxL := 3) (ret := (some .int)) (by decide) rfl ?_
  intro p e s m args below meth c s₁ B hml hv
  obtain ⟨rfl, hP, hK, hN⟩ := hv
  have hx := B.exec
  have hb := B.bytes
  have hr := B.returns
  have hts := atoms_spec (ws := (Cond.code yQ_place cQ_place 3 (some .int) :: tb)) B.pre
  have ht : ∀ w ∈ tb, w.before _ s = true := fun w h => hts w (List.mem_cons_of_mem _ h)
  have hown : s.vm.findClass RQ = some m.cls := findClass_of_methodNamed B.named
  have hlocks := B.notSynchronized
  have hl := lv_entry ([.int (nI cx), .int (nI nd), .int (nI ss)]) (n := 3) (Nat.le_of_ble_eq_true rfl)
  rw [lg_entry_eq]
  generalize (lg_sl ([.int (nI cx), .int (nI nd), .int (nI ss)]) ++ List.replicate (3 - (lg_sl ([.int (nI cx), .int (nI nd), .int (nI ss)])).length) Slot.unset).toArray = ls at hl ⊢
  have hl : lv_has ls 3 [(0, .int (nI cx)), (1, .int (nI nd)), (2, .int (nI ss))] := hl
  refine lv_iload_n hx hb dQ_place_0 rfl (lv_at hl 0 rfl) ?_
  refine lv_bipush (v := nI 25) hx hb dQ_place_1 (by decide) ?_
  refine wt_imul hx hb dQ_place_3 ?_
  refine lv_iload_n hx hb dQ_place_4 rfl (lv_at hl 1 rfl) ?_
  refine wt_iadd hx hb dQ_place_5 ?_
  refine lv_iconst (v := nI 3) hx hb dQ_place_6 (by decide) ?_
  refine wt_imul hx hb dQ_place_7 ?_
  refine lv_iload_n hx hb dQ_place_8 rfl (lv_at hl 2 rfl) ?_
  refine wt_iadd hx hb dQ_place_9 ?_
  exact W.iret (v := nI ((cx * 25 + nd) * 3 + ss)) hx hb hr (fun t ht hW => ⟨_, rfl, rfl, ht⟩) (fun q h => by cases h) dQ_place_10

set_option maxHeartbeats 4000000 in
set_option maxRecDepth 100000 in
theorem c_K_plusCost (l : Launch) (dC : Nat → ClassId) (dI : Nat → Nat → Nat) (cI cZ cL : ClassId) (tk : Int64) (co : Int32) : Met l yK_plusCost (Cond.code yK_plusCost cK_plusCost 3 (some .long) :: tb) ({ frames := 0, cells := 0, slots := 0, locals := 0 }) (va_Pc [.long tk, .int co] (wt_ro (dC, dI) vwCl [(cI, .int), (cZ, .boolean), (cL, .long)] [])) (vp_Sl (fun r => r = (wt_pc tk co))) 0 0 (fun _ => False) := by
  refine Met.ofW (cc := cK_plusCost) (maxL := 3) (ret := (some .long)) (by decide) rfl ?_
  intro p e s m args below meth c s₁ B hml hv
  obtain ⟨rfl, hP, hK, hN⟩ := hv
  have hx := B.exec
  have hb := B.bytes
  have hr := B.returns
  have hts := atoms_spec (ws := (Cond.code yK_plusCost cK_plusCost 3 (some .long) :: tb)) B.pre
  have ht : ∀ w ∈ tb, w.before _ s = true := fun w h => hts w (List.mem_cons_of_mem _ h)
  have hown : s.vm.findClass RK = some m.cls := findClass_of_methodNamed B.named
  have hlocks := B.notSynchronized
  have hl := lv_entry ([.long tk, .int co]) (n := 3) (Nat.le_of_ble_eq_true rfl)
  rw [lg_entry_eq]
  generalize (lg_sl ([.long tk, .int co]) ++ List.replicate (3 - (lg_sl ([.long tk, .int co])).length) Slot.unset).toArray = ls at hl ⊢
  have hl : lv_has ls 3 [(0, .long tk), (2, .int co)] := hl
  refine lv_lload_n hx hb dK_plusCost_0 rfl (lv_at hl 0 rfl) ?_
  refine lv_ldc2 (v := wt_dead) hx hb hown (ht _ m_297) dK_plusCost_1 ?_
  refine W.lcmp hx hb dK_plusCost_4 ?_
  refine wt_lif_eq (tgt := 13) hx hb dK_plusCost_5 (by decide) (fun c_1 => ?_) (fun c_1 => ?_)
  · skip
    refine lv_ldc2 (v := wt_dead) hx hb hown (ht _ m_297) dK_plusCost_13 ?_
    refine lv_goto (tgt := 26) hx hb dK_plusCost_16 (by decide) ?_
    exact W.lret (v := wt_dead) hx hb hr (fun t ht hW => ⟨_, rfl, (by simp [wt_pc, c_1]), ht⟩) (fun q h => by cases h) dK_plusCost_26
  · skip
    refine lv_iload_n hx hb dK_plusCost_8 rfl (lv_at hl 1 rfl) ?_
    refine lv_iconst (v := (-1)) hx hb dK_plusCost_9 (by decide) ?_
    refine lv_icmp_ne (tgt := 19) hx hb dK_plusCost_10 (by decide) (fun c_2 => ?_) (fun c_2 => ?_)
    · skip
      refine lv_lload_n hx hb dK_plusCost_19 rfl (lv_at hl 0 rfl) ?_
      refine lv_iload_n hx hb dK_plusCost_20 rfl (lv_at hl 1 rfl) ?_
      refine lv_i2l hx hb dK_plusCost_21 rfl ?_
      refine lv_bipush (v := nI 16) hx hb dK_plusCost_22 (by decide) ?_
      refine lv_lshl hx hb dK_plusCost_24 rfl ?_
      refine lv_ladd hx hb dK_plusCost_25 ?_
      exact W.lret (v := tk + (((co).toInt64) <<< ((nI 16).toInt64 &&& 63))) hx hb hr (fun t ht hW => ⟨_, rfl, (by simp [wt_pc, c_1, c_2]), ht⟩) (fun q h => by cases h) dK_plusCost_26
    · skip
      refine lv_ldc2 (v := wt_dead) hx hb hown (ht _ m_297) dK_plusCost_13 ?_
      refine lv_goto (tgt := 26) hx hb dK_plusCost_16 (by decide) ?_
      exact W.lret (v := wt_dead) hx hb hr (fun t ht hW => ⟨_, rfl, (by simp [wt_pc, c_1, c_2]), ht⟩) (fun q h => by cases h) dK_plusCost_26

set_option maxHeartbeats 4000000 in
set_option maxRecDepth 100000 in
theorem c_K_plusWord (l : Launch) (dC : Nat → ClassId) (dI : Nat → Nat → Nat) (cI cZ cL : ClassId) (tk : Int64) (ww : Int32) : Met l yK_plusWord (Cond.code yK_plusWord cK_plusWord 5 (some .long) :: tb) ({ frames := 0, cells := 0, slots := 0, locals := 0 }) (va_Pc [.long tk, .int ww] (wt_ro (dC, dI) vwCl [(cI, .int), (cZ, .boolean), (cL, .long)] [])) (vp_Sl (fun r => r = (wt_pw tk ww))) 0 0 (fun _ => False) := by
  refine Met.ofW (cc := cK_plusWord) (maxL := 5) (ret := (some .long)) (by decide) rfl ?_
  intro p e s m args below meth c s₁ B hml hv
  obtain ⟨rfl, hP, hK, hN⟩ := hv
  have hx := B.exec
  have hb := B.bytes
  have hr := B.returns
  have hts := atoms_spec (ws := (Cond.code yK_plusWord cK_plusWord 5 (some .long) :: tb)) B.pre
  have ht : ∀ w ∈ tb, w.before _ s = true := fun w h => hts w (List.mem_cons_of_mem _ h)
  have hown : s.vm.findClass RK = some m.cls := findClass_of_methodNamed B.named
  have hlocks := B.notSynchronized
  have hl := lv_entry ([.long tk, .int ww]) (n := 5) (Nat.le_of_ble_eq_true rfl)
  rw [lg_entry_eq]
  generalize (lg_sl ([.long tk, .int ww]) ++ List.replicate (5 - (lg_sl ([.long tk, .int ww])).length) Slot.unset).toArray = ls at hl ⊢
  have hl : lv_has ls 5 [(0, .long tk), (2, .int ww)] := hl
  refine lv_lload_n hx hb dK_plusWord_0 rfl (lv_at hl 0 rfl) ?_
  refine lv_ldc2 (v := wt_dead) hx hb hown (ht _ m_297) dK_plusWord_1 ?_
  refine W.lcmp hx hb dK_plusWord_4 ?_
  refine wt_lif_ne (tgt := 12) hx hb dK_plusWord_5 (by decide) (fun c_1 => ?_) (fun c_1 => ?_)
  · skip
    refine lv_lload_n hx hb dK_plusWord_12 rfl (lv_at hl 0 rfl) ?_
    refine lv_ldc2 (v := 1023) hx hb hown (ht _ m_334) dK_plusWord_13 ?_
    refine lv_land hx hb dK_plusWord_16 ?_
    refine lv_iconst (v := nI 2) hx hb dK_plusWord_17 (by decide) ?_
    refine lv_lshl hx hb dK_plusWord_18 rfl ?_
    refine lv_iload_n hx hb dK_plusWord_19 rfl (lv_at hl 1 rfl) ?_
    refine lv_i2l hx hb dK_plusWord_20 rfl ?_
    refine lv_lor hx hb dK_plusWord_21 ?_
    refine lv_lstore_n (lv' := [(3, .long (((tk &&& 1023) <<< ((nI 2).toInt64 &&& 63)) ||| ((ww).toInt64))), (0, .long tk), (2, .int ww)]) hx hb dK_plusWord_22 rfl hl (by decide) rfl (fun ls hl => ?_)
    refine lv_lload_n hx hb dK_plusWord_23 rfl (lv_at hl 1 rfl) ?_
    refine lv_ldc2 (v := (-1024)) hx hb hown (ht _ m_335) dK_plusWord_24 ?_
    refine lv_land hx hb dK_plusWord_27 ?_
    refine lv_ldc2 (v := 1024) hx hb hown (ht _ m_336) dK_plusWord_28 ?_
    refine lv_ladd hx hb dK_plusWord_31 ?_
    refine lv_lload_n hx hb dK_plusWord_32 rfl (lv_at hl 0 rfl) ?_
    refine lv_ladd hx hb dK_plusWord_33 ?_
    exact W.lret (v := ((tk &&& (-1024)) + 1024) + (((tk &&& 1023) <<< ((nI 2).toInt64 &&& 63)) ||| ((ww).toInt64))) hx hb hr (fun t ht hW => ⟨_, rfl, (by simp [wt_pw, c_1]), ht⟩) (fun q h => by cases h) dK_plusWord_34
  · skip
    refine lv_ldc2 (v := wt_dead) hx hb hown (ht _ m_297) dK_plusWord_8 ?_
    exact W.lret (v := wt_dead) hx hb hr (fun t ht hW => ⟨_, rfl, (by simp [wt_pw, c_1]), ht⟩) (fun q h => by cases h) dK_plusWord_11

set_option maxHeartbeats 4000000 in
set_option maxRecDepth 100000 in
theorem c_K_costOf (l : Launch) (dC : Nat → ClassId) (dI : Nat → Nat → Nat) (cI cZ cL : ClassId) (tk : Int64) : Met l yK_costOf (Cond.code yK_costOf cK_costOf 2 (some .int) :: tb) ({ frames := 0, cells := 0, slots := 0, locals := 0 }) (va_Pc [.long tk] (wt_ro (dC, dI) vwCl [(cI, .int), (cZ, .boolean), (cL, .long)] [])) (vp_Si (fun r => r = (wt_tc tk))) 0 0 (fun _ => False) := by
  refine Met.ofW (cc := cK_costOf) (maxL := 2) (ret := (some .int)) (by decide) rfl ?_
  intro p e s m args below meth c s₁ B hml hv
  obtain ⟨rfl, hP, hK, hN⟩ := hv
  have hx := B.exec
  have hb := B.bytes
  have hr := B.returns
  have hts := atoms_spec (ws := (Cond.code yK_costOf cK_costOf 2 (some .int) :: tb)) B.pre
  have ht : ∀ w ∈ tb, w.before _ s = true := fun w h => hts w (List.mem_cons_of_mem _ h)
  have hown : s.vm.findClass RK = some m.cls := findClass_of_methodNamed B.named
  have hlocks := B.notSynchronized
  have hl := lv_entry ([.long tk]) (n := 2) (Nat.le_of_ble_eq_true rfl)
  rw [lg_entry_eq]
  generalize (lg_sl ([.long tk]) ++ List.replicate (2 - (lg_sl ([.long tk])).length) Slot.unset).toArray = ls at hl ⊢
  have hl : lv_has ls 2 [(0, .long tk)] := hl
  refine lv_lload_n hx hb dK_costOf_0 rfl (lv_at hl 0 rfl) ?_
  refine lv_ldc2 (v := wt_dead) hx hb hown (ht _ m_297) dK_costOf_1 ?_
  refine W.lcmp hx hb dK_costOf_4 ?_
  refine wt_lif_ne (tgt := 12) hx hb dK_costOf_5 (by decide) (fun c_1 => ?_) (fun c_1 => ?_)
  · skip
    refine lv_lload_n hx hb dK_costOf_12 rfl (lv_at hl 0 rfl) ?_
    refine lv_bipush (v := nI 16) hx hb dK_costOf_13 (by decide) ?_
    refine lv_lshr hx hb dK_costOf_15 rfl ?_
    refine lv_l2i hx hb dK_costOf_16 rfl ?_
    exact W.iret (v := (tk >>> ((nI 16).toInt64 &&& 63)).toInt32) hx hb hr (fun t ht hW => ⟨_, rfl, (by simp [wt_tc, c_1]), ht⟩) (fun q h => by cases h) dK_costOf_17
  · skip
    refine lv_iconst (v := (-1)) hx hb dK_costOf_8 (by decide) ?_
    refine lv_goto (tgt := 17) hx hb dK_costOf_9 (by decide) ?_
    exact W.iret (v := (-1)) hx hb hr (fun t ht hW => ⟨_, rfl, (by simp [wt_tc, c_1]), ht⟩) (fun q h => by cases h) dK_costOf_17

set_option maxHeartbeats 4000000 in
set_option maxRecDepth 100000 in
theorem c_K_countOf (l : Launch) (dC : Nat → ClassId) (dI : Nat → Nat → Nat) (cI cZ cL : ClassId) (tk : Int64) : Met l yK_countOf (Cond.code yK_countOf cK_countOf 2 (some .int) :: tb) ({ frames := 0, cells := 0, slots := 0, locals := 0 }) (va_Pc [.long tk] (wt_ro (dC, dI) vwCl [(cI, .int), (cZ, .boolean), (cL, .long)] [])) (vp_Si (fun r => r = (wt_tn tk))) 0 0 (fun _ => False) := by
  refine Met.ofW (cc := cK_countOf) (maxL := 2) (ret := (some .int)) (by decide) rfl ?_
  intro p e s m args below meth c s₁ B hml hv
  obtain ⟨rfl, hP, hK, hN⟩ := hv
  have hx := B.exec
  have hb := B.bytes
  have hr := B.returns
  have hts := atoms_spec (ws := (Cond.code yK_countOf cK_countOf 2 (some .int) :: tb)) B.pre
  have ht : ∀ w ∈ tb, w.before _ s = true := fun w h => hts w (List.mem_cons_of_mem _ h)
  have hown : s.vm.findClass RK = some m.cls := findClass_of_methodNamed B.named
  have hlocks := B.notSynchronized
  have hl := lv_entry ([.long tk]) (n := 2) (Nat.le_of_ble_eq_true rfl)
  rw [lg_entry_eq]
  generalize (lg_sl ([.long tk]) ++ List.replicate (2 - (lg_sl ([.long tk])).length) Slot.unset).toArray = ls at hl ⊢
  have hl : lv_has ls 2 [(0, .long tk)] := hl
  refine lv_lload_n hx hb dK_countOf_0 rfl (lv_at hl 0 rfl) ?_
  refine lv_ldc2 (v := wt_dead) hx hb hown (ht _ m_297) dK_countOf_1 ?_
  refine W.lcmp hx hb dK_countOf_4 ?_
  refine wt_lif_ne (tgt := 12) hx hb dK_countOf_5 (by decide) (fun c_1 => ?_) (fun c_1 => ?_)
  · skip
    refine lv_lload_n hx hb dK_countOf_12 rfl (lv_at hl 0 rfl) ?_
    refine lv_bipush (v := nI 10) hx hb dK_countOf_13 (by decide) ?_
    refine lv_lshr hx hb dK_countOf_15 rfl ?_
    refine lv_ldc2 (v := 63) hx hb hown (ht _ m_359) dK_countOf_16 ?_
    refine lv_land hx hb dK_countOf_19 ?_
    refine lv_l2i hx hb dK_countOf_20 rfl ?_
    exact W.iret (v := ((tk >>> ((nI 10).toInt64 &&& 63)) &&& 63).toInt32) hx hb hr (fun t ht hW => ⟨_, rfl, (by simp [wt_tn, c_1]), ht⟩) (fun q h => by cases h) dK_countOf_21
  · skip
    refine lv_iconst (v := nI 0) hx hb dK_countOf_8 (by decide) ?_
    refine lv_goto (tgt := 21) hx hb dK_countOf_9 (by decide) ?_
    exact W.iret (v := nI 0) hx hb hr (fun t ht hW => ⟨_, rfl, (by simp [wt_tn, c_1]), ht⟩) (fun q h => by cases h) dK_countOf_21

set_option maxHeartbeats 4000000 in
set_option maxRecDepth 100000 in
theorem c_K_wordOf (l : Launch) (dC : Nat → ClassId) (dI : Nat → Nat → Nat) (cI cZ cL : ClassId) (tk : Int64) (ix : Int32) : Met l yK_wordOf (Cond.code yK_wordOf cK_wordOf 4 (some .int) :: tb) ({ frames := 1, cells := 0, slots := 0, locals := 21 }) (va_Pc [.long tk, .int ix] (wt_ro (dC, dI) vwCl [(cI, .int), (cZ, .boolean), (cL, .long)] [])) (vp_Si (fun r => r = (wt_tw tk ix))) 0 0 (fun _ => False) := by
  refine Met.ofW (cc := cK_wordOf) (maxL := 4) (ret := (some .int)) (by decide) rfl ?_
  intro p e s m args below meth c s₁ B hml hv
  obtain ⟨rfl, hP, hK, hN⟩ := hv
  have hx := B.exec
  have hb := B.bytes
  have hr := B.returns
  have hts := atoms_spec (ws := (Cond.code yK_wordOf cK_wordOf 4 (some .int) :: tb)) B.pre
  have ht : ∀ w ∈ tb, w.before _ s = true := fun w h => hts w (List.mem_cons_of_mem _ h)
  have hown : s.vm.findClass RK = some m.cls := findClass_of_methodNamed B.named
  have hlocks := B.notSynchronized
  have hl := lv_entry ([.long tk, .int ix]) (n := 4) (Nat.le_of_ble_eq_true rfl)
  rw [lg_entry_eq]
  generalize (lg_sl ([.long tk, .int ix]) ++ List.replicate (4 - (lg_sl ([.long tk, .int ix])).length) Slot.unset).toArray = ls at hl ⊢
  have hl : lv_has ls 4 [(0, .long tk), (2, .int ix)] := hl
  refine lv_lload_n hx hb dK_wordOf_0 rfl (lv_at hl 0 rfl) ?_
  refine wt_roi (va_runS (As := [.long tk]) (rest := []) ⟨hx, hb, hml, hown, ht⟩ (c_K_countOf l dC dI cI cZ cL tk) (va_cwS 1 ht (good_S m_367 m_357 m_8 m_358) rfl rfl rfl (by decide +kernel) ⟨Nat.le_of_ble_eq_true rfl, Nat.le_of_ble_eq_true rfl⟩) (wt_preS hK hN hP) rfl rfl hl.1 rfl (lv_room (Nat.le_of_ble_eq_true rfl)) dK_wordOf_1 ⟨Nat.le_of_ble_eq_true rfl, Nat.le_of_ble_eq_true rfl⟩) ?_
  refine lv_istore_n (lv' := [(3, .int (wt_tn tk)), (0, .long tk), (2, .int ix)]) hx hb dK_wordOf_4 rfl hl (by decide) rfl (fun ls hl => ?_)
  refine lv_iload_n hx hb dK_wordOf_5 rfl (lv_at hl 2 rfl) ?_
  refine lv_if_lt (tgt := 14) hx hb dK_wordOf_6 (by decide) (fun c_1 => ?_) (fun c_1 => ?_)
  · skip
    refine lv_iconst (v := (-1)) hx hb dK_wordOf_14 (by decide) ?_
    exact W.iret (v := (-1)) hx hb hr (fun t ht hW => ⟨_, rfl, (by first | (simp [wt_tw, c_1]; done) | exact (if_neg (fun h => h.elim c_1 (fun q => absurd trivial (Int32.not_lt.mpr q)))).symm), ht⟩) (fun q h => by cases h) dK_wordOf_15
  · skip
    refine lv_iload_n hx hb dK_wordOf_9 rfl (lv_at hl 2 rfl) ?_
    refine lv_iload_n hx hb dK_wordOf_10 rfl (lv_at hl 0 rfl) ?_
    refine lv_icmp_lt (tgt := 16) hx hb dK_wordOf_11 (by decide) (fun c_2 => ?_) (fun c_2 => ?_)
    · skip
      refine lv_lload_n hx hb dK_wordOf_16 rfl (lv_at hl 1 rfl) ?_
      refine lv_iload_n hx hb dK_wordOf_17 rfl (lv_at hl 0 rfl) ?_
      refine lv_iconst (v := nI 1) hx hb dK_wordOf_18 (by decide) ?_
      refine lv_isub hx hb dK_wordOf_19 ?_
      refine lv_iload_n hx hb dK_wordOf_20 rfl (lv_at hl 2 rfl) ?_
      refine lv_isub hx hb dK_wordOf_21 ?_
      refine lv_iconst (v := nI 2) hx hb dK_wordOf_22 (by decide) ?_
      refine lv_imul hx hb dK_wordOf_23 ?_
      refine lv_lshr hx hb dK_wordOf_24 rfl ?_
      refine lv_l2i hx hb dK_wordOf_25 rfl ?_
      refine lv_iconst (v := nI 3) hx hb dK_wordOf_26 (by decide) ?_
      refine lv_iand hx hb dK_wordOf_27 ?_
      exact W.iret (v := ((tk >>> (((wt_tn tk - nI 1 - ix) * nI 2).toInt64 &&& 63)).toInt32) &&& (nI 3)) hx hb hr (fun t ht hW => ⟨_, rfl, (by first | (simp [wt_tw, c_1, c_2]; done) | exact (if_neg (fun h => h.elim c_1 (fun q => absurd c_2 (Int32.not_lt.mpr q)))).symm), ht⟩) (fun q h => by cases h) dK_wordOf_28
    · skip
      refine lv_iconst (v := (-1)) hx hb dK_wordOf_14 (by decide) ?_
      exact W.iret (v := (-1)) hx hb hr (fun t ht hW => ⟨_, rfl, (by first | (simp [wt_tw, c_1, c_2]; done) | exact (if_neg (fun h => h.elim c_1 (fun q => absurd c_2 (Int32.not_lt.mpr q)))).symm), ht⟩) (fun q h => by cases h) dK_wordOf_15
