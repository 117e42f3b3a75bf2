/-! the reference: small rows -/
theorem wt_any_n {f : Nat → Bool} {r i : Nat} (h : wt_any f (r + 1) i = false) : wt_any f r (i + 1) = false ∧ f i = false := by
  have h2 : (f i || wt_any f r (i + 1)) = false := h
  rw [Bool.or_eq_false_iff] at h2
  exact ⟨h2.2, h2.1⟩
theorem wt_any_s {f : Nat → Bool} {r i : Nat} (h : wt_any f (r + 1) i = true) (hf : f i = false) : wt_any f r (i + 1) = true := by
  have h2 : (f i || wt_any f r (i + 1)) = true := h
  rw [hf, Bool.false_or] at h2
  exact h2
theorem afN_1 {kn : Nat → Bool} {co bo : Nat → Int32} {u v w : Nat} (h4 : ¬ v = 4) (hk : kn (30 + 25 * u + 5 * v + w) = true) : wt_afN kn co bo u v w = co (30 + 25 * u + 5 * v + w) := if_pos ⟨h4, hk⟩
theorem afN_2 {kn : Nat → Bool} {co bo : Nat → Int32} {u v w : Nat} (hk : v = 4 ∨ kn (30 + 25 * u + 5 * v + w) = false) (hl : wt_af1 kn co bo v w < 0 ∨ v = 4) : wt_afN kn co bo u v w = wt_af1 kn co bo v w := by
  unfold wt_afN
  rw [if_neg (fun q => hk.elim q.1 (fun z => by rw [z] at q; exact absurd q.2 (by decide))), if_pos hl]
theorem afN_3 {kn : Nat → Bool} {co bo : Nat → Int32} {u v w : Nat} (h4 : ¬ v = 4) (hk : kn (30 + 25 * u + 5 * v + w) = false) (hl : ¬ wt_af1 kn co bo v w < 0) : wt_afN kn co bo u v w = wt_af1 kn co bo v w + wt_bk kn bo (5 + 5 * u + v) := by
  unfold wt_afN
  rw [if_neg (fun q => by rw [hk] at q; exact absurd q.2 (by decide)), if_neg (fun q => q.elim hl h4)]
theorem zs_up {zs : Nat → Nat} {m k : Nat} (h : ∀ k, zs k ≤ 3) (hk : k ≤ 3) : ∀ j, va_up zs m k j ≤ 3 := fun j => by
  unfold va_up
  split
  · exact hk
  · exact h j
theorem wd_up {wd : Nat → Nat} {m k : Nat} (h : ∀ k, wd k < 4) (hk : k < 4) : ∀ j, va_up wd m k j < 4 := fun j => by
  unfold va_up
  split
  · exact hk
  · exact h j

set_option maxHeartbeats 4000000 in
set_option maxRecDepth 100000 in
theorem c_M_up_2 (l : Launch) (dC : Nat → ClassId) (dI : Nat → Nat → Nat) (cI cZ cL : ClassId) (xx : Int32) : Met l yM_up (Cond.code yM_up cM_up 2 (some .boolean) :: tb) ({ frames := 0, cells := 0, slots := 0, locals := 0 }) (va_Pc [.int xx, .int (nI 2)] (wt_ro (dC, dI) vwCl [(cI, .int), (cZ, .boolean), (cL, .long)] [])) (vp_Si (fun r => r = (wt_rng xx 3))) 0 0 (fun _ => False) := by
  refine Met.ofW (cc := cM_up) (maxL := 2) (ret := (some .boolean)) (by decide) rfl ?_
  intro p e s m args below meth c s₁ B hml hv
  obtain ⟨rfl, hP, hK, hN⟩ := hv
  have hx := B.exec
  have hb := B.bytes
  have hr := B.returns
  have hts := atoms_spec (ws := (Cond.code yM_up cM_up 2 (some .boolean) :: tb)) B.pre
  have ht : ∀ w ∈ tb, w.before _ s = true := fun w h => hts w (List.mem_cons_of_mem _ h)
  have hown : s.vm.findClass RM = some m.cls := findClass_of_methodNamed B.named
  have hlocks := B.notSynchronized
  have hl := lv_entry ([.int xx, .int (nI 2)]) (n := 2) (Nat.le_of_ble_eq_true rfl)
  rw [lg_entry_eq]
  generalize (lg_sl ([.int xx, .int (nI 2)]) ++ List.replicate (2 - (lg_sl ([.int xx, .int (nI 2)])).length) Slot.unset).toArray = ls at hl ⊢
  have hl : lv_has ls 2 [(0, .int xx), (1, .int (nI 2))] := hl
  refine lv_iload_n hx hb dM_up_0 rfl (lv_at hl 0 rfl) ?_
  refine lv_if_lt (tgt := 13) hx hb dM_up_1 (by decide) (fun c_1 => ?_) (fun c_1 => ?_)
  · skip
    refine lv_iconst (v := nI 0) hx hb dM_up_13 (by decide) ?_
    exact W.zret (v := nI 0) hx hb hr rfl (fun t ht hW => ⟨_, rfl, (by first | exact wt_r1c c_1 trivial (by decide) | exact wt_r0c trivial (by decide) | exact wt_r0a c_1), ht⟩) (fun q h => by cases h) dM_up_14
  · skip
    refine lv_iload_n hx hb dM_up_4 rfl (lv_at hl 0 rfl) ?_
    refine lv_iload_n hx hb dM_up_5 rfl (lv_at hl 1 rfl) ?_
    refine lv_icmp_gt (tgt := 13) hx hb dM_up_6 (by decide) (fun c_2 => ?_) (fun c_2 => ?_)
    · skip
      refine lv_iconst (v := nI 0) hx hb dM_up_13 (by decide) ?_
      exact W.zret (v := nI 0) hx hb hr rfl (fun t ht hW => ⟨_, rfl, (by first | exact wt_r1c c_1 c_2 (by decide) | exact wt_r0c c_2 (by decide) | exact wt_r0a c_1), ht⟩) (fun q h => by cases h) dM_up_14
    · skip
      refine lv_iconst (v := nI 1) hx hb dM_up_9 (by decide) ?_
      refine lv_goto (tgt := 14) hx hb dM_up_10 (by decide) ?_
      exact W.zret (v := nI 1) hx hb hr rfl (fun t ht hW => ⟨_, rfl, (by first | exact wt_r1c c_1 c_2 (by decide) | exact wt_r0c c_2 (by decide) | exact wt_r0a c_1), ht⟩) (fun q h => by cases h) dM_up_14

set_option maxHeartbeats 4000000 in
set_option maxRecDepth 100000 in
theorem c_M_up_3 (l : Launch) (dC : Nat → ClassId) (dI : Nat → Nat → Nat) (cI cZ cL : ClassId) (xx : Int32) : Met l yM_up (Cond.code yM_up cM_up 2 (some .boolean) :: tb) ({ frames := 0, cells := 0, slots := 0, locals := 0 }) (va_Pc [.int xx, .int (nI 3)] (wt_ro (dC, dI) vwCl [(cI, .int), (cZ, .boolean), (cL, .long)] [])) (vp_Si (fun r => r = (wt_rng xx 4))) 0 0 (fun _ => False) := by
  refine Met.ofW (cc := cM_up) (maxL := 2) (ret := (some .boolean)) (by decide) rfl ?_
  intro p e s m args below meth c s₁ B hml hv
  obtain ⟨rfl, hP, hK, hN⟩ := hv
  have hx := B.exec
  have hb := B.bytes
  have hr := B.returns
  have hts := atoms_spec (ws := (Cond.code yM_up cM_up 2 (some .boolean) :: tb)) B.pre
  have ht : ∀ w ∈ tb, w.before _ s = true := fun w h => hts w (List.mem_cons_of_mem _ h)
  have hown : s.vm.findClass RM = some m.cls := findClass_of_methodNamed B.named
  have hlocks := B.notSynchronized
  have hl := lv_entry ([.int xx, .int (nI 3)]) (n := 2) (Nat.le_of_ble_eq_true rfl)
  rw [lg_entry_eq]
  generalize (lg_sl ([.int xx, .int (nI 3)]) ++ List.replicate (2 - (lg_sl ([.int xx, .int (nI 3)])).length) Slot.unset).toArray = ls at hl ⊢
  have hl : lv_has ls 2 [(0, .int xx), (1, .int (nI 3))] := hl
  refine lv_iload_n hx hb dM_up_0 rfl (lv_at hl 0 rfl) ?_
  refine lv_if_lt (tgt := 13) hx hb dM_up_1 (by decide) (fun c_1 => ?_) (fun c_1 => ?_)
  · skip
    refine lv_iconst (v := nI 0) hx hb dM_up_13 (by decide) ?_
    exact W.zret (v := nI 0) hx hb hr rfl (fun t ht hW => ⟨_, rfl, (by first | exact wt_r1c c_1 trivial (by decide) | exact wt_r0c trivial (by decide) | exact wt_r0a c_1), ht⟩) (fun q h => by cases h) dM_up_14
  · skip
    refine lv_iload_n hx hb dM_up_4 rfl (lv_at hl 0 rfl) ?_
    refine lv_iload_n hx hb dM_up_5 rfl (lv_at hl 1 rfl) ?_
    refine lv_icmp_gt (tgt := 13) hx hb dM_up_6 (by decide) (fun c_2 => ?_) (fun c_2 => ?_)
    · skip
      refine lv_iconst (v := nI 0) hx hb dM_up_13 (by decide) ?_
      exact W.zret (v := nI 0) hx hb hr rfl (fun t ht hW => ⟨_, rfl, (by first | exact wt_r1c c_1 c_2 (by decide) | exact wt_r0c c_2 (by decide) | exact wt_r0a c_1), ht⟩) (fun q h => by cases h) dM_up_14
    · skip
      refine lv_iconst (v := nI 1) hx hb dM_up_9 (by decide) ?_
      refine lv_goto (tgt := 14) hx hb dM_up_10 (by decide) ?_
      exact W.zret (v := nI 1) hx hb hr rfl (fun t ht hW => ⟨_, rfl, (by first | exact wt_r1c c_1 c_2 (by decide) | exact wt_r0c c_2 (by decide) | exact wt_r0a c_1), ht⟩) (fun q h => by cases h) dM_up_14

set_option maxHeartbeats 4000000 in
set_option maxRecDepth 100000 in
theorem c_M_up_4 (l : Launch) (dC : Nat → ClassId) (dI : Nat → Nat → Nat) (cI cZ cL : ClassId) (xx : Int32) : Met l yM_up (Cond.code yM_up cM_up 2 (some .boolean) :: tb) ({ frames := 0, cells := 0, slots := 0, locals := 0 }) (va_Pc [.int xx, .int (nI 4)] (wt_ro (dC, dI) vwCl [(cI, .int), (cZ, .boolean), (cL, .long)] [])) (vp_Si (fun r => r = (wt_rng xx 5))) 0 0 (fun _ => False) := by
  refine Met.ofW (cc := cM_up) (maxL := 2) (ret := (some .boolean)) (by decide) rfl ?_
  intro p e s m args below meth c s₁ B hml hv
  obtain ⟨rfl, hP, hK, hN⟩ := hv
  have hx := B.exec
  have hb := B.bytes
  have hr := B.returns
  have hts := atoms_spec (ws := (Cond.code yM_up cM_up 2 (some .boolean) :: tb)) B.pre
  have ht : ∀ w ∈ tb, w.before _ s = true := fun w h => hts w (List.mem_cons_of_mem _ h)
  have hown : s.vm.findClass RM = some m.cls := findClass_of_methodNamed B.named
  have hlocks := B.notSynchronized
  have hl := lv_entry ([.int xx, .int (nI 4)]) (n := 2) (Nat.le_of_ble_eq_true rfl)
  rw [lg_entry_eq]
  generalize (lg_sl ([.int xx, .int (nI 4)]) ++ List.replicate (2 - (lg_sl ([.int xx, .int (nI 4)])).length) Slot.unset).toArray = ls at hl ⊢
  have hl : lv_has ls 2 [(0, .int xx), (1, .int (nI 4))] := hl
  refine lv_iload_n hx hb dM_up_0 rfl (lv_at hl 0 rfl) ?_
  refine lv_if_lt (tgt := 13) hx hb dM_up_1 (by decide) (fun c_1 => ?_) (fun c_1 => ?_)
  · skip
    refine lv_iconst (v := nI 0) hx hb dM_up_13 (by decide) ?_
    exact W.zret (v := nI 0) hx hb hr rfl (fun t ht hW => ⟨_, rfl, (by first | exact wt_r1c c_1 trivial (by decide) | exact wt_r0c trivial (by decide) | exact wt_r0a c_1), ht⟩) (fun q h => by cases h) dM_up_14
  · skip
    refine lv_iload_n hx hb dM_up_4 rfl (lv_at hl 0 rfl) ?_
    refine lv_iload_n hx hb dM_up_5 rfl (lv_at hl 1 rfl) ?_
    refine lv_icmp_gt (tgt := 13) hx hb dM_up_6 (by decide) (fun c_2 => ?_) (fun c_2 => ?_)
    · skip
      refine lv_iconst (v := nI 0) hx hb dM_up_13 (by decide) ?_
      exact W.zret (v := nI 0) hx hb hr rfl (fun t ht hW => ⟨_, rfl, (by first | exact wt_r1c c_1 c_2 (by decide) | exact wt_r0c c_2 (by decide) | exact wt_r0a c_1), ht⟩) (fun q h => by cases h) dM_up_14
    · skip
      refine lv_iconst (v := nI 1) hx hb dM_up_9 (by decide) ?_
      refine lv_goto (tgt := 14) hx hb dM_up_10 (by decide) ?_
      exact W.zret (v := nI 1) hx hb hr rfl (fun t ht hW => ⟨_, rfl, (by first | exact wt_r1c c_1 c_2 (by decide) | exact wt_r0c c_2 (by decide) | exact wt_r0a c_1), ht⟩) (fun q h => by cases h) dM_up_14

set_option maxHeartbeats 4000000 in
set_option maxRecDepth 100000 in
theorem c_M_up_9999 (l : Launch) (dC : Nat → ClassId) (dI : Nat → Nat → Nat) (cI cZ cL : ClassId) (xx : Int32) : Met l yM_up (Cond.code yM_up cM_up 2 (some .boolean) :: tb) ({ frames := 0, cells := 0, slots := 0, locals := 0 }) (va_Pc [.int xx, .int (nI 9999)] (wt_ro (dC, dI) vwCl [(cI, .int), (cZ, .boolean), (cL, .long)] [])) (vp_Si (fun r => r = (wt_rng xx 10000))) 0 0 (fun _ => False) := by
  refine Met.ofW (cc := cM_up) (maxL := 2) (ret := (some .boolean)) (by decide) rfl ?_
  intro p e s m args below meth c s₁ B hml hv
  obtain ⟨rfl, hP, hK, hN⟩ := hv
  have hx := B.exec
  have hb := B.bytes
  have hr := B.returns
  have hts := atoms_spec (ws := (Cond.code yM_up cM_up 2 (some .boolean) :: tb)) B.pre
  have ht : ∀ w ∈ tb, w.before _ s = true := fun w h => hts w (List.mem_cons_of_mem _ h)
  have hown : s.vm.findClass RM = some m.cls := findClass_of_methodNamed B.named
  have hlocks := B.notSynchronized
  have hl := lv_entry ([.int xx, .int (nI 9999)]) (n := 2) (Nat.le_of_ble_eq_true rfl)
  rw [lg_entry_eq]
  generalize (lg_sl ([.int xx, .int (nI 9999)]) ++ List.replicate (2 - (lg_sl ([.int xx, .int (nI 9999)])).length) Slot.unset).toArray = ls at hl ⊢
  have hl : lv_has ls 2 [(0, .int xx), (1, .int (nI 9999))] := hl
  refine lv_iload_n hx hb dM_up_0 rfl (lv_at hl 0 rfl) ?_
  refine lv_if_lt (tgt := 13) hx hb dM_up_1 (by decide) (fun c_1 => ?_) (fun c_1 => ?_)
  · skip
    refine lv_iconst (v := nI 0) hx hb dM_up_13 (by decide) ?_
    exact W.zret (v := nI 0) hx hb hr rfl (fun t ht hW => ⟨_, rfl, (by first | exact wt_r1c c_1 trivial (by decide) | exact wt_r0c trivial (by decide) | exact wt_r0a c_1), ht⟩) (fun q h => by cases h) dM_up_14
  · skip
    refine lv_iload_n hx hb dM_up_4 rfl (lv_at hl 0 rfl) ?_
    refine lv_iload_n hx hb dM_up_5 rfl (lv_at hl 1 rfl) ?_
    refine lv_icmp_gt (tgt := 13) hx hb dM_up_6 (by decide) (fun c_2 => ?_) (fun c_2 => ?_)
    · skip
      refine lv_iconst (v := nI 0) hx hb dM_up_13 (by decide) ?_
      exact W.zret (v := nI 0) hx hb hr rfl (fun t ht hW => ⟨_, rfl, (by first | exact wt_r1c c_1 c_2 (by decide) | exact wt_r0c c_2 (by decide) | exact wt_r0a c_1), ht⟩) (fun q h => by cases h) dM_up_14
    · skip
      refine lv_iconst (v := nI 1) hx hb dM_up_9 (by decide) ?_
      refine lv_goto (tgt := 14) hx hb dM_up_10 (by decide) ?_
      exact W.zret (v := nI 1) hx hb hr rfl (fun t ht hW => ⟨_, rfl, (by first | exact wt_r1c c_1 c_2 (by decide) | exact wt_r0c c_2 (by decide) | exact wt_r0a c_1), ht⟩) (fun q h => by cases h) dM_up_14

set_option maxHeartbeats 4000000 in
set_option maxRecDepth 100000 in
theorem c_M_begins (l : Launch) (dC : Nat → ClassId) (dI : Nat → Nat → Nat) (cI cZ cL : ClassId) (q : Nat → Nat) (kn : Nat → Bool) (co : Nat → Int32) (bo : Nat → Int32) (mn : Nat) (wd : Nat → Nat) (zs : Nat → Nat) (fp : Nat → Int32) (ho : Nat → Int32) (lv : Nat → Int32) (fr : Nat) (so : Nat → Int32) (ea : Nat → Int32) (dn : Nat → Int32) (cd : Nat → Int32) (nx : Nat → Int32) (nd : Nat → Int32) (nc : Nat → Int32) (al : Int32) (wo : Int32) (wh : Int32) (jj : Nat) (kk : Nat) (nn : Nat) (hjj : jj < 8) (hkk : kk < 8) (hnn : nn ≤ 3) (hzs : ∀ k, zs k ≤ 3) : Met l yM_begins (Cond.code yM_begins cM_begins 6 (some .boolean) :: tb) ({ frames := 0, cells := 0, slots := 0, locals := 0 }) (va_Pc [.ref (q 0), .int (nI jj), .int (nI kk), .int (nI nn)] (wt_ro (dC, dI) vwCl [(cI, .int), (cZ, .boolean), (cL, .long)] (wM cI cZ cL q kn co bo mn wd zs fp ho lv fr so ea dn cd nx nd nc al wo wh))) (vp_Si (fun r => r = (wt_bI (wt_beg zs fp jj kk nn)))) 0 0 (fun _ => False) := by
  refine Met.ofW (cc := cM_begins) (maxL := 6) (ret := (some .boolean)) (by decide) rfl ?_
  intro p e s m args below meth c s₁ B hml hv
  obtain ⟨rfl, hP, hK, hN⟩ := hv
  have hx := B.exec
  have hb := B.bytes
  have hr := B.returns
  have hts := atoms_spec (ws := (Cond.code yM_begins cM_begins 6 (some .boolean) :: tb)) B.pre
  have ht : ∀ w ∈ tb, w.before _ s = true := fun w h => hts w (List.mem_cons_of_mem _ h)
  have hown : s.vm.findClass RM = some m.cls := findClass_of_methodNamed B.named
  have hlocks := B.notSynchronized
  have hl := lv_entry ([.ref (q 0), .int (nI jj), .int (nI kk), .int (nI nn)]) (n := 6) (Nat.le_of_ble_eq_true rfl)
  rw [lg_entry_eq]
  generalize (lg_sl ([.ref (q 0), .int (nI jj), .int (nI kk), .int (nI nn)]) ++ List.replicate (6 - (lg_sl ([.ref (q 0), .int (nI jj), .int (nI kk), .int (nI nn)])).length) Slot.unset).toArray = ls at hl ⊢
  have hl : lv_has ls 6 [(0, .ref (q 0)), (1, .int (nI jj)), (2, .int (nI kk)), (3, .int (nI nn))] := hl
  refine lv_aload_n hx hb dM_begins_0 rfl (lv_at hl 0 rfl) ?_
  refine va_get (D := (dC, dI)) (ci := 5) (v := .ref (q 5)) (C := RM) (T := TM) (N := 20) hx hb ht inM hown hK hP 0 rfl rfl 5 (by decide) (ht _ m_399) (fun _ h9 => h9) rfl dM_begins_1 ?_
  refine lv_iload_n hx hb dM_begins_4 rfl (lv_at hl 1 rfl) ?_
  refine wt_ialdN hx hb hK hP 5 0 rfl rfl (k := jj) (by first | omega | (have := hzs jj; have := hzs kk; omega)) (by decide) dM_begins_5 ?_
  refine lv_iload_n hx hb dM_begins_6 rfl (lv_at hl 3 rfl) ?_
  refine wt_icmp_lt (tgt := 24) hx hb dM_begins_7 (by decide) (by first | omega | (have := hzs jj; have := hzs kk; omega)) (by first | omega | (have := hzs jj; have := hzs kk; omega)) (fun c_1 => ?_) (fun c_1 => ?_)
  · skip
    refine lv_iconst (v := nI 0) hx hb dM_begins_24 (by decide) ?_
    refine lv_istore (lv' := [(4, .int (nI 0)), (0, .ref (q 0)), (1, .int (nI jj)), (2, .int (nI kk)), (3, .int (nI nn))]) hx hb dM_begins_25 hl (by decide) rfl (fun ls hl => ?_)
    refine lv_iconst (v := nI 0) hx hb dM_begins_27 (by decide) ?_
    refine lv_istore (lv' := [(5, .int (nI 0)), (4, .int (nI 0)), (0, .ref (q 0)), (1, .int (nI jj)), (2, .int (nI kk)), (3, .int (nI nn))]) hx hb dM_begins_28 hl (by decide) rfl (fun ls hl => ?_)
    have LP30 : ∀ (r : Nat) (i : Nat) (sb : Bool) (hi : i + r = nn) (hE : wt_bg fp jj kk r i sb = wt_beg zs fp jj kk nn) (ls : Array Slot) (hl : lv_has ls 6 [(0, .ref (q 0)), (1, .int (nI jj)), (2, .int (nI kk)), (3, .int (nI nn)), (4, .int (wt_bI sb)), (5, .int (nI i))]), W p l e (headSpec (Cond.code yM_begins cM_begins 6 (some .boolean) :: tb) ({ frames := 0, cells := 0, slots := 0, locals := 0 })).room s m ([.ref (q 0), .int (nI jj), .int (nI kk), .int (nI nn)] : List Value).toArray below meth c s.heap [] 0 0 (MQ below (vp_Si (fun r => r = (wt_bI (wt_beg zs fp jj kk nn)))) ([.ref (q 0), .int (nI jj), .int (nI kk), .int (nI nn)] : List Value).toArray s 0 0 (fun _ => False)) (F0 m 30 ls []) := by
      intro r
      induction r with
      | zero =>
        intro i sb hi hE ls hl
        have hl : lv_has ls 6 [(0, .ref (q 0)), (1, .int (nI jj)), (2, .int (nI kk)), (3, .int (nI nn)), (4, .int (wt_bI sb)), (5, .int (nI i))] := hl
        refine lv_iload hx hb dM_begins_30 (lv_at hl 5 rfl) ?_
        refine lv_iload_n hx hb dM_begins_32 rfl (lv_at hl 3 rfl) ?_
        refine wt_icmp_ge (tgt := 79) hx hb dM_begins_33 (by decide) (by first | omega | (have := hzs jj; have := hzs kk; omega)) (by first | omega | (have := hzs jj; have := hzs kk; omega)) (fun c_2 => ?_) (fun c_2 => ?_)
        · skip
          refine lv_iload hx hb dM_begins_79 (lv_at hl 4 rfl) ?_
          exact W.zret (v := wt_bI sb) hx hb hr (wt_bI_nar _) (fun t ht hW => ⟨_, rfl, (congrArg wt_bI (by first | exact hE | (rw [← hE, c_2]; exact (bg_false fp jj kk (r + 1) i).symm))), ht⟩) (fun q h => by cases h) dM_begins_81
        · first | exact absurd c_2 (by omega) | exact absurd c_2 (by decide) | exact absurd (by decide) c_2
      | succ r ih30 =>
        intro i sb hi hE ls hl
        have hl : lv_has ls 6 [(0, .ref (q 0)), (1, .int (nI jj)), (2, .int (nI kk)), (3, .int (nI nn)), (4, .int (wt_bI sb)), (5, .int (nI i))] := hl
        refine lv_iload hx hb dM_begins_30 (lv_at hl 5 rfl) ?_
        refine lv_iload_n hx hb dM_begins_32 rfl (lv_at hl 3 rfl) ?_
        refine wt_icmp_ge (tgt := 79) hx hb dM_begins_33 (by decide) (by first | omega | (have := hzs jj; have := hzs kk; omega)) (by first | omega | (have := hzs jj; have := hzs kk; omega)) (fun c_3 => ?_) (fun c_3 => ?_)
        · first | exact absurd c_3 (by omega) | exact absurd c_3 (by decide) | exact absurd (by decide) c_3
        · skip
          refine lv_iload hx hb dM_begins_36 (lv_at hl 4 rfl) ?_
          refine wt_bif_eq (tgt := 79) hx hb dM_begins_38 (by decide) (fun c_4 => ?_) (fun c_4 => ?_)
          · skip
            refine lv_iload hx hb dM_begins_79 (lv_at hl 4 rfl) ?_
            exact W.zret (v := wt_bI sb) hx hb hr (wt_bI_nar _) (fun t ht hW => ⟨_, rfl, (congrArg wt_bI (by first | exact hE | (rw [← hE, c_4]; exact (bg_false fp jj kk (r + 1) i).symm))), ht⟩) (fun q h => by cases h) dM_begins_81
          · skip
            refine lv_aload_n hx hb dM_begins_41 rfl (lv_at hl 0 rfl) ?_
            refine va_get (D := (dC, dI)) (ci := 5) (v := .ref (q 6)) (C := RM) (T := TM) (N := 20) hx hb ht inM hown hK hP 0 rfl rfl 6 (by decide) (ht _ m_400) (fun _ h9 => h9) rfl dM_begins_42 ?_
            refine lv_iconst (v := nI 3) hx hb dM_begins_45 (by decide) ?_
            refine lv_iload_n hx hb dM_begins_46 rfl (lv_at hl 1 rfl) ?_
            refine wt_imul hx hb dM_begins_47 ?_
            refine lv_iload hx hb dM_begins_48 (lv_at hl 5 rfl) ?_
            refine wt_iadd hx hb dM_begins_50 ?_
            refine wt_iald hx hb hK hP 6 0 rfl rfl (k := 3 * jj + i) (by first | omega | (have := hzs jj; have := hzs kk; omega)) (by decide) dM_begins_51 ?_
            refine lv_aload_n hx hb dM_begins_52 rfl (lv_at hl 0 rfl) ?_
            refine va_get (D := (dC, dI)) (ci := 5) (v := .ref (q 6)) (C := RM) (T := TM) (N := 20) hx hb ht inM hown hK hP 0 rfl rfl 6 (by decide) (ht _ m_400) (fun _ h9 => h9) rfl dM_begins_53 ?_
            refine lv_iconst (v := nI 3) hx hb dM_begins_56 (by decide) ?_
            refine lv_iload_n hx hb dM_begins_57 rfl (lv_at hl 2 rfl) ?_
            refine wt_imul hx hb dM_begins_58 ?_
            refine lv_iload hx hb dM_begins_59 (lv_at hl 5 rfl) ?_
            refine wt_iadd hx hb dM_begins_61 ?_
            refine wt_iald hx hb hK hP 6 0 rfl rfl (k := 3 * kk + i) (by first | omega | (have := hzs jj; have := hzs kk; omega)) (by decide) dM_begins_62 ?_
            refine lv_icmp_ne (tgt := 70) hx hb dM_begins_63 (by decide) (fun c_5 => ?_) (fun c_5 => ?_)
            · skip
              refine lv_iconst (v := nI 0) hx hb dM_begins_70 (by decide) ?_
              refine lv_istore (lv' := [(4, .int (nI 0)), (0, .ref (q 0)), (1, .int (nI jj)), (2, .int (nI kk)), (3, .int (nI nn)), (5, .int (nI i))]) hx hb dM_begins_71 hl (by decide) rfl (fun ls hl => ?_)
              refine lv_iinc (v := nI (i + 1)) (lv' := [(5, .int (nI (i + 1))), (4, .int (nI 0)), (0, .ref (q 0)), (1, .int (nI jj)), (2, .int (nI kk)), (3, .int (nI nn))]) hx hb dM_begins_73 hl (k := 5) rfl (wt_inc1 i) (by decide) rfl (fun ls hl => ?_)
              refine lv_goto (tgt := 30) hx hb dM_begins_76 (by decide) ?_
              exact ih30 (i + 1) false (by omega) (by rw [← hE, c_4]; show wt_bg fp jj kk r (i + 1) _ = (if true = true then wt_bg fp jj kk r (i + 1) (decide (fp (3 * jj + i) = fp (3 * kk + i))) else true); first | rw [if_pos rfl, decide_eq_true c_5] | rw [if_pos rfl, decide_eq_false c_5]) ls (lv_sub hl [2, 3, 4, 5, 1, 0] rfl)
            · skip
              refine lv_iconst (v := nI 1) hx hb dM_begins_66 (by decide) ?_
              refine lv_goto (tgt := 71) hx hb dM_begins_67 (by decide) ?_
              refine lv_istore (lv' := [(4, .int (nI 1)), (0, .ref (q 0)), (1, .int (nI jj)), (2, .int (nI kk)), (3, .int (nI nn)), (5, .int (nI i))]) hx hb dM_begins_71 hl (by decide) rfl (fun ls hl => ?_)
              refine lv_iinc (v := nI (i + 1)) (lv' := [(5, .int (nI (i + 1))), (4, .int (nI 1)), (0, .ref (q 0)), (1, .int (nI jj)), (2, .int (nI kk)), (3, .int (nI nn))]) hx hb dM_begins_73 hl (k := 5) rfl (wt_inc1 i) (by decide) rfl (fun ls hl => ?_)
              refine lv_goto (tgt := 30) hx hb dM_begins_76 (by decide) ?_
              exact ih30 (i + 1) true (by omega) (by rw [← hE, c_4]; show wt_bg fp jj kk r (i + 1) _ = (if true = true then wt_bg fp jj kk r (i + 1) (decide (fp (3 * jj + i) = fp (3 * kk + i))) else true); first | rw [if_pos rfl, decide_eq_true c_5] | rw [if_pos rfl, decide_eq_false c_5]) ls (lv_sub hl [2, 3, 4, 5, 1, 0] rfl)
    exact LP30 nn 0 false (Nat.zero_add nn) (by unfold wt_beg; first | (rw [decide_eq_true (p := nn ≤ zs jj) (by omega), decide_eq_true (p := nn ≤ zs kk) (by omega)]; rfl) | (rw [decide_eq_false (p := nn ≤ zs jj) (by omega)]; rfl) | (rw [decide_eq_false (p := nn ≤ zs kk) (by omega), Bool.and_false])) ls (lv_sub hl [2, 3, 4, 5, 1, 0] rfl)
  · skip
    refine lv_aload_n hx hb dM_begins_10 rfl (lv_at hl 0 rfl) ?_
    refine va_get (D := (dC, dI)) (ci := 5) (v := .ref (q 5)) (C := RM) (T := TM) (N := 20) hx hb ht inM hown hK hP 0 rfl rfl 5 (by decide) (ht _ m_399) (fun _ h9 => h9) rfl dM_begins_11 ?_
    refine lv_iload_n hx hb dM_begins_14 rfl (lv_at hl 2 rfl) ?_
    refine wt_ialdN hx hb hK hP 5 0 rfl rfl (k := kk) (by first | omega | (have := hzs jj; have := hzs kk; omega)) (by decide) dM_begins_15 ?_
    refine lv_iload_n hx hb dM_begins_16 rfl (lv_at hl 3 rfl) ?_
    refine wt_icmp_lt (tgt := 24) hx hb dM_begins_17 (by decide) (by first | omega | (have := hzs jj; have := hzs kk; omega)) (by first | omega | (have := hzs jj; have := hzs kk; omega)) (fun c_6 => ?_) (fun c_6 => ?_)
    · skip
      refine lv_iconst (v := nI 0) hx hb dM_begins_24 (by decide) ?_
      refine lv_istore (lv' := [(4, .int (nI 0)), (0, .ref (q 0)), (1, .int (nI jj)), (2, .int (nI kk)), (3, .int (nI nn))]) hx hb dM_begins_25 hl (by decide) rfl (fun ls hl => ?_)
      refine lv_iconst (v := nI 0) hx hb dM_begins_27 (by decide) ?_
      refine lv_istore (lv' := [(5, .int (nI 0)), (4, .int (nI 0)), (0, .ref (q 0)), (1, .int (nI jj)), (2, .int (nI kk)), (3, .int (nI nn))]) hx hb dM_begins_28 hl (by decide) rfl (fun ls hl => ?_)
      have LP30 : ∀ (r : Nat) (i : Nat) (sb : Bool) (hi : i + r = nn) (hE : wt_bg fp jj kk r i sb = wt_beg zs fp jj kk nn) (ls : Array Slot) (hl : lv_has ls 6 [(0, .ref (q 0)), (1, .int (nI jj)), (2, .int (nI kk)), (3, .int (nI nn)), (4, .int (wt_bI sb)), (5, .int (nI i))]), W p l e (headSpec (Cond.code yM_begins cM_begins 6 (some .boolean) :: tb) ({ frames := 0, cells := 0, slots := 0, locals := 0 })).room s m ([.ref (q 0), .int (nI jj), .int (nI kk), .int (nI nn)] : List Value).toArray below meth c s.heap [] 0 0 (MQ below (vp_Si (fun r => r = (wt_bI (wt_beg zs fp jj kk nn)))) ([.ref (q 0), .int (nI jj), .int (nI kk), .int (nI nn)] : List Value).toArray s 0 0 (fun _ => False)) (F0 m 30 ls []) := by
        intro r
        induction r with
        | zero =>
          intro i sb hi hE ls hl
          have hl : lv_has ls 6 [(0, .ref (q 0)), (1, .int (nI jj)), (2, .int (nI kk)), (3, .int (nI nn)), (4, .int (wt_bI sb)), (5, .int (nI i))] := hl
          refine lv_iload hx hb dM_begins_30 (lv_at hl 5 rfl) ?_
          refine lv_iload_n hx hb dM_begins_32 rfl (lv_at hl 3 rfl) ?_
          refine wt_icmp_ge (tgt := 79) hx hb dM_begins_33 (by decide) (by first | omega | (have := hzs jj; have := hzs kk; omega)) (by first | omega | (have := hzs jj; have := hzs kk; omega)) (fun c_7 => ?_) (fun c_7 => ?_)
          · skip
            refine lv_iload hx hb dM_begins_79 (lv_at hl 4 rfl) ?_
            exact W.zret (v := wt_bI sb) hx hb hr (wt_bI_nar _) (fun t ht hW => ⟨_, rfl, (congrArg wt_bI (by first | exact hE | (rw [← hE, c_7]; exact (bg_false fp jj kk (r + 1) i).symm))), ht⟩) (fun q h => by cases h) dM_begins_81
          · first | exact absurd c_7 (by omega) | exact absurd c_7 (by decide) | exact absurd (by decide) c_7
        | succ r ih30 =>
          intro i sb hi hE ls hl
          have hl : lv_has ls 6 [(0, .ref (q 0)), (1, .int (nI jj)), (2, .int (nI kk)), (3, .int (nI nn)), (4, .int (wt_bI sb)), (5, .int (nI i))] := hl
          refine lv_iload hx hb dM_begins_30 (lv_at hl 5 rfl) ?_
          refine lv_iload_n hx hb dM_begins_32 rfl (lv_at hl 3 rfl) ?_
          refine wt_icmp_ge (tgt := 79) hx hb dM_begins_33 (by decide) (by first | omega | (have := hzs jj; have := hzs kk; omega)) (by first | omega | (have := hzs jj; have := hzs kk; omega)) (fun c_8 => ?_) (fun c_8 => ?_)
          · first | exact absurd c_8 (by omega) | exact absurd c_8 (by decide) | exact absurd (by decide) c_8
          · skip
            refine lv_iload hx hb dM_begins_36 (lv_at hl 4 rfl) ?_
            refine wt_bif_eq (tgt := 79) hx hb dM_begins_38 (by decide) (fun c_9 => ?_) (fun c_9 => ?_)
            · skip
              refine lv_iload hx hb dM_begins_79 (lv_at hl 4 rfl) ?_
              exact W.zret (v := wt_bI sb) hx hb hr (wt_bI_nar _) (fun t ht hW => ⟨_, rfl, (congrArg wt_bI (by first | exact hE | (rw [← hE, c_9]; exact (bg_false fp jj kk (r + 1) i).symm))), ht⟩) (fun q h => by cases h) dM_begins_81
            · skip
              refine lv_aload_n hx hb dM_begins_41 rfl (lv_at hl 0 rfl) ?_
              refine va_get (D := (dC, dI)) (ci := 5) (v := .ref (q 6)) (C := RM) (T := TM) (N := 20) hx hb ht inM hown hK hP 0 rfl rfl 6 (by decide) (ht _ m_400) (fun _ h9 => h9) rfl dM_begins_42 ?_
              refine lv_iconst (v := nI 3) hx hb dM_begins_45 (by decide) ?_
              refine lv_iload_n hx hb dM_begins_46 rfl (lv_at hl 1 rfl) ?_
              refine wt_imul hx hb dM_begins_47 ?_
              refine lv_iload hx hb dM_begins_48 (lv_at hl 5 rfl) ?_
              refine wt_iadd hx hb dM_begins_50 ?_
              refine wt_iald hx hb hK hP 6 0 rfl rfl (k := 3 * jj + i) (by first | omega | (have := hzs jj; have := hzs kk; omega)) (by decide) dM_begins_51 ?_
              refine lv_aload_n hx hb dM_begins_52 rfl (lv_at hl 0 rfl) ?_
              refine va_get (D := (dC, dI)) (ci := 5) (v := .ref (q 6)) (C := RM) (T := TM) (N := 20) hx hb ht inM hown hK hP 0 rfl rfl 6 (by decide) (ht _ m_400) (fun _ h9 => h9) rfl dM_begins_53 ?_
              refine lv_iconst (v := nI 3) hx hb dM_begins_56 (by decide) ?_
              refine lv_iload_n hx hb dM_begins_57 rfl (lv_at hl 2 rfl) ?_
              refine wt_imul hx hb dM_begins_58 ?_
              refine lv_iload hx hb dM_begins_59 (lv_at hl 5 rfl) ?_
              refine wt_iadd hx hb dM_begins_61 ?_
              refine wt_iald hx hb hK hP 6 0 rfl rfl (k := 3 * kk + i) (by first | omega | (have := hzs jj; have := hzs kk; omega)) (by decide) dM_begins_62 ?_
              refine lv_icmp_ne (tgt := 70) hx hb dM_begins_63 (by decide) (fun c_10 => ?_) (fun c_10 => ?_)
              · skip
                refine lv_iconst (v := nI 0) hx hb dM_begins_70 (by decide) ?_
                refine lv_istore (lv' := [(4, .int (nI 0)), (0, .ref (q 0)), (1, .int (nI jj)), (2, .int (nI kk)), (3, .int (nI nn)), (5, .int (nI i))]) hx hb dM_begins_71 hl (by decide) rfl (fun ls hl => ?_)
                refine lv_iinc (v := nI (i + 1)) (lv' := [(5, .int (nI (i + 1))), (4, .int (nI 0)), (0, .ref (q 0)), (1, .int (nI jj)), (2, .int (nI kk)), (3, .int (nI nn))]) hx hb dM_begins_73 hl (k := 5) rfl (wt_inc1 i) (by decide) rfl (fun ls hl => ?_)
                refine lv_goto (tgt := 30) hx hb dM_begins_76 (by decide) ?_
                exact ih30 (i + 1) false (by omega) (by rw [← hE, c_9]; show wt_bg fp jj kk r (i + 1) _ = (if true = true then wt_bg fp jj kk r (i + 1) (decide (fp (3 * jj + i) = fp (3 * kk + i))) else true); first | rw [if_pos rfl, decide_eq_true c_10] | rw [if_pos rfl, decide_eq_false c_10]) ls (lv_sub hl [2, 3, 4, 5, 1, 0] rfl)
              · skip
                refine lv_iconst (v := nI 1) hx hb dM_begins_66 (by decide) ?_
                refine lv_goto (tgt := 71) hx hb dM_begins_67 (by decide) ?_
                refine lv_istore (lv' := [(4, .int (nI 1)), (0, .ref (q 0)), (1, .int (nI jj)), (2, .int (nI kk)), (3, .int (nI nn)), (5, .int (nI i))]) hx hb dM_begins_71 hl (by decide) rfl (fun ls hl => ?_)
                refine lv_iinc (v := nI (i + 1)) (lv' := [(5, .int (nI (i + 1))), (4, .int (nI 1)), (0, .ref (q 0)), (1, .int (nI jj)), (2, .int (nI kk)), (3, .int (nI nn))]) hx hb dM_begins_73 hl (k := 5) rfl (wt_inc1 i) (by decide) rfl (fun ls hl => ?_)
                refine lv_goto (tgt := 30) hx hb dM_begins_76 (by decide) ?_
                exact ih30 (i + 1) true (by omega) (by rw [← hE, c_9]; show wt_bg fp jj kk r (i + 1) _ = (if true = true then wt_bg fp jj kk r (i + 1) (decide (fp (3 * jj + i) = fp (3 * kk + i))) else true); first | rw [if_pos rfl, decide_eq_true c_10] | rw [if_pos rfl, decide_eq_false c_10]) ls (lv_sub hl [2, 3, 4, 5, 1, 0] rfl)
      exact LP30 nn 0 false (Nat.zero_add nn) (by unfold wt_beg; first | (rw [decide_eq_true (p := nn ≤ zs jj) (by omega), decide_eq_true (p := nn ≤ zs kk) (by omega)]; rfl) | (rw [decide_eq_false (p := nn ≤ zs jj) (by omega)]; rfl) | (rw [decide_eq_false (p := nn ≤ zs kk) (by omega), Bool.and_false])) ls (lv_sub hl [2, 3, 4, 5, 1, 0] rfl)
    · skip
      refine lv_iconst (v := nI 1) hx hb dM_begins_20 (by decide) ?_
      refine lv_goto (tgt := 25) hx hb dM_begins_21 (by decide) ?_
      refine lv_istore (lv' := [(4, .int (nI 1)), (0, .ref (q 0)), (1, .int (nI jj)), (2, .int (nI kk)), (3, .int (nI nn))]) hx hb dM_begins_25 hl (by decide) rfl (fun ls hl => ?_)
      refine lv_iconst (v := nI 0) hx hb dM_begins_27 (by decide) ?_
      refine lv_istore (lv' := [(5, .int (nI 0)), (4, .int (nI 1)), (0, .ref (q 0)), (1, .int (nI jj)), (2, .int (nI kk)), (3, .int (nI nn))]) hx hb dM_begins_28 hl (by decide) rfl (fun ls hl => ?_)
      have LP30 : ∀ (r : Nat) (i : Nat) (sb : Bool) (hi : i + r = nn) (hE : wt_bg fp jj kk r i sb = wt_beg zs fp jj kk nn) (ls : Array Slot) (hl : lv_has ls 6 [(0, .ref (q 0)), (1, .int (nI jj)), (2, .int (nI kk)), (3, .int (nI nn)), (4, .int (wt_bI sb)), (5, .int (nI i))]), W p l e (headSpec (Cond.code yM_begins cM_begins 6 (some .boolean) :: tb) ({ frames := 0, cells := 0, slots := 0, locals := 0 })).room s m ([.ref (q 0), .int (nI jj), .int (nI kk), .int (nI nn)] : List Value).toArray below meth c s.heap [] 0 0 (MQ below (vp_Si (fun r => r = (wt_bI (wt_beg zs fp jj kk nn)))) ([.ref (q 0), .int (nI jj), .int (nI kk), .int (nI nn)] : List Value).toArray s 0 0 (fun _ => False)) (F0 m 30 ls []) := by
        intro r
        induction r with
        | zero =>
          intro i sb hi hE ls hl
          have hl : lv_has ls 6 [(0, .ref (q 0)), (1, .int (nI jj)), (2, .int (nI kk)), (3, .int (nI nn)), (4, .int (wt_bI sb)), (5, .int (nI i))] := hl
          refine lv_iload hx hb dM_begins_30 (lv_at hl 5 rfl) ?_
          refine lv_iload_n hx hb dM_begins_32 rfl (lv_at hl 3 rfl) ?_
          refine wt_icmp_ge (tgt := 79) hx hb dM_begins_33 (by decide) (by first | omega | (have := hzs jj; have := hzs kk; omega)) (by first | omega | (have := hzs jj; have := hzs kk; omega)) (fun c_11 => ?_) (fun c_11 => ?_)
          · skip
            refine lv_iload hx hb dM_begins_79 (lv_at hl 4 rfl) ?_
            exact W.zret (v := wt_bI sb) hx hb hr (wt_bI_nar _) (fun t ht hW => ⟨_, rfl, (congrArg wt_bI (by first | exact hE | (rw [← hE, c_11]; exact (bg_false fp jj kk (r + 1) i).symm))), ht⟩) (fun q h => by cases h) dM_begins_81
          · first | exact absurd c_11 (by omega) | exact absurd c_11 (by decide) | exact absurd (by decide) c_11
        | succ r ih30 =>
          intro i sb hi hE ls hl
          have hl : lv_has ls 6 [(0, .ref (q 0)), (1, .int (nI jj)), (2, .int (nI kk)), (3, .int (nI nn)), (4, .int (wt_bI sb)), (5, .int (nI i))] := hl
          refine lv_iload hx hb dM_begins_30 (lv_at hl 5 rfl) ?_
          refine lv_iload_n hx hb dM_begins_32 rfl (lv_at hl 3 rfl) ?_
          refine wt_icmp_ge (tgt := 79) hx hb dM_begins_33 (by decide) (by first | omega | (have := hzs jj; have := hzs kk; omega)) (by first | omega | (have := hzs jj; have := hzs kk; omega)) (fun c_12 => ?_) (fun c_12 => ?_)
          · first | exact absurd c_12 (by omega) | exact absurd c_12 (by decide) | exact absurd (by decide) c_12
          · skip
            refine lv_iload hx hb dM_begins_36 (lv_at hl 4 rfl) ?_
            refine wt_bif_eq (tgt := 79) hx hb dM_begins_38 (by decide) (fun c_13 => ?_) (fun c_13 => ?_)
            · skip
              refine lv_iload hx hb dM_begins_79 (lv_at hl 4 rfl) ?_
              exact W.zret (v := wt_bI sb) hx hb hr (wt_bI_nar _) (fun t ht hW => ⟨_, rfl, (congrArg wt_bI (by first | exact hE | (rw [← hE, c_13]; exact (bg_false fp jj kk (r + 1) i).symm))), ht⟩) (fun q h => by cases h) dM_begins_81
            · skip
              refine lv_aload_n hx hb dM_begins_41 rfl (lv_at hl 0 rfl) ?_
              refine va_get (D := (dC, dI)) (ci := 5) (v := .ref (q 6)) (C := RM) (T := TM) (N := 20) hx hb ht inM hown hK hP 0 rfl rfl 6 (by decide) (ht _ m_400) (fun _ h9 => h9) rfl dM_begins_42 ?_
              refine lv_iconst (v := nI 3) hx hb dM_begins_45 (by decide) ?_
              refine lv_iload_n hx hb dM_begins_46 rfl (lv_at hl 1 rfl) ?_
              refine wt_imul hx hb dM_begins_47 ?_
              refine lv_iload hx hb dM_begins_48 (lv_at hl 5 rfl) ?_
              refine wt_iadd hx hb dM_begins_50 ?_
              refine wt_iald hx hb hK hP 6 0 rfl rfl (k := 3 * jj + i) (by first | omega | (have := hzs jj; have := hzs kk; omega)) (by decide) dM_begins_51 ?_
              refine lv_aload_n hx hb dM_begins_52 rfl (lv_at hl 0 rfl) ?_
              refine va_get (D := (dC, dI)) (ci := 5) (v := .ref (q 6)) (C := RM) (T := TM) (N := 20) hx hb ht inM hown hK hP 0 rfl rfl 6 (by decide) (ht _ m_400) (fun _ h9 => h9) rfl dM_begins_53 ?_
              refine lv_iconst (v := nI 3) hx hb dM_begins_56 (by decide) ?_
              refine lv_iload_n hx hb dM_begins_57 rfl (lv_at hl 2 rfl) ?_
              refine wt_imul hx hb dM_begins_58 ?_
              refine lv_iload hx hb dM_begins_59 (lv_at hl 5 rfl) ?_
              refine wt_iadd hx hb dM_begins_61 ?_
              refine wt_iald hx hb hK hP 6 0 rfl rfl (k := 3 * kk + i) (by first | omega | (have := hzs jj; have := hzs kk; omega)) (by decide) dM_begins_62 ?_
              refine lv_icmp_ne (tgt := 70) hx hb dM_begins_63 (by decide) (fun c_14 => ?_) (fun c_14 => ?_)
              · skip
                refine lv_iconst (v := nI 0) hx hb dM_begins_70 (by decide) ?_
                refine lv_istore (lv' := [(4, .int (nI 0)), (0, .ref (q 0)), (1, .int (nI jj)), (2, .int (nI kk)), (3, .int (nI nn)), (5, .int (nI i))]) hx hb dM_begins_71 hl (by decide) rfl (fun ls hl => ?_)
                refine lv_iinc (v := nI (i + 1)) (lv' := [(5, .int (nI (i + 1))), (4, .int (nI 0)), (0, .ref (q 0)), (1, .int (nI jj)), (2, .int (nI kk)), (3, .int (nI nn))]) hx hb dM_begins_73 hl (k := 5) rfl (wt_inc1 i) (by decide) rfl (fun ls hl => ?_)
                refine lv_goto (tgt := 30) hx hb dM_begins_76 (by decide) ?_
                exact ih30 (i + 1) false (by omega) (by rw [← hE, c_13]; show wt_bg fp jj kk r (i + 1) _ = (if true = true then wt_bg fp jj kk r (i + 1) (decide (fp (3 * jj + i) = fp (3 * kk + i))) else true); first | rw [if_pos rfl, decide_eq_true c_14] | rw [if_pos rfl, decide_eq_false c_14]) ls (lv_sub hl [2, 3, 4, 5, 1, 0] rfl)
              · skip
                refine lv_iconst (v := nI 1) hx hb dM_begins_66 (by decide) ?_
                refine lv_goto (tgt := 71) hx hb dM_begins_67 (by decide) ?_
                refine lv_istore (lv' := [(4, .int (nI 1)), (0, .ref (q 0)), (1, .int (nI jj)), (2, .int (nI kk)), (3, .int (nI nn)), (5, .int (nI i))]) hx hb dM_begins_71 hl (by decide) rfl (fun ls hl => ?_)
                refine lv_iinc (v := nI (i + 1)) (lv' := [(5, .int (nI (i + 1))), (4, .int (nI 1)), (0, .ref (q 0)), (1, .int (nI jj)), (2, .int (nI kk)), (3, .int (nI nn))]) hx hb dM_begins_73 hl (k := 5) rfl (wt_inc1 i) (by decide) rfl (fun ls hl => ?_)
                refine lv_goto (tgt := 30) hx hb dM_begins_76 (by decide) ?_
                exact ih30 (i + 1) true (by omega) (by rw [← hE, c_13]; show wt_bg fp jj kk r (i + 1) _ = (if true = true then wt_bg fp jj kk r (i + 1) (decide (fp (3 * jj + i) = fp (3 * kk + i))) else true); first | rw [if_pos rfl, decide_eq_true c_14] | rw [if_pos rfl, decide_eq_false c_14]) ls (lv_sub hl [2, 3, 4, 5, 1, 0] rfl)
      exact LP30 nn 0 true (Nat.zero_add nn) (by unfold wt_beg; first | (rw [decide_eq_true (p := nn ≤ zs jj) (by omega), decide_eq_true (p := nn ≤ zs kk) (by omega)]; rfl) | (rw [decide_eq_false (p := nn ≤ zs jj) (by omega)]; rfl) | (rw [decide_eq_false (p := nn ≤ zs kk) (by omega), Bool.and_false])) ls (lv_sub hl [2, 3, 4, 5, 1, 0] rfl)

set_option maxHeartbeats 4000000 in
set_option maxRecDepth 100000 in
theorem c_M_fresh (l : Launch) (dC : Nat → ClassId) (dI : Nat → Nat → Nat) (cI cZ cL : ClassId) (q : Nat → Nat) (kn : Nat → Bool) (co : Nat → Int32) (bo : Nat → Int32) (mn : Nat) (wd : Nat → Nat) (zs : Nat → Nat) (fp : Nat → Int32) (ho : Nat → Int32) (lv : Nat → Int32) (fr : Nat) (so : Nat → Int32) (ea : Nat → Int32) (dn : Nat → Int32) (cd : Nat → Int32) (nx : Nat → Int32) (nd : Nat → Int32) (nc : Nat → Int32) (al : Int32) (wo : Int32) (wh : Int32) (kk : Nat) (nn : Nat) (hkk : kk < 8) (hnn : nn ≤ 3) (hzs : ∀ k, zs k ≤ 3) : Met l yM_fresh (Cond.code yM_fresh cM_fresh 5 (some .boolean) :: tb) ({ frames := 1, cells := 0, slots := 0, locals := 25 }) (va_Pc [.ref (q 0), .int (nI kk), .int (nI nn)] (wt_ro (dC, dI) vwCl [(cI, .int), (cZ, .boolean), (cL, .long)] (wM cI cZ cL q kn co bo mn wd zs fp ho lv fr so ea dn cd nx nd nc al wo wh))) (vp_Si (fun r => r = (wt_bI (wt_fre zs fp kk nn)))) 0 0 (fun _ => False) := by
  refine Met.ofW (cc := cM_fresh) (maxL := 5) (ret := (some .boolean)) (by decide) rfl ?_
  intro p e s m args below meth c s₁ B hml hv
  obtain ⟨rfl, hP, hK, hN⟩ := hv
  have hx := B.exec
  have hb := B.bytes
  have hr := B.returns
  have hts := atoms_spec (ws := (Cond.code yM_fresh cM_fresh 5 (some .boolean) :: tb)) B.pre
  have ht : ∀ w ∈ tb, w.before _ s = true := fun w h => hts w (List.mem_cons_of_mem _ h)
  have hown : s.vm.findClass RM = some m.cls := findClass_of_methodNamed B.named
  have hlocks := B.notSynchronized
  have hl := lv_entry ([.ref (q 0), .int (nI kk), .int (nI nn)]) (n := 5) (Nat.le_of_ble_eq_true rfl)
  rw [lg_entry_eq]
  generalize (lg_sl ([.ref (q 0), .int (nI kk), .int (nI nn)]) ++ List.replicate (5 - (lg_sl ([.ref (q 0), .int (nI kk), .int (nI nn)])).length) Slot.unset).toArray = ls at hl ⊢
  have hl : lv_has ls 5 [(0, .ref (q 0)), (1, .int (nI kk)), (2, .int (nI nn))] := hl
  refine lv_iconst (v := nI 1) hx hb dM_fresh_0 (by decide) ?_
  refine lv_istore_n (lv' := [(3, .int (nI 1)), (0, .ref (q 0)), (1, .int (nI kk)), (2, .int (nI nn))]) hx hb dM_fresh_1 rfl hl (by decide) rfl (fun ls hl => ?_)
  refine lv_iconst (v := nI 0) hx hb dM_fresh_2 (by decide) ?_
  refine lv_istore (lv' := [(4, .int (nI 0)), (3, .int (nI 1)), (0, .ref (q 0)), (1, .int (nI kk)), (2, .int (nI nn))]) hx hb dM_fresh_3 hl (by decide) rfl (fun ls hl => ?_)
  have LP5 : ∀ (r : Nat) (j : Nat) (nb : Bool) (hj : j + r = kk) (hE : wt_up (fun j b => b && !(wt_beg zs fp j kk nn)) r j nb = wt_fre zs fp kk nn) (ls : Array Slot) (hl : lv_has ls 5 [(0, .ref (q 0)), (1, .int (nI kk)), (2, .int (nI nn)), (3, .int (wt_bI nb)), (4, .int (nI j))]), W p l e (headSpec (Cond.code yM_fresh cM_fresh 5 (some .boolean) :: tb) ({ frames := 1, cells := 0, slots := 0, locals := 25 })).room s m ([.ref (q 0), .int (nI kk), .int (nI nn)] : List Value).toArray below meth c s.heap [] 0 0 (MQ below (vp_Si (fun r => r = (wt_bI (wt_fre zs fp kk nn)))) ([.ref (q 0), .int (nI kk), .int (nI nn)] : List Value).toArray s 0 0 (fun _ => False)) (F0 m 5 ls []) := by
    intro r
    induction r with
    | zero =>
      intro j nb hj hE ls hl
      have hl : lv_has ls 5 [(0, .ref (q 0)), (1, .int (nI kk)), (2, .int (nI nn)), (3, .int (wt_bI nb)), (4, .int (nI j))] := hl
      refine lv_iload hx hb dM_fresh_5 (lv_at hl 4 rfl) ?_
      refine lv_iload_n hx hb dM_fresh_7 rfl (lv_at hl 1 rfl) ?_
      refine wt_icmp_ge (tgt := 38) hx hb dM_fresh_8 (by decide) (by omega) (by omega) (fun c_1 => ?_) (fun c_1 => ?_)
      · skip
        refine lv_iload_n hx hb dM_fresh_38 rfl (lv_at hl 3 rfl) ?_
        exact W.zret (v := wt_bI nb) hx hb hr (wt_bI_nar _) (fun t ht hW => ⟨_, rfl, (congrArg wt_bI hE), ht⟩) (fun q h => by cases h) dM_fresh_39
      · first | exact absurd c_1 (by omega) | exact absurd c_1 (by decide) | exact absurd (by decide) c_1
    | succ r ih5 =>
      intro j nb hj hE ls hl
      have hl : lv_has ls 5 [(0, .ref (q 0)), (1, .int (nI kk)), (2, .int (nI nn)), (3, .int (wt_bI nb)), (4, .int (nI j))] := hl
      refine lv_iload hx hb dM_fresh_5 (lv_at hl 4 rfl) ?_
      refine lv_iload_n hx hb dM_fresh_7 rfl (lv_at hl 1 rfl) ?_
      refine wt_icmp_ge (tgt := 38) hx hb dM_fresh_8 (by decide) (by omega) (by omega) (fun c_2 => ?_) (fun c_2 => ?_)
      · first | exact absurd c_2 (by omega) | exact absurd c_2 (by decide) | exact absurd (by decide) c_2
      · skip
        refine lv_iload_n hx hb dM_fresh_11 rfl (lv_at hl 3 rfl) ?_
        refine wt_bif_eq (tgt := 30) hx hb dM_fresh_12 (by decide) (fun c_3 => ?_) (fun c_3 => ?_)
        · skip
          refine lv_iconst (v := nI 0) hx hb dM_fresh_30 (by decide) ?_
          refine lv_istore_n (lv' := [(3, .int (nI 0)), (0, .ref (q 0)), (1, .int (nI kk)), (2, .int (nI nn)), (4, .int (nI j))]) hx hb dM_fresh_31 rfl hl (by decide) rfl (fun ls hl => ?_)
          refine lv_iinc (v := nI (j + 1)) (lv' := [(4, .int (nI (j + 1))), (3, .int (nI 0)), (0, .ref (q 0)), (1, .int (nI kk)), (2, .int (nI nn))]) hx hb dM_fresh_32 hl (k := 4) rfl (wt_inc1 j) (by decide) rfl (fun ls hl => ?_)
          refine lv_goto (tgt := 5) hx hb dM_fresh_35 (by decide) ?_
          exact ih5 (j + 1) false (by omega) (by first | exact (congrArg (fun b => wt_up (fun j b => b && !(wt_beg zs fp j kk nn)) r (j + 1) b) (show (nb && !(wt_beg zs fp j kk nn)) = true from by rw [c_2, c_3]; rfl)).symm.trans hE | exact (congrArg (fun b => wt_up (fun j b => b && !(wt_beg zs fp j kk nn)) r (j + 1) b) (show (nb && !(wt_beg zs fp j kk nn)) = false from by rw [c_2, c_3]; rfl)).symm.trans hE | exact (congrArg (fun b => wt_up (fun j b => b && !(wt_beg zs fp j kk nn)) r (j + 1) b) (show (nb && !(wt_beg zs fp j kk nn)) = false from by rw [c_3]; rfl)).symm.trans hE) ls (lv_sub hl [2, 3, 4, 1, 0] rfl)
        · skip
          refine lv_aload_n hx hb dM_fresh_15 rfl (lv_at hl 0 rfl) ?_
          refine lv_iload hx hb dM_fresh_16 (lv_at hl 4 rfl) ?_
          refine lv_iload_n hx hb dM_fresh_18 rfl (lv_at hl 1 rfl) ?_
          refine lv_iload_n hx hb dM_fresh_19 rfl (lv_at hl 2 rfl) ?_
          refine wt_roi (va_runV (As := [.int (nI j), .int (nI kk), .int (nI nn)]) (rest := []) ⟨hx, hb, hml, hown, ht⟩ (c_M_begins l dC dI cI cZ cL q kn co bo mn wd zs fp ho lv fr so ea dn cd nx nd nc al wo wh j kk nn (by omega) hkk hnn hzs) (cwV 3 ht (good_V m_463 m_465 ms_12 m_7 m_466) rfl rfl rfl (by decide +kernel) ⟨Nat.le_of_ble_eq_true rfl, Nat.le_of_ble_eq_true rfl⟩) (wt_preV hK hN hP (va_recv hK hP (ci := 5) (q0 := 0) rfl rfl)) rfl rfl hl.1 rfl (lv_room (Nat.le_of_ble_eq_true rfl)) dM_fresh_20 ⟨Nat.le_of_ble_eq_true rfl, Nat.le_of_ble_eq_true rfl⟩) ?_
          refine wt_bif_ne (tgt := 30) hx hb dM_fresh_23 (by decide) (fun c_4 => ?_) (fun c_4 => ?_)
          · skip
            refine lv_iconst (v := nI 0) hx hb dM_fresh_30 (by decide) ?_
            refine lv_istore_n (lv' := [(3, .int (nI 0)), (0, .ref (q 0)), (1, .int (nI kk)), (2, .int (nI nn)), (4, .int (nI j))]) hx hb dM_fresh_31 rfl hl (by decide) rfl (fun ls hl => ?_)
            refine lv_iinc (v := nI (j + 1)) (lv' := [(4, .int (nI (j + 1))), (3, .int (nI 0)), (0, .ref (q 0)), (1, .int (nI kk)), (2, .int (nI nn))]) hx hb dM_fresh_32 hl (k := 4) rfl (wt_inc1 j) (by decide) rfl (fun ls hl => ?_)
            refine lv_goto (tgt := 5) hx hb dM_fresh_35 (by decide) ?_
            exact ih5 (j + 1) false (by omega) (by first | exact (congrArg (fun b => wt_up (fun j b => b && !(wt_beg zs fp j kk nn)) r (j + 1) b) (show (nb && !(wt_beg zs fp j kk nn)) = true from by rw [c_3, c_4]; rfl)).symm.trans hE | exact (congrArg (fun b => wt_up (fun j b => b && !(wt_beg zs fp j kk nn)) r (j + 1) b) (show (nb && !(wt_beg zs fp j kk nn)) = false from by rw [c_3, c_4]; rfl)).symm.trans hE | exact (congrArg (fun b => wt_up (fun j b => b && !(wt_beg zs fp j kk nn)) r (j + 1) b) (show (nb && !(wt_beg zs fp j kk nn)) = false from by rw [c_4]; rfl)).symm.trans hE) ls (lv_sub hl [2, 3, 4, 1, 0] rfl)
          · skip
            refine lv_iconst (v := nI 1) hx hb dM_fresh_26 (by decide) ?_
            refine lv_goto (tgt := 31) hx hb dM_fresh_27 (by decide) ?_
            refine lv_istore_n (lv' := [(3, .int (nI 1)), (0, .ref (q 0)), (1, .int (nI kk)), (2, .int (nI nn)), (4, .int (nI j))]) hx hb dM_fresh_31 rfl hl (by decide) rfl (fun ls hl => ?_)
            refine lv_iinc (v := nI (j + 1)) (lv' := [(4, .int (nI (j + 1))), (3, .int (nI 1)), (0, .ref (q 0)), (1, .int (nI kk)), (2, .int (nI nn))]) hx hb dM_fresh_32 hl (k := 4) rfl (wt_inc1 j) (by decide) rfl (fun ls hl => ?_)
            refine lv_goto (tgt := 5) hx hb dM_fresh_35 (by decide) ?_
            exact ih5 (j + 1) true (by omega) (by first | exact (congrArg (fun b => wt_up (fun j b => b && !(wt_beg zs fp j kk nn)) r (j + 1) b) (show (nb && !(wt_beg zs fp j kk nn)) = true from by rw [c_3, c_4]; rfl)).symm.trans hE | exact (congrArg (fun b => wt_up (fun j b => b && !(wt_beg zs fp j kk nn)) r (j + 1) b) (show (nb && !(wt_beg zs fp j kk nn)) = false from by rw [c_3, c_4]; rfl)).symm.trans hE | exact (congrArg (fun b => wt_up (fun j b => b && !(wt_beg zs fp j kk nn)) r (j + 1) b) (show (nb && !(wt_beg zs fp j kk nn)) = false from by rw [c_4]; rfl)).symm.trans hE) ls (lv_sub hl [2, 3, 4, 1, 0] rfl)
  exact LP5 kk 0 true (Nat.zero_add kk) rfl ls (lv_sub hl [2, 3, 4, 1, 0] rfl)

set_option maxHeartbeats 4000000 in
set_option maxRecDepth 100000 in
theorem c_M_nodes (l : Launch) (dC : Nat → ClassId) (dI : Nat → Nat → Nat) (cI cZ cL : ClassId) (q : Nat → Nat) (kn : Nat → Bool) (co : Nat → Int32) (bo : Nat → Int32) (mn : Nat) (wd : Nat → Nat) (zs : Nat → Nat) (fp : Nat → Int32) (ho : Nat → Int32) (lv : Nat → Int32) (fr : Nat) (so : Nat → Int32) (ea : Nat → Int32) (dn : Nat → Int32) (cd : Nat → Int32) (nx : Nat → Int32) (nd : Nat → Int32) (nc : Nat → Int32) (al : Int32) (wo : Int32) (wh : Int32) (hmn : mn ≤ 8) (hzs : ∀ k, zs k ≤ 3) : Met l yM_nodes (Cond.code yM_nodes cM_nodes 4 (some .int) :: tb) ({ frames := 2, cells := 0, slots := 0, locals := 49 }) (va_Pc [.ref (q 0)] (wt_ro (dC, dI) vwCl [(cI, .int), (cZ, .boolean), (cL, .long)] (wM cI cZ cL q kn co bo mn wd zs fp ho lv fr so ea dn cd nx nd nc al wo wh))) (vp_Si (fun r => r = (nI (wt_nod zs fp mn)))) 0 0 (fun _ => False) := by
  refine Met.ofW (cc := cM_nodes) (maxL := 4) (ret := (some .int)) (by decide) rfl ?_
  intro p e s m args below meth c s₁ B hml hv
  obtain ⟨rfl, hP, hK, hN⟩ := hv
  have hx := B.exec
  have hb := B.bytes
  have hr := B.returns
  have hts := atoms_spec (ws := (Cond.code yM_nodes cM_nodes 4 (some .int) :: tb)) B.pre
  have ht : ∀ w ∈ tb, w.before _ s = true := fun w h => hts w (List.mem_cons_of_mem _ h)
  have hown : s.vm.findClass RM = some m.cls := findClass_of_methodNamed B.named
  have hlocks := B.notSynchronized
  have hl := lv_entry ([.ref (q 0)]) (n := 4) (Nat.le_of_ble_eq_true rfl)
  rw [lg_entry_eq]
  generalize (lg_sl ([.ref (q 0)]) ++ List.replicate (4 - (lg_sl ([.ref (q 0)])).length) Slot.unset).toArray = ls at hl ⊢
  have hl : lv_has ls 4 [(0, .ref (q 0))] := hl
  refine lv_iconst (v := nI 0) hx hb dM_nodes_0 (by decide) ?_
  refine lv_istore_n (lv' := [(1, .int (nI 0)), (0, .ref (q 0))]) hx hb dM_nodes_1 rfl hl (by decide) rfl (fun ls hl => ?_)
  refine lv_iconst (v := nI 0) hx hb dM_nodes_2 (by decide) ?_
  refine lv_istore_n (lv' := [(2, .int (nI 0)), (1, .int (nI 0)), (0, .ref (q 0))]) hx hb dM_nodes_3 rfl hl (by decide) rfl (fun ls hl => ?_)
  have LP4 : ∀ (r : Nat) (k : Nat) (n1 : Nat) (hk : k + r = mn) (hE : wt_up (fun k n => wt_up (fun i n => if wt_fre zs fp k i = true then n + 1 else n) (zs k) 1 n) r k n1 = wt_nod zs fp mn) (ls : Array Slot) (hl : lv_has ls 4 [(0, .ref (q 0)), (1, .int (nI n1)), (2, .int (nI k))]), W p l e (headSpec (Cond.code yM_nodes cM_nodes 4 (some .int) :: tb) ({ frames := 2, cells := 0, slots := 0, locals := 49 })).room s m ([.ref (q 0)] : List Value).toArray below meth c s.heap [] 0 0 (MQ below (vp_Si (fun r => r = (nI (wt_nod zs fp mn)))) ([.ref (q 0)] : List Value).toArray s 0 0 (fun _ => False)) (F0 m 4 ls []) := by
    intro r
    induction r with
    | zero =>
      intro k n1 hk hE ls hl
      have hl : lv_has ls 4 [(0, .ref (q 0)), (1, .int (nI n1)), (2, .int (nI k))] := hl
      refine lv_iload_n hx hb dM_nodes_4 rfl (lv_at hl 2 rfl) ?_
      refine lv_aload_n hx hb dM_nodes_5 rfl (lv_at hl 0 rfl) ?_
      refine va_get (D := (dC, dI)) (ci := 5) (v := .int (nI mn)) (C := RM) (T := TM) (N := 20) hx hb ht inM hown hK hP 0 rfl rfl 3 (by decide) (ht _ m_397) (fun _ h9 => h9) rfl dM_nodes_6 ?_
      refine wt_icmp_ge (tgt := 53) hx hb dM_nodes_9 (by decide) (by first | omega | (have := hzs k; omega)) (by first | omega | (have := hzs k; omega)) (fun c_1 => ?_) (fun c_1 => ?_)
      · skip
        refine lv_iload_n hx hb dM_nodes_53 rfl (lv_at hl 1 rfl) ?_
        exact W.iret (v := nI n1) hx hb hr (fun t ht hW => ⟨_, rfl, (congrArg nI hE), ht⟩) (fun q h => by cases h) dM_nodes_54
      · first | exact absurd c_1 (by omega) | exact absurd c_1 (by decide) | exact absurd (by decide) c_1
    | succ r ih4 =>
      intro k n1 hk hE ls hl
      have hl : lv_has ls 4 [(0, .ref (q 0)), (1, .int (nI n1)), (2, .int (nI k))] := hl
      refine lv_iload_n hx hb dM_nodes_4 rfl (lv_at hl 2 rfl) ?_
      refine lv_aload_n hx hb dM_nodes_5 rfl (lv_at hl 0 rfl) ?_
      refine va_get (D := (dC, dI)) (ci := 5) (v := .int (nI mn)) (C := RM) (T := TM) (N := 20) hx hb ht inM hown hK hP 0 rfl rfl 3 (by decide) (ht _ m_397) (fun _ h9 => h9) rfl dM_nodes_6 ?_
      refine wt_icmp_ge (tgt := 53) hx hb dM_nodes_9 (by decide) (by first | omega | (have := hzs k; omega)) (by first | omega | (have := hzs k; omega)) (fun c_2 => ?_) (fun c_2 => ?_)
      · first | exact absurd c_2 (by omega) | exact absurd c_2 (by decide) | exact absurd (by decide) c_2
      · skip
        refine lv_iconst (v := nI 1) hx hb dM_nodes_12 (by decide) ?_
        refine lv_istore_n (lv' := [(3, .int (nI 1)), (0, .ref (q 0)), (1, .int (nI n1)), (2, .int (nI k))]) hx hb dM_nodes_13 rfl hl (by decide) rfl (fun ls hl => ?_)
        have LP14 : ∀ (r2 : Nat) (i : Nat) (n2 : Nat) (hi : i + r2 = zs k + 1) (hi1 : 1 ≤ i) (hE2 : wt_up (fun i n => if wt_fre zs fp k i = true then n + 1 else n) r2 i n2 = wt_up (fun i n => if wt_fre zs fp k i = true then n + 1 else n) (zs k) 1 n1) (ls : Array Slot) (hl : lv_has ls 4 [(0, .ref (q 0)), (1, .int (nI n2)), (2, .int (nI k)), (3, .int (nI i))]), W p l e (headSpec (Cond.code yM_nodes cM_nodes 4 (some .int) :: tb) ({ frames := 2, cells := 0, slots := 0, locals := 49 })).room s m ([.ref (q 0)] : List Value).toArray below meth c s.heap [] 0 0 (MQ below (vp_Si (fun r => r = (nI (wt_nod zs fp mn)))) ([.ref (q 0)] : List Value).toArray s 0 0 (fun _ => False)) (F0 m 14 ls []) := by
          intro r2
          induction r2 with
          | zero =>
            intro i n2 hi hi1 hE2 ls hl
            have hl : lv_has ls 4 [(0, .ref (q 0)), (1, .int (nI n2)), (2, .int (nI k)), (3, .int (nI i))] := hl
            refine lv_iload_n hx hb dM_nodes_14 rfl (lv_at hl 3 rfl) ?_
            refine lv_aload_n hx hb dM_nodes_15 rfl (lv_at hl 0 rfl) ?_
            refine va_get (D := (dC, dI)) (ci := 5) (v := .ref (q 5)) (C := RM) (T := TM) (N := 20) hx hb ht inM hown hK hP 0 rfl rfl 5 (by decide) (ht _ m_399) (fun _ h9 => h9) rfl dM_nodes_16 ?_
            refine lv_iload_n hx hb dM_nodes_19 rfl (lv_at hl 2 rfl) ?_
            refine wt_ialdN hx hb hK hP 5 0 rfl rfl (k := k) (by first | omega | (have := hzs k; omega)) (by decide) dM_nodes_20 ?_
            refine wt_icmp_gt (tgt := 47) hx hb dM_nodes_21 (by decide) (by first | omega | (have := hzs k; omega)) (by first | omega | (have := hzs k; omega)) (fun c_3 => ?_) (fun c_3 => ?_)
            · skip
              refine lv_iinc (v := nI (k + 1)) (lv' := [(2, .int (nI (k + 1))), (0, .ref (q 0)), (1, .int (nI n2)), (3, .int (nI i))]) hx hb dM_nodes_47 hl (k := 2) rfl (wt_inc1 k) (by decide) rfl (fun ls hl => ?_)
              refine lv_goto (tgt := 4) hx hb dM_nodes_50 (by decide) ?_
              exact ih4 (k + 1) n2 (by omega) (by rw [show n2 = wt_up (fun i n => if wt_fre zs fp k i = true then n + 1 else n) (zs k) 1 n1 from hE2]; exact hE) ls (lv_sub hl [1, 2, 0] rfl)
            · first | exact absurd c_3 (by omega) | exact absurd c_3 (by decide) | exact absurd (by decide) c_3
          | succ r2 ih14 =>
            intro i n2 hi hi1 hE2 ls hl
            have hl : lv_has ls 4 [(0, .ref (q 0)), (1, .int (nI n2)), (2, .int (nI k)), (3, .int (nI i))] := hl
            refine lv_iload_n hx hb dM_nodes_14 rfl (lv_at hl 3 rfl) ?_
            refine lv_aload_n hx hb dM_nodes_15 rfl (lv_at hl 0 rfl) ?_
            refine va_get (D := (dC, dI)) (ci := 5) (v := .ref (q 5)) (C := RM) (T := TM) (N := 20) hx hb ht inM hown hK hP 0 rfl rfl 5 (by decide) (ht _ m_399) (fun _ h9 => h9) rfl dM_nodes_16 ?_
            refine lv_iload_n hx hb dM_nodes_19 rfl (lv_at hl 2 rfl) ?_
            refine wt_ialdN hx hb hK hP 5 0 rfl rfl (k := k) (by first | omega | (have := hzs k; omega)) (by decide) dM_nodes_20 ?_
            refine wt_icmp_gt (tgt := 47) hx hb dM_nodes_21 (by decide) (by first | omega | (have := hzs k; omega)) (by first | omega | (have := hzs k; omega)) (fun c_4 => ?_) (fun c_4 => ?_)
            · first | exact absurd c_4 (by omega) | exact absurd c_4 (by decide) | exact absurd (by decide) c_4
            · skip
              refine lv_aload_n hx hb dM_nodes_24 rfl (lv_at hl 0 rfl) ?_
              refine lv_iload_n hx hb dM_nodes_25 rfl (lv_at hl 2 rfl) ?_
              refine lv_iload_n hx hb dM_nodes_26 rfl (lv_at hl 3 rfl) ?_
              refine wt_roi (va_runV (As := [.int (nI k), .int (nI i)]) (rest := []) ⟨hx, hb, hml, hown, ht⟩ (c_M_fresh l dC dI cI cZ cL q kn co bo mn wd zs fp ho lv fr so ea dn cd nx nd nc al wo wh k i (by omega) (by have := hzs k; omega) hzs) (cwV 2 ht (good_V m_459 m_461 ms_11 m_7 m_462) rfl rfl rfl (by decide +kernel) ⟨Nat.le_of_ble_eq_true rfl, Nat.le_of_ble_eq_true rfl⟩) (wt_preV hK hN hP (va_recv hK hP (ci := 5) (q0 := 0) rfl rfl)) rfl rfl hl.1 rfl (lv_room (Nat.le_of_ble_eq_true rfl)) dM_nodes_27 ⟨Nat.le_of_ble_eq_true rfl, Nat.le_of_ble_eq_true rfl⟩) ?_
              refine wt_bif_eq (tgt := 39) hx hb dM_nodes_30 (by decide) (fun c_5 => ?_) (fun c_5 => ?_)
              · skip
                refine lv_iload_n hx hb dM_nodes_39 rfl (lv_at hl 1 rfl) ?_
                refine lv_istore_n (lv' := [(1, .int (nI n2)), (0, .ref (q 0)), (2, .int (nI k)), (3, .int (nI i))]) hx hb dM_nodes_40 rfl hl (by decide) rfl (fun ls hl => ?_)
                refine lv_iinc (v := nI (i + 1)) (lv' := [(3, .int (nI (i + 1))), (1, .int (nI n2)), (0, .ref (q 0)), (2, .int (nI k))]) hx hb dM_nodes_41 hl (k := 3) rfl (wt_inc1 i) (by decide) rfl (fun ls hl => ?_)
                refine lv_goto (tgt := 14) hx hb dM_nodes_44 (by decide) ?_
                exact ih14 (i + 1) n2 (by omega) (by omega) (by first | exact (congrArg (fun x => wt_up (fun i n => if wt_fre zs fp k i = true then n + 1 else n) r2 (i + 1) x) (if_pos c_5)).symm.trans hE2 | exact (congrArg (fun x => wt_up (fun i n => if wt_fre zs fp k i = true then n + 1 else n) r2 (i + 1) x) (if_neg (by rw [c_5]; decide))).symm.trans hE2) ls (lv_sub hl [2, 1, 3, 0] rfl)
              · skip
                refine lv_iload_n hx hb dM_nodes_33 rfl (lv_at hl 1 rfl) ?_
                refine lv_iconst (v := nI 1) hx hb dM_nodes_34 (by decide) ?_
                refine wt_iadd hx hb dM_nodes_35 ?_
                refine lv_goto (tgt := 40) hx hb dM_nodes_36 (by decide) ?_
                refine lv_istore_n (lv' := [(1, .int (nI (n2 + 1))), (0, .ref (q 0)), (2, .int (nI k)), (3, .int (nI i))]) hx hb dM_nodes_40 rfl hl (by decide) rfl (fun ls hl => ?_)
                refine lv_iinc (v := nI (i + 1)) (lv' := [(3, .int (nI (i + 1))), (1, .int (nI (n2 + 1))), (0, .ref (q 0)), (2, .int (nI k))]) hx hb dM_nodes_41 hl (k := 3) rfl (wt_inc1 i) (by decide) rfl (fun ls hl => ?_)
                refine lv_goto (tgt := 14) hx hb dM_nodes_44 (by decide) ?_
                exact ih14 (i + 1) (n2 + 1) (by omega) (by omega) (by first | exact (congrArg (fun x => wt_up (fun i n => if wt_fre zs fp k i = true then n + 1 else n) r2 (i + 1) x) (if_pos c_5)).symm.trans hE2 | exact (congrArg (fun x => wt_up (fun i n => if wt_fre zs fp k i = true then n + 1 else n) r2 (i + 1) x) (if_neg (by rw [c_5]; decide))).symm.trans hE2) ls (lv_sub hl [2, 1, 3, 0] rfl)
        exact LP14 (zs k) 1 n1 (Nat.add_comm 1 (zs k)) (Nat.le_refl 1) rfl ls (lv_sub hl [1, 2, 3, 0] rfl)
  exact LP4 mn 0 0 (Nat.zero_add mn) rfl ls (lv_sub hl [2, 1, 0] rfl)

set_option maxHeartbeats 4000000 in
set_option maxRecDepth 100000 in
theorem c_M_slot_g (l : Launch) (dC : Nat → ClassId) (dI : Nat → Nat → Nat) (cI cZ cL : ClassId) (uu : Int32) (vv : Int32) (ww : Int32) (hbad : wt_isG uu vv ww = false) : Met l yM_slot (Cond.code yM_slot cM_slot 3 (some .int) :: tb) ({ frames := 1, cells := 0, slots := 0, locals := 21 }) (va_Pc [.int uu, .int vv, .int ww] (wt_ro (dC, dI) vwCl [(cI, .int), (cZ, .boolean), (cL, .long)] [])) (vp_Si (fun r => r = (-1))) 0 0 (fun _ => False) := by
  refine Met.ofW (cc := cM_slot) (maxL := 3) (ret := (some .int)) (by decide) rfl ?_
  intro p e s m args below meth c s₁ B hml hv
  obtain ⟨rfl, hP, hK, hN⟩ := hv
  have hx := B.exec
  have hb := B.bytes
  have hr := B.returns
  have hts := atoms_spec (ws := (Cond.code yM_slot cM_slot 3 (some .int) :: tb)) B.pre
  have ht : ∀ w ∈ tb, w.before _ s = true := fun w h => hts w (List.mem_cons_of_mem _ h)
  have hown : s.vm.findClass RM = some m.cls := findClass_of_methodNamed B.named
  have hlocks := B.notSynchronized
  have hl := lv_entry ([.int uu, .int vv, .int ww]) (n := 3) (Nat.le_of_ble_eq_true rfl)
  rw [lg_entry_eq]
  generalize (lg_sl ([.int uu, .int vv, .int ww]) ++ List.replicate (3 - (lg_sl ([.int uu, .int vv, .int ww])).length) Slot.unset).toArray = ls at hl ⊢
  have hl : lv_has ls 3 [(0, .int uu), (1, .int vv), (2, .int ww)] := hl
  refine lv_iload_n hx hb dM_slot_0 rfl (lv_at hl 2 rfl) ?_
  refine lv_iconst (v := nI 4) hx hb dM_slot_1 (by decide) ?_
  refine wt_roi (va_runS (As := [.int ww, .int (nI 4)]) (rest := []) ⟨hx, hb, hml, hown, ht⟩ (c_M_up_4 l dC dI cI cZ cL ww) (va_cwS 2 ht (good_S m_471 m_472 m_7 m_473) rfl rfl rfl (by decide +kernel) ⟨Nat.le_of_ble_eq_true rfl, Nat.le_of_ble_eq_true rfl⟩) (wt_preS hK hN hP) rfl rfl hl.1 rfl (lv_room (Nat.le_of_ble_eq_true rfl)) dM_slot_2 ⟨Nat.le_of_ble_eq_true rfl, Nat.le_of_ble_eq_true rfl⟩) ?_
  refine lv_if_eq (tgt := 47) hx hb dM_slot_5 (by decide) (fun c_1 => ?_) (fun c_1 => ?_)
  · skip
    refine lv_iconst (v := (-1)) hx hb dM_slot_47 (by decide) ?_
    exact W.iret (v := (-1)) hx hb hr (fun t ht hW => ⟨_, rfl, rfl, ht⟩) (fun q h => by cases h) dM_slot_48
  · skip
    refine lv_iload_n hx hb dM_slot_8 rfl (lv_at hl 1 rfl) ?_
    refine lv_iconst (v := (-1)) hx hb dM_slot_9 (by decide) ?_
    refine lv_icmp_eq (tgt := 21) hx hb dM_slot_10 (by decide) (fun c_2 => ?_) (fun c_2 => ?_)
    · skip
      refine lv_iload_n hx hb dM_slot_21 rfl (lv_at hl 0 rfl) ?_
      refine lv_iconst (v := (-1)) hx hb dM_slot_22 (by decide) ?_
      refine lv_icmp_eq (tgt := 34) hx hb dM_slot_23 (by decide) (fun c_3 => ?_) (fun c_3 => ?_)
      · skip
        refine lv_iload_n hx hb dM_slot_34 rfl (lv_at hl 0 rfl) ?_
        refine lv_iconst (v := (-1)) hx hb dM_slot_35 (by decide) ?_
        refine lv_icmp_eq (tgt := 49) hx hb dM_slot_36 (by decide) (fun c_4 => ?_) (fun c_4 => ?_)
        · first | exact absurd c_1 c_2 | exact absurd c_1 c_3 | exact absurd c_1 c_4 | exact absurd c_2 c_1 | exact absurd c_2 c_3 | exact absurd c_2 c_4 | exact absurd c_3 c_1 | exact absurd c_3 c_2 | exact absurd c_3 c_4 | exact absurd c_4 c_1 | exact absurd c_4 c_2 | exact absurd c_4 c_3 | exact absurd hbad (by simp [wt_isG, c_1, c_2, c_3, c_4])
        · skip
          refine lv_iload_n hx hb dM_slot_39 rfl (lv_at hl 1 rfl) ?_
          refine lv_iconst (v := nI 3) hx hb dM_slot_40 (by decide) ?_
          refine wt_roi (va_runS (As := [.int vv, .int (nI 3)]) (rest := []) ⟨hx, hb, hml, hown, ht⟩ (c_M_up_3 l dC dI cI cZ cL vv) (va_cwS 2 ht (good_S m_471 m_472 m_7 m_473) rfl rfl rfl (by decide +kernel) ⟨Nat.le_of_ble_eq_true rfl, Nat.le_of_ble_eq_true rfl⟩) (wt_preS hK hN hP) rfl rfl hl.1 rfl (lv_room (Nat.le_of_ble_eq_true rfl)) dM_slot_41 ⟨Nat.le_of_ble_eq_true rfl, Nat.le_of_ble_eq_true rfl⟩) ?_
          refine lv_if_ne (tgt := 49) hx hb dM_slot_44 (by decide) (fun c_5 => ?_) (fun c_5 => ?_)
          · first | exact absurd c_1 c_2 | exact absurd c_1 c_3 | exact absurd c_1 c_4 | exact absurd c_1 c_5 | exact absurd c_2 c_1 | exact absurd c_2 c_3 | exact absurd c_2 c_4 | exact absurd c_2 c_5 | exact absurd c_3 c_1 | exact absurd c_3 c_2 | exact absurd c_3 c_4 | exact absurd c_3 c_5 | exact absurd c_4 c_1 | exact absurd c_4 c_2 | exact absurd c_4 c_3 | exact absurd c_4 c_5 | exact absurd c_5 c_1 | exact absurd c_5 c_2 | exact absurd c_5 c_3 | exact absurd c_5 c_4 | exact absurd (Eq.trans (congrArg (fun z => wt_rng z 4) (show vv = -1 from c_2)) (wt_rng_m1 4)) (show ¬ wt_rng vv 4 = 0 from c_5) | exact absurd hbad (by simp [wt_isG, c_1, c_2, c_3, c_4, c_5])
          · skip
            refine lv_iconst (v := (-1)) hx hb dM_slot_47 (by decide) ?_
            exact W.iret (v := (-1)) hx hb hr (fun t ht hW => ⟨_, rfl, rfl, ht⟩) (fun q h => by cases h) dM_slot_48
      · skip
        refine lv_iload_n hx hb dM_slot_26 rfl (lv_at hl 0 rfl) ?_
        refine lv_iconst (v := nI 4) hx hb dM_slot_27 (by decide) ?_
        refine wt_roi (va_runS (As := [.int uu, .int (nI 4)]) (rest := []) ⟨hx, hb, hml, hown, ht⟩ (c_M_up_4 l dC dI cI cZ cL uu) (va_cwS 2 ht (good_S m_471 m_472 m_7 m_473) rfl rfl rfl (by decide +kernel) ⟨Nat.le_of_ble_eq_true rfl, Nat.le_of_ble_eq_true rfl⟩) (wt_preS hK hN hP) rfl rfl hl.1 rfl (lv_room (Nat.le_of_ble_eq_true rfl)) dM_slot_28 ⟨Nat.le_of_ble_eq_true rfl, Nat.le_of_ble_eq_true rfl⟩) ?_
        refine lv_if_eq (tgt := 47) hx hb dM_slot_31 (by decide) (fun c_6 => ?_) (fun c_6 => ?_)
        · skip
          refine lv_iconst (v := (-1)) hx hb dM_slot_47 (by decide) ?_
          exact W.iret (v := (-1)) hx hb hr (fun t ht hW => ⟨_, rfl, rfl, ht⟩) (fun q h => by cases h) dM_slot_48
        · skip
          refine lv_iload_n hx hb dM_slot_34 rfl (lv_at hl 0 rfl) ?_
          refine lv_iconst (v := (-1)) hx hb dM_slot_35 (by decide) ?_
          refine lv_icmp_eq (tgt := 49) hx hb dM_slot_36 (by decide) (fun c_7 => ?_) (fun c_7 => ?_)
          · first | exact absurd c_1 c_2 | exact absurd c_1 c_3 | exact absurd c_1 c_6 | exact absurd c_1 c_7 | exact absurd c_2 c_1 | exact absurd c_2 c_3 | exact absurd c_2 c_6 | exact absurd c_2 c_7 | exact absurd c_3 c_1 | exact absurd c_3 c_2 | exact absurd c_3 c_6 | exact absurd c_3 c_7 | exact absurd c_6 c_1 | exact absurd c_6 c_2 | exact absurd c_6 c_3 | exact absurd c_6 c_7 | exact absurd c_7 c_1 | exact absurd c_7 c_2 | exact absurd c_7 c_3 | exact absurd c_7 c_6 | exact absurd hbad (by simp [wt_isG, c_1, c_2, c_3, c_6, c_7])
          · skip
            refine lv_iload_n hx hb dM_slot_39 rfl (lv_at hl 1 rfl) ?_
            refine lv_iconst (v := nI 3) hx hb dM_slot_40 (by decide) ?_
            refine wt_roi (va_runS (As := [.int vv, .int (nI 3)]) (rest := []) ⟨hx, hb, hml, hown, ht⟩ (c_M_up_3 l dC dI cI cZ cL vv) (va_cwS 2 ht (good_S m_471 m_472 m_7 m_473) rfl rfl rfl (by decide +kernel) ⟨Nat.le_of_ble_eq_true rfl, Nat.le_of_ble_eq_true rfl⟩) (wt_preS hK hN hP) rfl rfl hl.1 rfl (lv_room (Nat.le_of_ble_eq_true rfl)) dM_slot_41 ⟨Nat.le_of_ble_eq_true rfl, Nat.le_of_ble_eq_true rfl⟩) ?_
            refine lv_if_ne (tgt := 49) hx hb dM_slot_44 (by decide) (fun c_8 => ?_) (fun c_8 => ?_)
            · first | exact absurd c_1 c_2 | exact absurd c_1 c_3 | exact absurd c_1 c_6 | exact absurd c_1 c_7 | exact absurd c_1 c_8 | exact absurd c_2 c_1 | exact absurd c_2 c_3 | exact absurd c_2 c_6 | exact absurd c_2 c_7 | exact absurd c_2 c_8 | exact absurd c_3 c_1 | exact absurd c_3 c_2 | exact absurd c_3 c_6 | exact absurd c_3 c_7 | exact absurd c_3 c_8 | exact absurd c_6 c_1 | exact absurd c_6 c_2 | exact absurd c_6 c_3 | exact absurd c_6 c_7 | exact absurd c_6 c_8 | exact absurd c_7 c_1 | exact absurd c_7 c_2 | exact absurd c_7 c_3 | exact absurd c_7 c_6 | exact absurd c_7 c_8 | exact absurd c_8 c_1 | exact absurd c_8 c_2 | exact absurd c_8 c_3 | exact absurd c_8 c_6 | exact absurd c_8 c_7 | exact absurd (Eq.trans (congrArg (fun z => wt_rng z 4) (show vv = -1 from c_2)) (wt_rng_m1 4)) (show ¬ wt_rng vv 4 = 0 from c_8) | exact absurd hbad (by simp [wt_isG, c_1, c_2, c_3, c_6, c_7, c_8])
            · skip
              refine lv_iconst (v := (-1)) hx hb dM_slot_47 (by decide) ?_
              exact W.iret (v := (-1)) hx hb hr (fun t ht hW => ⟨_, rfl, rfl, ht⟩) (fun q h => by cases h) dM_slot_48
    · skip
      refine lv_iload_n hx hb dM_slot_13 rfl (lv_at hl 1 rfl) ?_
      refine lv_iconst (v := nI 4) hx hb dM_slot_14 (by decide) ?_
      refine wt_roi (va_runS (As := [.int vv, .int (nI 4)]) (rest := []) ⟨hx, hb, hml, hown, ht⟩ (c_M_up_4 l dC dI cI cZ cL vv) (va_cwS 2 ht (good_S m_471 m_472 m_7 m_473) rfl rfl rfl (by decide +kernel) ⟨Nat.le_of_ble_eq_true rfl, Nat.le_of_ble_eq_true rfl⟩) (wt_preS hK hN hP) rfl rfl hl.1 rfl (lv_room (Nat.le_of_ble_eq_true rfl)) dM_slot_15 ⟨Nat.le_of_ble_eq_true rfl, Nat.le_of_ble_eq_true rfl⟩) ?_
      refine lv_if_eq (tgt := 47) hx hb dM_slot_18 (by decide) (fun c_9 => ?_) (fun c_9 => ?_)
      · skip
        refine lv_iconst (v := (-1)) hx hb dM_slot_47 (by decide) ?_
        exact W.iret (v := (-1)) hx hb hr (fun t ht hW => ⟨_, rfl, rfl, ht⟩) (fun q h => by cases h) dM_slot_48
      · skip
        refine lv_iload_n hx hb dM_slot_21 rfl (lv_at hl 0 rfl) ?_
        refine lv_iconst (v := (-1)) hx hb dM_slot_22 (by decide) ?_
        refine lv_icmp_eq (tgt := 34) hx hb dM_slot_23 (by decide) (fun c_10 => ?_) (fun c_10 => ?_)
        · skip
          refine lv_iload_n hx hb dM_slot_34 rfl (lv_at hl 0 rfl) ?_
          refine lv_iconst (v := (-1)) hx hb dM_slot_35 (by decide) ?_
          refine lv_icmp_eq (tgt := 49) hx hb dM_slot_36 (by decide) (fun c_11 => ?_) (fun c_11 => ?_)
          · first | exact absurd c_1 c_2 | exact absurd c_1 c_9 | exact absurd c_1 c_10 | exact absurd c_1 c_11 | exact absurd c_2 c_1 | exact absurd c_2 c_9 | exact absurd c_2 c_10 | exact absurd c_2 c_11 | exact absurd c_9 c_1 | exact absurd c_9 c_2 | exact absurd c_9 c_10 | exact absurd c_9 c_11 | exact absurd c_10 c_1 | exact absurd c_10 c_2 | exact absurd c_10 c_9 | exact absurd c_10 c_11 | exact absurd c_11 c_1 | exact absurd c_11 c_2 | exact absurd c_11 c_9 | exact absurd c_11 c_10 | exact absurd hbad (by simp [wt_isG, c_1, c_2, c_9, c_10, c_11])
          · skip
            refine lv_iload_n hx hb dM_slot_39 rfl (lv_at hl 1 rfl) ?_
            refine lv_iconst (v := nI 3) hx hb dM_slot_40 (by decide) ?_
            refine wt_roi (va_runS (As := [.int vv, .int (nI 3)]) (rest := []) ⟨hx, hb, hml, hown, ht⟩ (c_M_up_3 l dC dI cI cZ cL vv) (va_cwS 2 ht (good_S m_471 m_472 m_7 m_473) rfl rfl rfl (by decide +kernel) ⟨Nat.le_of_ble_eq_true rfl, Nat.le_of_ble_eq_true rfl⟩) (wt_preS hK hN hP) rfl rfl hl.1 rfl (lv_room (Nat.le_of_ble_eq_true rfl)) dM_slot_41 ⟨Nat.le_of_ble_eq_true rfl, Nat.le_of_ble_eq_true rfl⟩) ?_
            refine lv_if_ne (tgt := 49) hx hb dM_slot_44 (by decide) (fun c_12 => ?_) (fun c_12 => ?_)
            · first | exact absurd c_1 c_2 | exact absurd c_1 c_9 | exact absurd c_1 c_10 | exact absurd c_1 c_11 | exact absurd c_1 c_12 | exact absurd c_2 c_1 | exact absurd c_2 c_9 | exact absurd c_2 c_10 | exact absurd c_2 c_11 | exact absurd c_2 c_12 | exact absurd c_9 c_1 | exact absurd c_9 c_2 | exact absurd c_9 c_10 | exact absurd c_9 c_11 | exact absurd c_9 c_12 | exact absurd c_10 c_1 | exact absurd c_10 c_2 | exact absurd c_10 c_9 | exact absurd c_10 c_11 | exact absurd c_10 c_12 | exact absurd c_11 c_1 | exact absurd c_11 c_2 | exact absurd c_11 c_9 | exact absurd c_11 c_10 | exact absurd c_11 c_12 | exact absurd c_12 c_1 | exact absurd c_12 c_2 | exact absurd c_12 c_9 | exact absurd c_12 c_10 | exact absurd c_12 c_11 | exact absurd (Eq.trans (congrArg (fun z => wt_rng z 4) (show vv = -1 from c_2)) (wt_rng_m1 4)) (show ¬ wt_rng vv 4 = 0 from c_12) | exact absurd hbad (by simp [wt_isG, c_1, c_2, c_9, c_10, c_11, c_12])
            · skip
              refine lv_iconst (v := (-1)) hx hb dM_slot_47 (by decide) ?_
              exact W.iret (v := (-1)) hx hb hr (fun t ht hW => ⟨_, rfl, rfl, ht⟩) (fun q h => by cases h) dM_slot_48
        · skip
          refine lv_iload_n hx hb dM_slot_26 rfl (lv_at hl 0 rfl) ?_
          refine lv_iconst (v := nI 4) hx hb dM_slot_27 (by decide) ?_
          refine wt_roi (va_runS (As := [.int uu, .int (nI 4)]) (rest := []) ⟨hx, hb, hml, hown, ht⟩ (c_M_up_4 l dC dI cI cZ cL uu) (va_cwS 2 ht (good_S m_471 m_472 m_7 m_473) rfl rfl rfl (by decide +kernel) ⟨Nat.le_of_ble_eq_true rfl, Nat.le_of_ble_eq_true rfl⟩) (wt_preS hK hN hP) rfl rfl hl.1 rfl (lv_room (Nat.le_of_ble_eq_true rfl)) dM_slot_28 ⟨Nat.le_of_ble_eq_true rfl, Nat.le_of_ble_eq_true rfl⟩) ?_
          refine lv_if_eq (tgt := 47) hx hb dM_slot_31 (by decide) (fun c_13 => ?_) (fun c_13 => ?_)
          · skip
            refine lv_iconst (v := (-1)) hx hb dM_slot_47 (by decide) ?_
            exact W.iret (v := (-1)) hx hb hr (fun t ht hW => ⟨_, rfl, rfl, ht⟩) (fun q h => by cases h) dM_slot_48
          · skip
            refine lv_iload_n hx hb dM_slot_34 rfl (lv_at hl 0 rfl) ?_
            refine lv_iconst (v := (-1)) hx hb dM_slot_35 (by decide) ?_
            refine lv_icmp_eq (tgt := 49) hx hb dM_slot_36 (by decide) (fun c_14 => ?_) (fun c_14 => ?_)
            · first | exact absurd c_1 c_2 | exact absurd c_1 c_9 | exact absurd c_1 c_10 | exact absurd c_1 c_13 | exact absurd c_1 c_14 | exact absurd c_2 c_1 | exact absurd c_2 c_9 | exact absurd c_2 c_10 | exact absurd c_2 c_13 | exact absurd c_2 c_14 | exact absurd c_9 c_1 | exact absurd c_9 c_2 | exact absurd c_9 c_10 | exact absurd c_9 c_13 | exact absurd c_9 c_14 | exact absurd c_10 c_1 | exact absurd c_10 c_2 | exact absurd c_10 c_9 | exact absurd c_10 c_13 | exact absurd c_10 c_14 | exact absurd c_13 c_1 | exact absurd c_13 c_2 | exact absurd c_13 c_9 | exact absurd c_13 c_10 | exact absurd c_13 c_14 | exact absurd c_14 c_1 | exact absurd c_14 c_2 | exact absurd c_14 c_9 | exact absurd c_14 c_10 | exact absurd c_14 c_13 | exact absurd hbad (by simp [wt_isG, c_1, c_2, c_9, c_10, c_13, c_14])
            · skip
              refine lv_iload_n hx hb dM_slot_39 rfl (lv_at hl 1 rfl) ?_
              refine lv_iconst (v := nI 3) hx hb dM_slot_40 (by decide) ?_
              refine wt_roi (va_runS (As := [.int vv, .int (nI 3)]) (rest := []) ⟨hx, hb, hml, hown, ht⟩ (c_M_up_3 l dC dI cI cZ cL vv) (va_cwS 2 ht (good_S m_471 m_472 m_7 m_473) rfl rfl rfl (by decide +kernel) ⟨Nat.le_of_ble_eq_true rfl, Nat.le_of_ble_eq_true rfl⟩) (wt_preS hK hN hP) rfl rfl hl.1 rfl (lv_room (Nat.le_of_ble_eq_true rfl)) dM_slot_41 ⟨Nat.le_of_ble_eq_true rfl, Nat.le_of_ble_eq_true rfl⟩) ?_
              refine lv_if_ne (tgt := 49) hx hb dM_slot_44 (by decide) (fun c_15 => ?_) (fun c_15 => ?_)
              · first | exact absurd c_1 c_2 | exact absurd c_1 c_9 | exact absurd c_1 c_10 | exact absurd c_1 c_13 | exact absurd c_1 c_14 | exact absurd c_1 c_15 | exact absurd c_2 c_1 | exact absurd c_2 c_9 | exact absurd c_2 c_10 | exact absurd c_2 c_13 | exact absurd c_2 c_14 | exact absurd c_2 c_15 | exact absurd c_9 c_1 | exact absurd c_9 c_2 | exact absurd c_9 c_10 | exact absurd c_9 c_13 | exact absurd c_9 c_14 | exact absurd c_9 c_15 | exact absurd c_10 c_1 | exact absurd c_10 c_2 | exact absurd c_10 c_9 | exact absurd c_10 c_13 | exact absurd c_10 c_14 | exact absurd c_10 c_15 | exact absurd c_13 c_1 | exact absurd c_13 c_2 | exact absurd c_13 c_9 | exact absurd c_13 c_10 | exact absurd c_13 c_14 | exact absurd c_13 c_15 | exact absurd c_14 c_1 | exact absurd c_14 c_2 | exact absurd c_14 c_9 | exact absurd c_14 c_10 | exact absurd c_14 c_13 | exact absurd c_14 c_15 | exact absurd c_15 c_1 | exact absurd c_15 c_2 | exact absurd c_15 c_9 | exact absurd c_15 c_10 | exact absurd c_15 c_13 | exact absurd c_15 c_14 | exact absurd (Eq.trans (congrArg (fun z => wt_rng z 4) (show vv = -1 from c_2)) (wt_rng_m1 4)) (show ¬ wt_rng vv 4 = 0 from c_15) | exact absurd hbad (by simp [wt_isG, c_1, c_2, c_9, c_10, c_13, c_14, c_15])
              · skip
                refine lv_iconst (v := (-1)) hx hb dM_slot_47 (by decide) ?_
                exact W.iret (v := (-1)) hx hb hr (fun t ht hW => ⟨_, rfl, rfl, ht⟩) (fun q h => by cases h) dM_slot_48

set_option maxHeartbeats 4000000 in
set_option maxRecDepth 100000 in
theorem c_M_slot_1 (l : Launch) (dC : Nat → ClassId) (dI : Nat → Nat → Nat) (cI cZ cL : ClassId) (ww : Nat) (hww : ww < 5) : Met l yM_slot (Cond.code yM_slot cM_slot 3 (some .int) :: tb) ({ frames := 1, cells := 0, slots := 0, locals := 21 }) (va_Pc [.int (-1), .int (-1), .int (nI ww)] (wt_ro (dC, dI) vwCl [(cI, .int), (cZ, .boolean), (cL, .long)] [])) (vp_Si (fun r => r = (nI ww))) 0 0 (fun _ => False) := by
  refine Met.ofW (cc := cM_slot) (maxL := 3) (ret := (some .int)) (by decide) rfl ?_
  intro p e s m args below meth c s₁ B hml hv
  obtain ⟨rfl, hP, hK, hN⟩ := hv
  have hx := B.exec
  have hb := B.bytes
  have hr := B.returns
  have hts := atoms_spec (ws := (Cond.code yM_slot cM_slot 3 (some .int) :: tb)) B.pre
  have ht : ∀ w ∈ tb, w.before _ s = true := fun w h => hts w (List.mem_cons_of_mem _ h)
  have hown : s.vm.findClass RM = some m.cls := findClass_of_methodNamed B.named
  have hlocks := B.notSynchronized
  have hl := lv_entry ([.int (-1), .int (-1), .int (nI ww)]) (n := 3) (Nat.le_of_ble_eq_true rfl)
  rw [lg_entry_eq]
  generalize (lg_sl ([.int (-1), .int (-1), .int (nI ww)]) ++ List.replicate (3 - (lg_sl ([.int (-1), .int (-1), .int (nI ww)])).length) Slot.unset).toArray = ls at hl ⊢
  have hl : lv_has ls 3 [(0, .int (-1)), (1, .int (-1)), (2, .int (nI ww))] := hl
  refine lv_iload_n hx hb dM_slot_0 rfl (lv_at hl 2 rfl) ?_
  refine lv_iconst (v := nI 4) hx hb dM_slot_1 (by decide) ?_
  refine wt_roi (va_runS (As := [.int (nI ww), .int (nI 4)]) (rest := []) ⟨hx, hb, hml, hown, ht⟩ (c_M_up_4 l dC dI cI cZ cL (nI ww)) (va_cwS 2 ht (good_S m_471 m_472 m_7 m_473) rfl rfl rfl (by decide +kernel) ⟨Nat.le_of_ble_eq_true rfl, Nat.le_of_ble_eq_true rfl⟩) (wt_preS hK hN hP) rfl rfl hl.1 rfl (lv_room (Nat.le_of_ble_eq_true rfl)) dM_slot_2 ⟨Nat.le_of_ble_eq_true rfl, Nat.le_of_ble_eq_true rfl⟩) ?_
  refine lv_if_eq (tgt := 47) hx hb dM_slot_5 (by decide) (fun c_1 => ?_) (fun c_1 => ?_)
  · exact absurd c_1 (wt_rn hww (by decide))
  · skip
    refine lv_iload_n hx hb dM_slot_8 rfl (lv_at hl 1 rfl) ?_
    refine lv_iconst (v := (-1)) hx hb dM_slot_9 (by decide) ?_
    refine lv_icmp_eq (tgt := 21) hx hb dM_slot_10 (by decide) (fun c_2 => ?_) (fun c_2 => ?_)
    · skip
      refine lv_iload_n hx hb dM_slot_21 rfl (lv_at hl 0 rfl) ?_
      refine lv_iconst (v := (-1)) hx hb dM_slot_22 (by decide) ?_
      refine lv_icmp_eq (tgt := 34) hx hb dM_slot_23 (by decide) (fun c_3 => ?_) (fun c_3 => ?_)
      · skip
        refine lv_iload_n hx hb dM_slot_34 rfl (lv_at hl 0 rfl) ?_
        refine lv_iconst (v := (-1)) hx hb dM_slot_35 (by decide) ?_
        refine lv_icmp_eq (tgt := 49) hx hb dM_slot_36 (by decide) (fun c_4 => ?_) (fun c_4 => ?_)
        · skip
          refine lv_iload_n hx hb dM_slot_49 rfl (lv_at hl 1 rfl) ?_
          refine lv_iconst (v := (-1)) hx hb dM_slot_50 (by decide) ?_
          refine lv_icmp_ne (tgt := 58) hx hb dM_slot_51 (by decide) (fun c_5 => ?_) (fun c_5 => ?_)
          · exact absurd rfl c_5
          · skip
            refine lv_iload_n hx hb dM_slot_54 rfl (lv_at hl 2 rfl) ?_
            refine lv_goto (tgt := 86) hx hb dM_slot_55 (by decide) ?_
            exact W.iret (v := nI ww) hx hb hr (fun t ht hW => ⟨_, rfl, rfl, ht⟩) (fun q h => by cases h) dM_slot_86
        · exact absurd rfl c_4
      · exact absurd rfl c_3
    · exact absurd rfl c_2

set_option maxHeartbeats 4000000 in
set_option maxRecDepth 100000 in
theorem c_M_slot_2 (l : Launch) (dC : Nat → ClassId) (dI : Nat → Nat → Nat) (cI cZ cL : ClassId) (vv : Nat) (ww : Nat) (hvv : vv < 5) (hww : ww < 5) : Met l yM_slot (Cond.code yM_slot cM_slot 3 (some .int) :: tb) ({ frames := 1, cells := 0, slots := 0, locals := 21 }) (va_Pc [.int (-1), .int (nI vv), .int (nI ww)] (wt_ro (dC, dI) vwCl [(cI, .int), (cZ, .boolean), (cL, .long)] [])) (vp_Si (fun r => r = (nI (5 + 5 * vv + ww)))) 0 0 (fun _ => False) := by
  refine Met.ofW (cc := cM_slot) (maxL := 3) (ret := (some .int)) (by decide) rfl ?_
  intro p e s m args below meth c s₁ B hml hv
  obtain ⟨rfl, hP, hK, hN⟩ := hv
  have hx := B.exec
  have hb := B.bytes
  have hr := B.returns
  have hts := atoms_spec (ws := (Cond.code yM_slot cM_slot 3 (some .int) :: tb)) B.pre
  have ht : ∀ w ∈ tb, w.before _ s = true := fun w h => hts w (List.mem_cons_of_mem _ h)
  have hown : s.vm.findClass RM = some m.cls := findClass_of_methodNamed B.named
  have hlocks := B.notSynchronized
  have hl := lv_entry ([.int (-1), .int (nI vv), .int (nI ww)]) (n := 3) (Nat.le_of_ble_eq_true rfl)
  rw [lg_entry_eq]
  generalize (lg_sl ([.int (-1), .int (nI vv), .int (nI ww)]) ++ List.replicate (3 - (lg_sl ([.int (-1), .int (nI vv), .int (nI ww)])).length) Slot.unset).toArray = ls at hl ⊢
  have hl : lv_has ls 3 [(0, .int (-1)), (1, .int (nI vv)), (2, .int (nI ww))] := hl
  refine lv_iload_n hx hb dM_slot_0 rfl (lv_at hl 2 rfl) ?_
  refine lv_iconst (v := nI 4) hx hb dM_slot_1 (by decide) ?_
  refine wt_roi (va_runS (As := [.int (nI ww), .int (nI 4)]) (rest := []) ⟨hx, hb, hml, hown, ht⟩ (c_M_up_4 l dC dI cI cZ cL (nI ww)) (va_cwS 2 ht (good_S m_471 m_472 m_7 m_473) rfl rfl rfl (by decide +kernel) ⟨Nat.le_of_ble_eq_true rfl, Nat.le_of_ble_eq_true rfl⟩) (wt_preS hK hN hP) rfl rfl hl.1 rfl (lv_room (Nat.le_of_ble_eq_true rfl)) dM_slot_2 ⟨Nat.le_of_ble_eq_true rfl, Nat.le_of_ble_eq_true rfl⟩) ?_
  refine lv_if_eq (tgt := 47) hx hb dM_slot_5 (by decide) (fun c_1 => ?_) (fun c_1 => ?_)
  · exact absurd c_1 (wt_rn hww (by decide))
  · skip
    refine lv_iload_n hx hb dM_slot_8 rfl (lv_at hl 1 rfl) ?_
    refine lv_iconst (v := (-1)) hx hb dM_slot_9 (by decide) ?_
    refine lv_icmp_eq (tgt := 21) hx hb dM_slot_10 (by decide) (fun c_2 => ?_) (fun c_2 => ?_)
    · exact absurd c_2 (wt_nI_nem1 (by omega))
    · skip
      refine lv_iload_n hx hb dM_slot_13 rfl (lv_at hl 1 rfl) ?_
      refine lv_iconst (v := nI 4) hx hb dM_slot_14 (by decide) ?_
      refine wt_roi (va_runS (As := [.int (nI vv), .int (nI 4)]) (rest := []) ⟨hx, hb, hml, hown, ht⟩ (c_M_up_4 l dC dI cI cZ cL (nI vv)) (va_cwS 2 ht (good_S m_471 m_472 m_7 m_473) rfl rfl rfl (by decide +kernel) ⟨Nat.le_of_ble_eq_true rfl, Nat.le_of_ble_eq_true rfl⟩) (wt_preS hK hN hP) rfl rfl hl.1 rfl (lv_room (Nat.le_of_ble_eq_true rfl)) dM_slot_15 ⟨Nat.le_of_ble_eq_true rfl, Nat.le_of_ble_eq_true rfl⟩) ?_
      refine lv_if_eq (tgt := 47) hx hb dM_slot_18 (by decide) (fun c_3 => ?_) (fun c_3 => ?_)
      · exact absurd c_3 (wt_rn (show vv < 5 by omega) (by decide))
      · skip
        refine lv_iload_n hx hb dM_slot_21 rfl (lv_at hl 0 rfl) ?_
        refine lv_iconst (v := (-1)) hx hb dM_slot_22 (by decide) ?_
        refine lv_icmp_eq (tgt := 34) hx hb dM_slot_23 (by decide) (fun c_4 => ?_) (fun c_4 => ?_)
        · skip
          refine lv_iload_n hx hb dM_slot_34 rfl (lv_at hl 0 rfl) ?_
          refine lv_iconst (v := (-1)) hx hb dM_slot_35 (by decide) ?_
          refine lv_icmp_eq (tgt := 49) hx hb dM_slot_36 (by decide) (fun c_5 => ?_) (fun c_5 => ?_)
          · skip
            refine lv_iload_n hx hb dM_slot_49 rfl (lv_at hl 1 rfl) ?_
            refine lv_iconst (v := (-1)) hx hb dM_slot_50 (by decide) ?_
            refine lv_icmp_ne (tgt := 58) hx hb dM_slot_51 (by decide) (fun c_6 => ?_) (fun c_6 => ?_)
            · skip
              refine lv_iload_n hx hb dM_slot_58 rfl (lv_at hl 0 rfl) ?_
              refine lv_iconst (v := (-1)) hx hb dM_slot_59 (by decide) ?_
              refine lv_icmp_ne (tgt := 73) hx hb dM_slot_60 (by decide) (fun c_7 => ?_) (fun c_7 => ?_)
              · exact absurd rfl c_7
              · skip
                refine lv_iconst (v := nI 5) hx hb dM_slot_63 (by decide) ?_
                refine lv_iconst (v := nI 5) hx hb dM_slot_64 (by decide) ?_
                refine lv_iload_n hx hb dM_slot_65 rfl (lv_at hl 1 rfl) ?_
                refine wt_imul hx hb dM_slot_66 ?_
                refine wt_iadd hx hb dM_slot_67 ?_
                refine lv_iload_n hx hb dM_slot_68 rfl (lv_at hl 2 rfl) ?_
                refine wt_iadd hx hb dM_slot_69 ?_
                refine lv_goto (tgt := 86) hx hb dM_slot_70 (by decide) ?_
                exact W.iret (v := nI (5 + 5 * vv + ww)) hx hb hr (fun t ht hW => ⟨_, rfl, rfl, ht⟩) (fun q h => by cases h) dM_slot_86
            · exact absurd c_6 (wt_nI_nem1 (by omega))
          · exact absurd rfl c_5
        · exact absurd rfl c_4

set_option maxHeartbeats 4000000 in
set_option maxRecDepth 100000 in
theorem c_M_slot_3 (l : Launch) (dC : Nat → ClassId) (dI : Nat → Nat → Nat) (cI cZ cL : ClassId) (uu : Nat) (vv : Nat) (ww : Nat) (huu : uu < 5) (hvv : vv < 4) (hww : ww < 5) : Met l yM_slot (Cond.code yM_slot cM_slot 3 (some .int) :: tb) ({ frames := 1, cells := 0, slots := 0, locals := 21 }) (va_Pc [.int (nI uu), .int (nI vv), .int (nI ww)] (wt_ro (dC, dI) vwCl [(cI, .int), (cZ, .boolean), (cL, .long)] [])) (vp_Si (fun r => r = (nI (30 + 25 * uu + 5 * vv + ww)))) 0 0 (fun _ => False) := by
  refine Met.ofW (cc := cM_slot) (maxL := 3) (ret := (some .int)) (by decide) rfl ?_
  intro p e s m args below meth c s₁ B hml hv
  obtain ⟨rfl, hP, hK, hN⟩ := hv
  have hx := B.exec
  have hb := B.bytes
  have hr := B.returns
  have hts := atoms_spec (ws := (Cond.code yM_slot cM_slot 3 (some .int) :: tb)) B.pre
  have ht : ∀ w ∈ tb, w.before _ s = true := fun w h => hts w (List.mem_cons_of_mem _ h)
  have hown : s.vm.findClass RM = some m.cls := findClass_of_methodNamed B.named
  have hlocks := B.notSynchronized
  have hl := lv_entry ([.int (nI uu), .int (nI vv), .int (nI ww)]) (n := 3) (Nat.le_of_ble_eq_true rfl)
  rw [lg_entry_eq]
  generalize (lg_sl ([.int (nI uu), .int (nI vv), .int (nI ww)]) ++ List.replicate (3 - (lg_sl ([.int (nI uu), .int (nI vv), .int (nI ww)])).length) Slot.unset).toArray = ls at hl ⊢
  have hl : lv_has ls 3 [(0, .int (nI uu)), (1, .int (nI vv)), (2, .int (nI ww))] := hl
  refine lv_iload_n hx hb dM_slot_0 rfl (lv_at hl 2 rfl) ?_
  refine lv_iconst (v := nI 4) hx hb dM_slot_1 (by decide) ?_
  refine wt_roi (va_runS (As := [.int (nI ww), .int (nI 4)]) (rest := []) ⟨hx, hb, hml, hown, ht⟩ (c_M_up_4 l dC dI cI cZ cL (nI ww)) (va_cwS 2 ht (good_S m_471 m_472 m_7 m_473) rfl rfl rfl (by decide +kernel) ⟨Nat.le_of_ble_eq_true rfl, Nat.le_of_ble_eq_true rfl⟩) (wt_preS hK hN hP) rfl rfl hl.1 rfl (lv_room (Nat.le_of_ble_eq_true rfl)) dM_slot_2 ⟨Nat.le_of_ble_eq_true rfl, Nat.le_of_ble_eq_true rfl⟩) ?_
  refine lv_if_eq (tgt := 47) hx hb dM_slot_5 (by decide) (fun c_1 => ?_) (fun c_1 => ?_)
  · exact absurd c_1 (wt_rn hww (by decide))
  · skip
    refine lv_iload_n hx hb dM_slot_8 rfl (lv_at hl 1 rfl) ?_
    refine lv_iconst (v := (-1)) hx hb dM_slot_9 (by decide) ?_
    refine lv_icmp_eq (tgt := 21) hx hb dM_slot_10 (by decide) (fun c_2 => ?_) (fun c_2 => ?_)
    · exact absurd c_2 (wt_nI_nem1 (by omega))
    · skip
      refine lv_iload_n hx hb dM_slot_13 rfl (lv_at hl 1 rfl) ?_
      refine lv_iconst (v := nI 4) hx hb dM_slot_14 (by decide) ?_
      refine wt_roi (va_runS (As := [.int (nI vv), .int (nI 4)]) (rest := []) ⟨hx, hb, hml, hown, ht⟩ (c_M_up_4 l dC dI cI cZ cL (nI vv)) (va_cwS 2 ht (good_S m_471 m_472 m_7 m_473) rfl rfl rfl (by decide +kernel) ⟨Nat.le_of_ble_eq_true rfl, Nat.le_of_ble_eq_true rfl⟩) (wt_preS hK hN hP) rfl rfl hl.1 rfl (lv_room (Nat.le_of_ble_eq_true rfl)) dM_slot_15 ⟨Nat.le_of_ble_eq_true rfl, Nat.le_of_ble_eq_true rfl⟩) ?_
      refine lv_if_eq (tgt := 47) hx hb dM_slot_18 (by decide) (fun c_3 => ?_) (fun c_3 => ?_)
      · exact absurd c_3 (wt_rn (show vv < 5 by omega) (by decide))
      · skip
        refine lv_iload_n hx hb dM_slot_21 rfl (lv_at hl 0 rfl) ?_
        refine lv_iconst (v := (-1)) hx hb dM_slot_22 (by decide) ?_
        refine lv_icmp_eq (tgt := 34) hx hb dM_slot_23 (by decide) (fun c_4 => ?_) (fun c_4 => ?_)
        · exact absurd c_4 (wt_nI_nem1 (by omega))
        · skip
          refine lv_iload_n hx hb dM_slot_26 rfl (lv_at hl 0 rfl) ?_
          refine lv_iconst (v := nI 4) hx hb dM_slot_27 (by decide) ?_
          refine wt_roi (va_runS (As := [.int (nI uu), .int (nI 4)]) (rest := []) ⟨hx, hb, hml, hown, ht⟩ (c_M_up_4 l dC dI cI cZ cL (nI uu)) (va_cwS 2 ht (good_S m_471 m_472 m_7 m_473) rfl rfl rfl (by decide +kernel) ⟨Nat.le_of_ble_eq_true rfl, Nat.le_of_ble_eq_true rfl⟩) (wt_preS hK hN hP) rfl rfl hl.1 rfl (lv_room (Nat.le_of_ble_eq_true rfl)) dM_slot_28 ⟨Nat.le_of_ble_eq_true rfl, Nat.le_of_ble_eq_true rfl⟩) ?_
          refine lv_if_eq (tgt := 47) hx hb dM_slot_31 (by decide) (fun c_5 => ?_) (fun c_5 => ?_)
          · exact absurd c_5 (wt_rn huu (by decide))
          · skip
            refine lv_iload_n hx hb dM_slot_34 rfl (lv_at hl 0 rfl) ?_
            refine lv_iconst (v := (-1)) hx hb dM_slot_35 (by decide) ?_
            refine lv_icmp_eq (tgt := 49) hx hb dM_slot_36 (by decide) (fun c_6 => ?_) (fun c_6 => ?_)
            · exact absurd c_6 (wt_nI_nem1 (by omega))
            · skip
              refine lv_iload_n hx hb dM_slot_39 rfl (lv_at hl 1 rfl) ?_
              refine lv_iconst (v := nI 3) hx hb dM_slot_40 (by decide) ?_
              refine wt_roi (va_runS (As := [.int (nI vv), .int (nI 3)]) (rest := []) ⟨hx, hb, hml, hown, ht⟩ (c_M_up_3 l dC dI cI cZ cL (nI vv)) (va_cwS 2 ht (good_S m_471 m_472 m_7 m_473) rfl rfl rfl (by decide +kernel) ⟨Nat.le_of_ble_eq_true rfl, Nat.le_of_ble_eq_true rfl⟩) (wt_preS hK hN hP) rfl rfl hl.1 rfl (lv_room (Nat.le_of_ble_eq_true rfl)) dM_slot_41 ⟨Nat.le_of_ble_eq_true rfl, Nat.le_of_ble_eq_true rfl⟩) ?_
              refine lv_if_ne (tgt := 49) hx hb dM_slot_44 (by decide) (fun c_7 => ?_) (fun c_7 => ?_)
              · skip
                refine lv_iload_n hx hb dM_slot_49 rfl (lv_at hl 1 rfl) ?_
                refine lv_iconst (v := (-1)) hx hb dM_slot_50 (by decide) ?_
                refine lv_icmp_ne (tgt := 58) hx hb dM_slot_51 (by decide) (fun c_8 => ?_) (fun c_8 => ?_)
                · skip
                  refine lv_iload_n hx hb dM_slot_58 rfl (lv_at hl 0 rfl) ?_
                  refine lv_iconst (v := (-1)) hx hb dM_slot_59 (by decide) ?_
                  refine lv_icmp_ne (tgt := 73) hx hb dM_slot_60 (by decide) (fun c_9 => ?_) (fun c_9 => ?_)
                  · skip
                    refine lv_bipush (v := nI 30) hx hb dM_slot_73 (by decide) ?_
                    refine lv_bipush (v := nI 25) hx hb dM_slot_75 (by decide) ?_
                    refine lv_iload_n hx hb dM_slot_77 rfl (lv_at hl 0 rfl) ?_
                    refine wt_imul hx hb dM_slot_78 ?_
                    refine wt_iadd hx hb dM_slot_79 ?_
                    refine lv_iconst (v := nI 5) hx hb dM_slot_80 (by decide) ?_
                    refine lv_iload_n hx hb dM_slot_81 rfl (lv_at hl 1 rfl) ?_
                    refine wt_imul hx hb dM_slot_82 ?_
                    refine wt_iadd hx hb dM_slot_83 ?_
                    refine lv_iload_n hx hb dM_slot_84 rfl (lv_at hl 2 rfl) ?_
                    refine wt_iadd hx hb dM_slot_85 ?_
                    exact W.iret (v := nI (30 + 25 * uu + 5 * vv + ww)) hx hb hr (fun t ht hW => ⟨_, rfl, rfl, ht⟩) (fun q h => by cases h) dM_slot_86
                  · exact absurd c_9 (wt_nI_nem1 (by omega))
                · exact absurd c_8 (wt_nI_nem1 (by omega))
              · exact absurd c_7 (wt_rn hvv (by decide))

set_option maxHeartbeats 4000000 in
set_option maxRecDepth 100000 in
theorem c_M_gram_g (l : Launch) (dC : Nat → ClassId) (dI : Nat → Nat → Nat) (cI cZ cL : ClassId) (q : Nat → Nat) (kn : Nat → Bool) (co : Nat → Int32) (bo : Nat → Int32) (mn : Nat) (wd : Nat → Nat) (zs : Nat → Nat) (fp : Nat → Int32) (ho : Nat → Int32) (lv : Nat → Int32) (fr : Nat) (so : Nat → Int32) (ea : Nat → Int32) (dn : Nat → Int32) (cd : Nat → Int32) (nx : Nat → Int32) (nd : Nat → Int32) (nc : Nat → Int32) (al : Int32) (wo : Int32) (wh : Int32) (uu : Int32) (vv : Int32) (ww : Int32) (c0 : Int32) (b0 : Int32) (hbad : wt_isG uu vv ww = false) : Met l yM_gram (Cond.code yM_gram cM_gram 7 (some .boolean) :: tb) ({ frames := 2, cells := 0, slots := 0, locals := 43 }) (va_Pc [.ref (q 0), .int uu, .int vv, .int ww, .int c0, .int b0] (wt_ro (dC, dI) vwCl [(cI, .int), (cZ, .boolean), (cL, .long)] (wM cI cZ cL q kn co bo mn wd zs fp ho lv fr so ea dn cd nx nd nc al wo wh))) (vp_Si (fun r => r = (nI 0))) 0 0 (fun _ => False) := by
  refine Met.ofW (cc := cM_gram) (maxL := 7) (ret := (some .boolean)) (by decide) rfl ?_
  intro p e s m args below meth c s₁ B hml hv
  obtain ⟨rfl, hP, hK, hN⟩ := hv
  have hx := B.exec
  have hb := B.bytes
  have hr := B.returns
  have hts := atoms_spec (ws := (Cond.code yM_gram cM_gram 7 (some .boolean) :: tb)) B.pre
  have ht : ∀ w ∈ tb, w.before _ s = true := fun w h => hts w (List.mem_cons_of_mem _ h)
  have hown : s.vm.findClass RM = some m.cls := findClass_of_methodNamed B.named
  have hlocks := B.notSynchronized
  have hl := lv_entry ([.ref (q 0), .int uu, .int vv, .int ww, .int c0, .int b0]) (n := 7) (Nat.le_of_ble_eq_true rfl)
  rw [lg_entry_eq]
  generalize (lg_sl ([.ref (q 0), .int uu, .int vv, .int ww, .int c0, .int b0]) ++ List.replicate (7 - (lg_sl ([.ref (q 0), .int uu, .int vv, .int ww, .int c0, .int b0])).length) Slot.unset).toArray = ls at hl ⊢
  have hl : lv_has ls 7 [(0, .ref (q 0)), (1, .int uu), (2, .int vv), (3, .int ww), (4, .int c0), (5, .int b0)] := hl
  refine lv_iload_n hx hb dM_gram_0 rfl (lv_at hl 1 rfl) ?_
  refine lv_iload_n hx hb dM_gram_1 rfl (lv_at hl 2 rfl) ?_
  refine lv_iload_n hx hb dM_gram_2 rfl (lv_at hl 3 rfl) ?_
  refine wt_roi (va_runS (As := [.int uu, .int vv, .int ww]) (rest := []) ⟨hx, hb, hml, hown, ht⟩ (c_M_slot_g l dC dI cI cZ cL uu vv ww hbad) (va_cwS 3 ht (good_S m_479 m_480 m_7 m_481) rfl rfl rfl (by decide +kernel) ⟨Nat.le_of_ble_eq_true rfl, Nat.le_of_ble_eq_true rfl⟩) (wt_preS hK hN (hP.sub [] rfl)) rfl rfl hl.1 rfl (lv_room (Nat.le_of_ble_eq_true rfl)) dM_gram_3 ⟨Nat.le_of_ble_eq_true rfl, Nat.le_of_ble_eq_true rfl⟩) ?_
  refine lv_istore (lv' := [(6, .int (-1)), (0, .ref (q 0)), (1, .int uu), (2, .int vv), (3, .int ww), (4, .int c0), (5, .int b0)]) hx hb dM_gram_6 hl (by decide) rfl (fun ls hl => ?_)
  refine lv_iload hx hb dM_gram_8 (lv_at hl 0 rfl) ?_
  refine lv_if_lt (tgt := 35) hx hb dM_gram_10 (by decide) (fun c_1 => ?_) (fun c_1 => ?_)
  · skip
    refine lv_iconst (v := nI 0) hx hb dM_gram_35 (by decide) ?_
    exact W.zret (v := nI 0) hx hb hr rfl (fun t ht hW => ⟨_, rfl, rfl, ht⟩) (fun q h => by cases h) dM_gram_36
  · exact absurd (by decide) c_1

set_option maxHeartbeats 4000000 in
set_option maxRecDepth 100000 in
theorem c_M_ungram_g (l : Launch) (dC : Nat → ClassId) (dI : Nat → Nat → Nat) (cI cZ cL : ClassId) (q : Nat → Nat) (kn : Nat → Bool) (co : Nat → Int32) (bo : Nat → Int32) (mn : Nat) (wd : Nat → Nat) (zs : Nat → Nat) (fp : Nat → Int32) (ho : Nat → Int32) (lv : Nat → Int32) (fr : Nat) (so : Nat → Int32) (ea : Nat → Int32) (dn : Nat → Int32) (cd : Nat → Int32) (nx : Nat → Int32) (nd : Nat → Int32) (nc : Nat → Int32) (al : Int32) (wo : Int32) (wh : Int32) (uu : Int32) (vv : Int32) (ww : Int32) (hbad : wt_isG uu vv ww = false) : Met l yM_ungram (Cond.code yM_ungram cM_ungram 5 (some .boolean) :: tb) ({ frames := 2, cells := 0, slots := 0, locals := 43 }) (va_Pc [.ref (q 0), .int uu, .int vv, .int ww] (wt_ro (dC, dI) vwCl [(cI, .int), (cZ, .boolean), (cL, .long)] (wM cI cZ cL q kn co bo mn wd zs fp ho lv fr so ea dn cd nx nd nc al wo wh))) (vp_Si (fun r => r = (nI 0))) 0 0 (fun _ => False) := by
  refine Met.ofW (cc := cM_ungram) (maxL := 5) (ret := (some .boolean)) (by decide) rfl ?_
  intro p e s m args below meth c s₁ B hml hv
  obtain ⟨rfl, hP, hK, hN⟩ := hv
  have hx := B.exec
  have hb := B.bytes
  have hr := B.returns
  have hts := atoms_spec (ws := (Cond.code yM_ungram cM_ungram 5 (some .boolean) :: tb)) B.pre
  have ht : ∀ w ∈ tb, w.before _ s = true := fun w h => hts w (List.mem_cons_of_mem _ h)
  have hown : s.vm.findClass RM = some m.cls := findClass_of_methodNamed B.named
  have hlocks := B.notSynchronized
  have hl := lv_entry ([.ref (q 0), .int uu, .int vv, .int ww]) (n := 5) (Nat.le_of_ble_eq_true rfl)
  rw [lg_entry_eq]
  generalize (lg_sl ([.ref (q 0), .int uu, .int vv, .int ww]) ++ List.replicate (5 - (lg_sl ([.ref (q 0), .int uu, .int vv, .int ww])).length) Slot.unset).toArray = ls at hl ⊢
  have hl : lv_has ls 5 [(0, .ref (q 0)), (1, .int uu), (2, .int vv), (3, .int ww)] := hl
  refine lv_iload_n hx hb dM_ungram_0 rfl (lv_at hl 1 rfl) ?_
  refine lv_iload_n hx hb dM_ungram_1 rfl (lv_at hl 2 rfl) ?_
  refine lv_iload_n hx hb dM_ungram_2 rfl (lv_at hl 3 rfl) ?_
  refine wt_roi (va_runS (As := [.int uu, .int vv, .int ww]) (rest := []) ⟨hx, hb, hml, hown, ht⟩ (c_M_slot_g l dC dI cI cZ cL uu vv ww hbad) (va_cwS 3 ht (good_S m_479 m_480 m_7 m_481) rfl rfl rfl (by decide +kernel) ⟨Nat.le_of_ble_eq_true rfl, Nat.le_of_ble_eq_true rfl⟩) (wt_preS hK hN (hP.sub [] rfl)) rfl rfl hl.1 rfl (lv_room (Nat.le_of_ble_eq_true rfl)) dM_ungram_3 ⟨Nat.le_of_ble_eq_true rfl, Nat.le_of_ble_eq_true rfl⟩) ?_
  refine lv_istore (lv' := [(4, .int (-1)), (0, .ref (q 0)), (1, .int uu), (2, .int vv), (3, .int ww)]) hx hb dM_ungram_6 hl (by decide) rfl (fun ls hl => ?_)
  refine lv_iload hx hb dM_ungram_8 (lv_at hl 0 rfl) ?_
  refine lv_if_lt (tgt := 23) hx hb dM_ungram_10 (by decide) (fun c_1 => ?_) (fun c_1 => ?_)
  · skip
    refine lv_iconst (v := nI 0) hx hb dM_ungram_23 (by decide) ?_
    exact W.zret (v := nI 0) hx hb hr rfl (fun t ht hW => ⟨_, rfl, rfl, ht⟩) (fun q h => by cases h) dM_ungram_24
  · exact absurd (by decide) c_1

set_option maxHeartbeats 4000000 in
set_option maxRecDepth 100000 in
theorem c_M_gram_b1 (l : Launch) (dC : Nat → ClassId) (dI : Nat → Nat → Nat) (cI cZ cL : ClassId) (q : Nat → Nat) (kn : Nat → Bool) (co : Nat → Int32) (bo : Nat → Int32) (mn : Nat) (wd : Nat → Nat) (zs : Nat → Nat) (fp : Nat → Int32) (ho : Nat → Int32) (lv : Nat → Int32) (fr : Nat) (so : Nat → Int32) (ea : Nat → Int32) (dn : Nat → Int32) (cd : Nat → Int32) (nx : Nat → Int32) (nd : Nat → Int32) (nc : Nat → Int32) (al : Int32) (wo : Int32) (wh : Int32) (ww : Nat) (c0 : Int32) (b0 : Int32) (hww : ww < 5) (hbad : (decide (¬ wt_rng c0 10000 = 0) && decide (¬ wt_rng b0 10000 = 0)) = false) : Met l yM_gram (Cond.code yM_gram cM_gram 7 (some .boolean) :: tb) ({ frames := 2, cells := 0, slots := 0, locals := 43 }) (va_Pc [.ref (q 0), .int (-1), .int (-1), .int (nI ww), .int c0, .int b0] (wt_ro (dC, dI) vwCl [(cI, .int), (cZ, .boolean), (cL, .long)] (wM cI cZ cL q kn co bo mn wd zs fp ho lv fr so ea dn cd nx nd nc al wo wh))) (vp_Si (fun r => r = (nI 0))) 0 0 (fun _ => False) := by
  refine Met.ofW (cc := cM_gram) (maxL := 7) (ret := (some .boolean)) (by decide) rfl ?_
  intro p e s m args below meth c s₁ B hml hv
  obtain ⟨rfl, hP, hK, hN⟩ := hv
  have hx := B.exec
  have hb := B.bytes
  have hr := B.returns
  have hts := atoms_spec (ws := (Cond.code yM_gram cM_gram 7 (some .boolean) :: tb)) B.pre
  have ht : ∀ w ∈ tb, w.before _ s = true := fun w h => hts w (List.mem_cons_of_mem _ h)
  have hown : s.vm.findClass RM = some m.cls := findClass_of_methodNamed B.named
  have hlocks := B.notSynchronized
  have hl := lv_entry ([.ref (q 0), .int (-1), .int (-1), .int (nI ww), .int c0, .int b0]) (n := 7) (Nat.le_of_ble_eq_true rfl)
  rw [lg_entry_eq]
  generalize (lg_sl ([.ref (q 0), .int (-1), .int (-1), .int (nI ww), .int c0, .int b0]) ++ List.replicate (7 - (lg_sl ([.ref (q 0), .int (-1), .int (-1), .int (nI ww), .int c0, .int b0])).length) Slot.unset).toArray = ls at hl ⊢
  have hl : lv_has ls 7 [(0, .ref (q 0)), (1, .int (-1)), (2, .int (-1)), (3, .int (nI ww)), (4, .int c0), (5, .int b0)] := hl
  refine lv_iload_n hx hb dM_gram_0 rfl (lv_at hl 1 rfl) ?_
  refine lv_iload_n hx hb dM_gram_1 rfl (lv_at hl 2 rfl) ?_
  refine lv_iload_n hx hb dM_gram_2 rfl (lv_at hl 3 rfl) ?_
  refine wt_roi (va_runS (As := [.int (-1), .int (-1), .int (nI ww)]) (rest := []) ⟨hx, hb, hml, hown, ht⟩ (c_M_slot_1 l dC dI cI cZ cL ww hww) (va_cwS 3 ht (good_S m_479 m_480 m_7 m_481) rfl rfl rfl (by decide +kernel) ⟨Nat.le_of_ble_eq_true rfl, Nat.le_of_ble_eq_true rfl⟩) (wt_preS hK hN (hP.sub [] rfl)) rfl rfl hl.1 rfl (lv_room (Nat.le_of_ble_eq_true rfl)) dM_gram_3 ⟨Nat.le_of_ble_eq_true rfl, Nat.le_of_ble_eq_true rfl⟩) ?_
  refine lv_istore (lv' := [(6, .int (nI ww)), (0, .ref (q 0)), (1, .int (-1)), (2, .int (-1)), (3, .int (nI ww)), (4, .int c0), (5, .int b0)]) hx hb dM_gram_6 hl (by decide) rfl (fun ls hl => ?_)
  refine lv_iload hx hb dM_gram_8 (lv_at hl 0 rfl) ?_
  refine wt_if_lt (tgt := 35) hx hb dM_gram_10 (by decide) (by omega) ?_
  refine lv_iload hx hb dM_gram_13 (lv_at hl 5 rfl) ?_
  refine lv_sipush (v := nI 9999) hx hb dM_gram_15 (by decide) ?_
  refine wt_roi (va_runS (As := [.int c0, .int (nI 9999)]) (rest := []) ⟨hx, hb, hml, hown, ht⟩ (c_M_up_9999 l dC dI cI cZ cL c0) (va_cwS 2 ht (good_S m_471 m_472 m_7 m_473) rfl rfl rfl (by decide +kernel) ⟨Nat.le_of_ble_eq_true rfl, Nat.le_of_ble_eq_true rfl⟩) (wt_preS hK hN (hP.sub [] rfl)) rfl rfl hl.1 rfl (lv_room (Nat.le_of_ble_eq_true rfl)) dM_gram_18 ⟨Nat.le_of_ble_eq_true rfl, Nat.le_of_ble_eq_true rfl⟩) ?_
  refine lv_if_eq (tgt := 35) hx hb dM_gram_21 (by decide) (fun c_2 => ?_) (fun c_2 => ?_)
  · skip
    refine lv_iconst (v := nI 0) hx hb dM_gram_35 (by decide) ?_
    exact W.zret (v := nI 0) hx hb hr rfl (fun t ht hW => ⟨_, rfl, rfl, ht⟩) (fun q h => by cases h) dM_gram_36
  · skip
    refine lv_iload hx hb dM_gram_24 (lv_at hl 6 rfl) ?_
    refine lv_sipush (v := nI 9999) hx hb dM_gram_26 (by decide) ?_
    refine wt_roi (va_runS (As := [.int b0, .int (nI 9999)]) (rest := []) ⟨hx, hb, hml, hown, ht⟩ (c_M_up_9999 l dC dI cI cZ cL b0) (va_cwS 2 ht (good_S m_471 m_472 m_7 m_473) rfl rfl rfl (by decide +kernel) ⟨Nat.le_of_ble_eq_true rfl, Nat.le_of_ble_eq_true rfl⟩) (wt_preS hK hN (hP.sub [] rfl)) rfl rfl hl.1 rfl (lv_room (Nat.le_of_ble_eq_true rfl)) dM_gram_29 ⟨Nat.le_of_ble_eq_true rfl, Nat.le_of_ble_eq_true rfl⟩) ?_
    refine lv_if_ne (tgt := 37) hx hb dM_gram_32 (by decide) (fun c_3 => ?_) (fun c_3 => ?_)
    · exact absurd hbad (by simp [c_2, c_3])
    · skip
      refine lv_iconst (v := nI 0) hx hb dM_gram_35 (by decide) ?_
      exact W.zret (v := nI 0) hx hb hr rfl (fun t ht hW => ⟨_, rfl, rfl, ht⟩) (fun q h => by cases h) dM_gram_36

set_option maxHeartbeats 4000000 in
set_option maxRecDepth 100000 in
theorem c_M_gram_a1 (l : Launch) (dC : Nat → ClassId) (dI : Nat → Nat → Nat) (cI cZ cL : ClassId) (q : Nat → Nat) (sz0 : Nat) (kn : Nat → Bool) (co : Nat → Int32) (bo : Nat → Int32) (mn : Nat) (wd : Nat → Nat) (zs : Nat → Nat) (fp : Nat → Int32) (ho : Nat → Int32) (lv : Nat → Int32) (fr : Nat) (so : Nat → Int32) (ea : Nat → Int32) (dn : Nat → Int32) (cd : Nat → Int32) (nx : Nat → Int32) (nd : Nat → Int32) (nc : Nat → Int32) (al : Int32) (wo : Int32) (wh : Int32) (ww : Nat) (c0 : Int32) (b0 : Int32) (hww : ww < 5) (hc0 : ¬ wt_rng c0 10000 = 0) (hb0 : ¬ wt_rng b0 10000 = 0) : Met l yM_gram (Cond.code yM_gram cM_gram 7 (some .boolean) :: tb) ({ frames := 2, cells := 0, slots := 0, locals := 43 }) (va_Pc [.ref (q 0), .int (-1), .int (-1), .int (nI ww), .int c0, .int b0] (wt_rw (dC, dI) vwCl [(cI, .int), (cZ, .boolean), (cL, .long)] (wM cI cZ cL q kn co bo mn wd zs fp ho lv fr so ea dn cd nx nd nc al wo wh) sz0)) (va_Qi (fun r (_ : Unit) => r = (nI 1)) (wt_B (dC, dI) vwCl (va_A (wM cI cZ cL q kn co bo mn wd zs fp ho lv fr so ea dn cd nx nd nc al wo wh) sz0) (wM cI cZ cL q (va_up kn (ww) true) (upd co (ww) c0) (upd bo (ww) b0) mn wd zs fp ho lv fr so ea dn cd nx nd nc al wo wh)) (va_A (wM cI cZ cL q kn co bo mn wd zs fp ho lv fr so ea dn cd nx nd nc al wo wh) sz0)) 0 0 (va_A (wM cI cZ cL q kn co bo mn wd zs fp ho lv fr so ea dn cd nx nd nc al wo wh) sz0) := by
  refine Met.ofW (cc := cM_gram) (maxL := 7) (ret := (some .boolean)) (by decide) rfl ?_
  intro p e s m args below meth c s₁ B hml hv
  obtain ⟨rfl, hsz, hP, hK, hN, hD0⟩ := hv
  have hx := B.exec
  have hb := B.bytes
  have hr := B.returns
  have hts := atoms_spec (ws := (Cond.code yM_gram cM_gram 7 (some .boolean) :: tb)) B.pre
  have ht : ∀ w ∈ tb, w.before _ s = true := fun w h => hts w (List.mem_cons_of_mem _ h)
  have hown : s.vm.findClass RM = some m.cls := findClass_of_methodNamed B.named
  have hlocks := B.notSynchronized
  subst hsz
  have hD := hD0.self (sz := s.heap.size)
  generalize hAe : va_A (wM cI cZ cL q kn co bo mn wd zs fp ho lv fr so ea dn cd nx nd nc al wo wh) s.heap.size = A at hD ⊢
  have hA : ∀ q : Nat, s.heap.size ≤ q → A q := fun q h => by rw [← hAe]; exact Or.inr h
  clear hAe hD0
  have hS : va_S A s.heap s.heap [] := va_S.rf
  have hl := lv_entry ([.ref (q 0), .int (-1), .int (-1), .int (nI ww), .int c0, .int b0]) (n := 7) (Nat.le_of_ble_eq_true rfl)
  rw [lg_entry_eq]
  generalize (lg_sl ([.ref (q 0), .int (-1), .int (-1), .int (nI ww), .int c0, .int b0]) ++ List.replicate (7 - (lg_sl ([.ref (q 0), .int (-1), .int (-1), .int (nI ww), .int c0, .int b0])).length) Slot.unset).toArray = ls at hl ⊢
  have hl : lv_has ls 7 [(0, .ref (q 0)), (1, .int (-1)), (2, .int (-1)), (3, .int (nI ww)), (4, .int c0), (5, .int b0)] := hl
  refine lv_iload_n hx hb dM_gram_0 rfl (lv_at hl 1 rfl) ?_
  refine lv_iload_n hx hb dM_gram_1 rfl (lv_at hl 2 rfl) ?_
  refine lv_iload_n hx hb dM_gram_2 rfl (lv_at hl 3 rfl) ?_
  refine wt_roi (va_runS (As := [.int (-1), .int (-1), .int (nI ww)]) (rest := []) ⟨hx, hb, hml, hown, ht⟩ (c_M_slot_1 l dC dI cI cZ cL ww hww) (va_cwS 3 ht (good_S m_479 m_480 m_7 m_481) rfl rfl rfl (by decide +kernel) ⟨Nat.le_of_ble_eq_true rfl, Nat.le_of_ble_eq_true rfl⟩) (wt_preS hK hN (hP.sub [] rfl)) rfl rfl hl.1 rfl (lv_room (Nat.le_of_ble_eq_true rfl)) dM_gram_3 ⟨Nat.le_of_ble_eq_true rfl, Nat.le_of_ble_eq_true rfl⟩) ?_
  refine lv_istore (lv' := [(6, .int (nI ww)), (0, .ref (q 0)), (1, .int (-1)), (2, .int (-1)), (3, .int (nI ww)), (4, .int c0), (5, .int b0)]) hx hb dM_gram_6 hl (by decide) rfl (fun ls hl => ?_)
  refine lv_iload hx hb dM_gram_8 (lv_at hl 0 rfl) ?_
  refine wt_if_lt (tgt := 35) hx hb dM_gram_10 (by decide) (by omega) ?_
  refine lv_iload hx hb dM_gram_13 (lv_at hl 5 rfl) ?_
  refine lv_sipush (v := nI 9999) hx hb dM_gram_15 (by decide) ?_
  refine wt_roi (va_runS (As := [.int c0, .int (nI 9999)]) (rest := []) ⟨hx, hb, hml, hown, ht⟩ (c_M_up_9999 l dC dI cI cZ cL c0) (va_cwS 2 ht (good_S m_471 m_472 m_7 m_473) rfl rfl rfl (by decide +kernel) ⟨Nat.le_of_ble_eq_true rfl, Nat.le_of_ble_eq_true rfl⟩) (wt_preS hK hN (hP.sub [] rfl)) rfl rfl hl.1 rfl (lv_room (Nat.le_of_ble_eq_true rfl)) dM_gram_18 ⟨Nat.le_of_ble_eq_true rfl, Nat.le_of_ble_eq_true rfl⟩) ?_
  refine lv_if_eq (tgt := 35) hx hb dM_gram_21 (by decide) (fun c_2 => ?_) (fun c_2 => ?_)
  · exact absurd c_2 hc0
  · skip
    refine lv_iload hx hb dM_gram_24 (lv_at hl 6 rfl) ?_
    refine lv_sipush (v := nI 9999) hx hb dM_gram_26 (by decide) ?_
    refine wt_roi (va_runS (As := [.int b0, .int (nI 9999)]) (rest := []) ⟨hx, hb, hml, hown, ht⟩ (c_M_up_9999 l dC dI cI cZ cL b0) (va_cwS 2 ht (good_S m_471 m_472 m_7 m_473) rfl rfl rfl (by decide +kernel) ⟨Nat.le_of_ble_eq_true rfl, Nat.le_of_ble_eq_true rfl⟩) (wt_preS hK hN (hP.sub [] rfl)) rfl rfl hl.1 rfl (lv_room (Nat.le_of_ble_eq_true rfl)) dM_gram_29 ⟨Nat.le_of_ble_eq_true rfl, Nat.le_of_ble_eq_true rfl⟩) ?_
    refine lv_if_ne (tgt := 37) hx hb dM_gram_32 (by decide) (fun c_3 => ?_) (fun c_3 => ?_)
    · skip
      refine lv_aload_n hx hb dM_gram_37 rfl (lv_at hl 1 rfl) ?_
      refine va_get (D := (dC, dI)) (ci := 5) (v := .ref (q 1)) (C := RM) (T := TM) (N := 20) hx hb ht inM hown hK hP 0 rfl rfl 0 (by decide) (ht _ m_394) (fun _ h9 => h9) rfl dM_gram_38 ?_
      refine lv_iload hx hb dM_gram_41 (lv_at hl 0 rfl) ?_
      refine lv_iconst (v := nI 1) hx hb dM_gram_43 (by decide) ?_
      rw [show (.int (nI 1) : Value) = .int (wt_bI true) from rfl]
      refine wt_zast hx hb hK hP hD hS 1 1 rfl rfl (k := ww) (by omega) (by decide) dM_gram_44 (fun H locs hP hD hS => ?_)
      have hP : va_P (dC, dI) vwCl (wM cI cZ cL q (va_up kn ww true) co bo mn wd zs fp ho lv fr so ea dn cd nx nd nc al wo wh) H := hP
      have hD : va_D A (wM cI cZ cL q (va_up kn ww true) co bo mn wd zs fp ho lv fr so ea dn cd nx nd nc al wo wh) := hD
      refine lv_aload_n hx hb dM_gram_45 rfl (lv_at hl 1 rfl) ?_
      refine va_get (D := (dC, dI)) (ci := 5) (v := .ref (q 2)) (C := RM) (T := TM) (N := 20) hx hb ht inM hown hK hP 0 rfl rfl 1 (by decide) (ht _ m_395) (fun _ h9 => h9) rfl dM_gram_46 ?_
      refine lv_iload hx hb dM_gram_49 (lv_at hl 0 rfl) ?_
      refine lv_iload hx hb dM_gram_51 (lv_at hl 5 rfl) ?_
      refine wt_iast hx hb hK hP hD hS 2 0 rfl rfl (k := ww) (by omega) (by decide) dM_gram_53 (fun H locs hP hD hS => ?_)
      have hP : va_P (dC, dI) vwCl (wM cI cZ cL q (va_up kn ww true) (upd co ww c0) bo mn wd zs fp ho lv fr so ea dn cd nx nd nc al wo wh) H := hP
      have hD : va_D A (wM cI cZ cL q (va_up kn ww true) (upd co ww c0) bo mn wd zs fp ho lv fr so ea dn cd nx nd nc al wo wh) := hD
      refine lv_aload_n hx hb dM_gram_54 rfl (lv_at hl 1 rfl) ?_
      refine va_get (D := (dC, dI)) (ci := 5) (v := .ref (q 3)) (C := RM) (T := TM) (N := 20) hx hb ht inM hown hK hP 0 rfl rfl 2 (by decide) (ht _ m_396) (fun _ h9 => h9) rfl dM_gram_55 ?_
      refine lv_iload hx hb dM_gram_58 (lv_at hl 0 rfl) ?_
      refine lv_iload hx hb dM_gram_60 (lv_at hl 6 rfl) ?_
      refine wt_iast hx hb hK hP hD hS 3 0 rfl rfl (k := ww) (by omega) (by decide) dM_gram_62 (fun H locs hP hD hS => ?_)
      have hP : va_P (dC, dI) vwCl (wM cI cZ cL q (va_up kn ww true) (upd co ww c0) (upd bo ww b0) mn wd zs fp ho lv fr so ea dn cd nx nd nc al wo wh) H := hP
      have hD : va_D A (wM cI cZ cL q (va_up kn ww true) (upd co ww c0) (upd bo ww b0) mn wd zs fp ho lv fr so ea dn cd nx nd nc al wo wh) := hD
      refine lv_iconst (v := nI 1) hx hb dM_gram_63 (by decide) ?_
      have hP9 : va_P (dC, dI) vwCl (wM cI cZ cL q (va_up kn (ww) true) (upd co (ww) c0) (upd bo (ww) b0) mn wd zs fp ho lv fr so ea dn cd nx nd nc al wo wh) H := by exact hP
      have hD9 : va_D A (wM cI cZ cL q (va_up kn (ww) true) (upd co (ww) c0) (upd bo (ww) b0) mn wd zs fp ho lv fr so ea dn cd nx nd nc al wo wh) := by exact hD
      exact W.zret (v := nI 1) hx hb hr rfl (fun t ht hW => ⟨⟨_, (), rfl, rfl, by rw [ht]; exact hP9, hD9⟩, hS.F ht⟩) hS.2.2 dM_gram_64
    · exact absurd c_3 hb0

set_option maxHeartbeats 4000000 in
set_option maxRecDepth 100000 in
theorem c_M_ungram_n1 (l : Launch) (dC : Nat → ClassId) (dI : Nat → Nat → Nat) (cI cZ cL : ClassId) (q : Nat → Nat) (kn : Nat → Bool) (co : Nat → Int32) (bo : Nat → Int32) (mn : Nat) (wd : Nat → Nat) (zs : Nat → Nat) (fp : Nat → Int32) (ho : Nat → Int32) (lv : Nat → Int32) (fr : Nat) (so : Nat → Int32) (ea : Nat → Int32) (dn : Nat → Int32) (cd : Nat → Int32) (nx : Nat → Int32) (nd : Nat → Int32) (nc : Nat → Int32) (al : Int32) (wo : Int32) (wh : Int32) (ww : Nat) (hww : ww < 5) (hno : kn (ww) = false) : Met l yM_ungram (Cond.code yM_ungram cM_ungram 5 (some .boolean) :: tb) ({ frames := 2, cells := 0, slots := 0, locals := 43 }) (va_Pc [.ref (q 0), .int (-1), .int (-1), .int (nI ww)] (wt_ro (dC, dI) vwCl [(cI, .int), (cZ, .boolean), (cL, .long)] (wM cI cZ cL q kn co bo mn wd zs fp ho lv fr so ea dn cd nx nd nc al wo wh))) (vp_Si (fun r => r = (nI 0))) 0 0 (fun _ => False) := by
  refine Met.ofW (cc := cM_ungram) (maxL := 5) (ret := (some .boolean)) (by decide) rfl ?_
  intro p e s m args below meth c s₁ B hml hv
  obtain ⟨rfl, hP, hK, hN⟩ := hv
  have hx := B.exec
  have hb := B.bytes
  have hr := B.returns
  have hts := atoms_spec (ws := (Cond.code yM_ungram cM_ungram 5 (some .boolean) :: tb)) B.pre
  have ht : ∀ w ∈ tb, w.before _ s = true := fun w h => hts w (List.mem_cons_of_mem _ h)
  have hown : s.vm.findClass RM = some m.cls := findClass_of_methodNamed B.named
  have hlocks := B.notSynchronized
  have hl := lv_entry ([.ref (q 0), .int (-1), .int (-1), .int (nI ww)]) (n := 5) (Nat.le_of_ble_eq_true rfl)
  rw [lg_entry_eq]
  generalize (lg_sl ([.ref (q 0), .int (-1), .int (-1), .int (nI ww)]) ++ List.replicate (5 - (lg_sl ([.ref (q 0), .int (-1), .int (-1), .int (nI ww)])).length) Slot.unset).toArray = ls at hl ⊢
  have hl : lv_has ls 5 [(0, .ref (q 0)), (1, .int (-1)), (2, .int (-1)), (3, .int (nI ww))] := hl
  refine lv_iload_n hx hb dM_ungram_0 rfl (lv_at hl 1 rfl) ?_
  refine lv_iload_n hx hb dM_ungram_1 rfl (lv_at hl 2 rfl) ?_
  refine lv_iload_n hx hb dM_ungram_2 rfl (lv_at hl 3 rfl) ?_
  refine wt_roi (va_runS (As := [.int (-1), .int (-1), .int (nI ww)]) (rest := []) ⟨hx, hb, hml, hown, ht⟩ (c_M_slot_1 l dC dI cI cZ cL ww hww) (va_cwS 3 ht (good_S m_479 m_480 m_7 m_481) rfl rfl rfl (by decide +kernel) ⟨Nat.le_of_ble_eq_true rfl, Nat.le_of_ble_eq_true rfl⟩) (wt_preS hK hN (hP.sub [] rfl)) rfl rfl hl.1 rfl (lv_room (Nat.le_of_ble_eq_true rfl)) dM_ungram_3 ⟨Nat.le_of_ble_eq_true rfl, Nat.le_of_ble_eq_true rfl⟩) ?_
  refine lv_istore (lv' := [(4, .int (nI ww)), (0, .ref (q 0)), (1, .int (-1)), (2, .int (-1)), (3, .int (nI ww))]) hx hb dM_ungram_6 hl (by decide) rfl (fun ls hl => ?_)
  refine lv_iload hx hb dM_ungram_8 (lv_at hl 0 rfl) ?_
  refine wt_if_lt (tgt := 23) hx hb dM_ungram_10 (by decide) (by omega) ?_
  refine lv_aload_n hx hb dM_ungram_13 rfl (lv_at hl 1 rfl) ?_
  refine va_get (D := (dC, dI)) (ci := 5) (v := .ref (q 1)) (C := RM) (T := TM) (N := 20) hx hb ht inM hown hK hP 0 rfl rfl 0 (by decide) (ht _ m_394) (fun _ h9 => h9) rfl dM_ungram_14 ?_
  refine lv_iload hx hb dM_ungram_17 (lv_at hl 0 rfl) ?_
  refine wt_zald hx hb hK hP 1 1 rfl rfl (k := ww) (by omega) (by decide) dM_ungram_19 ?_
  refine wt_bif_ne (tgt := 25) hx hb dM_ungram_20 (by decide) (fun c_2 => ?_) (fun c_2 => ?_)
  · exact absurd c_2 (by rw [hno]; decide)
  · skip
    refine lv_iconst (v := nI 0) hx hb dM_ungram_23 (by decide) ?_
    exact W.zret (v := nI 0) hx hb hr rfl (fun t ht hW => ⟨_, rfl, rfl, ht⟩) (fun q h => by cases h) dM_ungram_24

set_option maxHeartbeats 4000000 in
set_option maxRecDepth 100000 in
theorem c_M_ungram_a1 (l : Launch) (dC : Nat → ClassId) (dI : Nat → Nat → Nat) (cI cZ cL : ClassId) (q : Nat → Nat) (sz0 : Nat) (kn : Nat → Bool) (co : Nat → Int32) (bo : Nat → Int32) (mn : Nat) (wd : Nat → Nat) (zs : Nat → Nat) (fp : Nat → Int32) (ho : Nat → Int32) (lv : Nat → Int32) (fr : Nat) (so : Nat → Int32) (ea : Nat → Int32) (dn : Nat → Int32) (cd : Nat → Int32) (nx : Nat → Int32) (nd : Nat → Int32) (nc : Nat → Int32) (al : Int32) (wo : Int32) (wh : Int32) (ww : Nat) (hww : ww < 5) (hyes : kn (ww) = true) : Met l yM_ungram (Cond.code yM_ungram cM_ungram 5 (some .boolean) :: tb) ({ frames := 2, cells := 0, slots := 0, locals := 43 }) (va_Pc [.ref (q 0), .int (-1), .int (-1), .int (nI ww)] (wt_rw (dC, dI) vwCl [(cI, .int), (cZ, .boolean), (cL, .long)] (wM cI cZ cL q kn co bo mn wd zs fp ho lv fr so ea dn cd nx nd nc al wo wh) sz0)) (va_Qi (fun r (_ : Unit) => r = (nI 1)) (wt_B (dC, dI) vwCl (va_A (wM cI cZ cL q kn co bo mn wd zs fp ho lv fr so ea dn cd nx nd nc al wo wh) sz0) (wM cI cZ cL q (va_up kn (ww) false) co bo mn wd zs fp ho lv fr so ea dn cd nx nd nc al wo wh)) (va_A (wM cI cZ cL q kn co bo mn wd zs fp ho lv fr so ea dn cd nx nd nc al wo wh) sz0)) 0 0 (va_A (wM cI cZ cL q kn co bo mn wd zs fp ho lv fr so ea dn cd nx nd nc al wo wh) sz0) := by
  refine Met.ofW (cc := cM_ungram) (maxL := 5) (ret := (some .boolean)) (by decide) rfl ?_
  intro p e s m args below meth c s₁ B hml hv
  obtain ⟨rfl, hsz, hP, hK, hN, hD0⟩ := hv
  have hx := B.exec
  have hb := B.bytes
  have hr := B.returns
  have hts := atoms_spec (ws := (Cond.code yM_ungram cM_ungram 5 (some .boolean) :: tb)) B.pre
  have ht : ∀ w ∈ tb, w.before _ s = true := fun w h => hts w (List.mem_cons_of_mem _ h)
  have hown : s.vm.findClass RM = some m.cls := findClass_of_methodNamed B.named
  have hlocks := B.notSynchronized
  subst hsz
  have hD := hD0.self (sz := s.heap.size)
  generalize hAe : va_A (wM cI cZ cL q kn co bo mn wd zs fp ho lv fr so ea dn cd nx nd nc al wo wh) s.heap.size = A at hD ⊢
  have hA : ∀ q : Nat, s.heap.size ≤ q → A q := fun q h => by rw [← hAe]; exact Or.inr h
  clear hAe hD0
  have hS : va_S A s.heap s.heap [] := va_S.rf
  have hl := lv_entry ([.ref (q 0), .int (-1), .int (-1), .int (nI ww)]) (n := 5) (Nat.le_of_ble_eq_true rfl)
  rw [lg_entry_eq]
  generalize (lg_sl ([.ref (q 0), .int (-1), .int (-1), .int (nI ww)]) ++ List.replicate (5 - (lg_sl ([.ref (q 0), .int (-1), .int (-1), .int (nI ww)])).length) Slot.unset).toArray = ls at hl ⊢
  have hl : lv_has ls 5 [(0, .ref (q 0)), (1, .int (-1)), (2, .int (-1)), (3, .int (nI ww))] := hl
  refine lv_iload_n hx hb dM_ungram_0 rfl (lv_at hl 1 rfl) ?_
  refine lv_iload_n hx hb dM_ungram_1 rfl (lv_at hl 2 rfl) ?_
  refine lv_iload_n hx hb dM_ungram_2 rfl (lv_at hl 3 rfl) ?_
  refine wt_roi (va_runS (As := [.int (-1), .int (-1), .int (nI ww)]) (rest := []) ⟨hx, hb, hml, hown, ht⟩ (c_M_slot_1 l dC dI cI cZ cL ww hww) (va_cwS 3 ht (good_S m_479 m_480 m_7 m_481) rfl rfl rfl (by decide +kernel) ⟨Nat.le_of_ble_eq_true rfl, Nat.le_of_ble_eq_true rfl⟩) (wt_preS hK hN (hP.sub [] rfl)) rfl rfl hl.1 rfl (lv_room (Nat.le_of_ble_eq_true rfl)) dM_ungram_3 ⟨Nat.le_of_ble_eq_true rfl, Nat.le_of_ble_eq_true rfl⟩) ?_
  refine lv_istore (lv' := [(4, .int (nI ww)), (0, .ref (q 0)), (1, .int (-1)), (2, .int (-1)), (3, .int (nI ww))]) hx hb dM_ungram_6 hl (by decide) rfl (fun ls hl => ?_)
  refine lv_iload hx hb dM_ungram_8 (lv_at hl 0 rfl) ?_
  refine wt_if_lt (tgt := 23) hx hb dM_ungram_10 (by decide) (by omega) ?_
  refine lv_aload_n hx hb dM_ungram_13 rfl (lv_at hl 1 rfl) ?_
  refine va_get (D := (dC, dI)) (ci := 5) (v := .ref (q 1)) (C := RM) (T := TM) (N := 20) hx hb ht inM hown hK hP 0 rfl rfl 0 (by decide) (ht _ m_394) (fun _ h9 => h9) rfl dM_ungram_14 ?_
  refine lv_iload hx hb dM_ungram_17 (lv_at hl 0 rfl) ?_
  refine wt_zald hx hb hK hP 1 1 rfl rfl (k := ww) (by omega) (by decide) dM_ungram_19 ?_
  refine wt_bif_ne (tgt := 25) hx hb dM_ungram_20 (by decide) (fun c_2 => ?_) (fun c_2 => ?_)
  · skip
    refine lv_aload_n hx hb dM_ungram_25 rfl (lv_at hl 1 rfl) ?_
    refine va_get (D := (dC, dI)) (ci := 5) (v := .ref (q 1)) (C := RM) (T := TM) (N := 20) hx hb ht inM hown hK hP 0 rfl rfl 0 (by decide) (ht _ m_394) (fun _ h9 => h9) rfl dM_ungram_26 ?_
    refine lv_iload hx hb dM_ungram_29 (lv_at hl 0 rfl) ?_
    refine lv_iconst (v := nI 0) hx hb dM_ungram_31 (by decide) ?_
    rw [show (.int (nI 0) : Value) = .int (wt_bI false) from rfl]
    refine wt_zast hx hb hK hP hD hS 1 1 rfl rfl (k := ww) (by omega) (by decide) dM_ungram_32 (fun H locs hP hD hS => ?_)
    have hP : va_P (dC, dI) vwCl (wM cI cZ cL q (va_up kn ww false) co bo mn wd zs fp ho lv fr so ea dn cd nx nd nc al wo wh) H := hP
    have hD : va_D A (wM cI cZ cL q (va_up kn ww false) co bo mn wd zs fp ho lv fr so ea dn cd nx nd nc al wo wh) := hD
    refine lv_iconst (v := nI 1) hx hb dM_ungram_33 (by decide) ?_
    have hP9 : va_P (dC, dI) vwCl (wM cI cZ cL q (va_up kn (ww) false) co bo mn wd zs fp ho lv fr so ea dn cd nx nd nc al wo wh) H := by exact hP
    have hD9 : va_D A (wM cI cZ cL q (va_up kn (ww) false) co bo mn wd zs fp ho lv fr so ea dn cd nx nd nc al wo wh) := by exact hD
    exact W.zret (v := nI 1) hx hb hr rfl (fun t ht hW => ⟨⟨_, (), rfl, rfl, by rw [ht]; exact hP9, hD9⟩, hS.F ht⟩) hS.2.2 dM_ungram_34
  · exact absurd c_2 (by rw [hyes]; decide)

set_option maxHeartbeats 4000000 in
set_option maxRecDepth 100000 in
theorem c_M_gram_b2 (l : Launch) (dC : Nat → ClassId) (dI : Nat → Nat → Nat) (cI cZ cL : ClassId) (q : Nat → Nat) (kn : Nat → Bool) (co : Nat → Int32) (bo : Nat → Int32) (mn : Nat) (wd : Nat → Nat) (zs : Nat → Nat) (fp : Nat → Int32) (ho : Nat → Int32) (lv : Nat → Int32) (fr : Nat) (so : Nat → Int32) (ea : Nat → Int32) (dn : Nat → Int32) (cd : Nat → Int32) (nx : Nat → Int32) (nd : Nat → Int32) (nc : Nat → Int32) (al : Int32) (wo : Int32) (wh : Int32) (vv : Nat) (ww : Nat) (c0 : Int32) (b0 : Int32) (hvv : vv < 5) (hww : ww < 5) (hbad : (decide (¬ wt_rng c0 10000 = 0) && decide (¬ wt_rng b0 10000 = 0)) = false) : Met l yM_gram (Cond.code yM_gram cM_gram 7 (some .boolean) :: tb) ({ frames := 2, cells := 0, slots := 0, locals := 43 }) (va_Pc [.ref (q 0), .int (-1), .int (nI vv), .int (nI ww), .int c0, .int b0] (wt_ro (dC, dI) vwCl [(cI, .int), (cZ, .boolean), (cL, .long)] (wM cI cZ cL q kn co bo mn wd zs fp ho lv fr so ea dn cd nx nd nc al wo wh))) (vp_Si (fun r => r = (nI 0))) 0 0 (fun _ => False) := by
  refine Met.ofW (cc := cM_gram) (maxL := 7) (ret := (some .boolean)) (by decide) rfl ?_
  intro p e s m args below meth c s₁ B hml hv
  obtain ⟨rfl, hP, hK, hN⟩ := hv
  have hx := B.exec
  have hb := B.bytes
  have hr := B.returns
  have hts := atoms_spec (ws := (Cond.code yM_gram cM_gram 7 (some .boolean) :: tb)) B.pre
  have ht : ∀ w ∈ tb, w.before _ s = true := fun w h => hts w (List.mem_cons_of_mem _ h)
  have hown : s.vm.findClass RM = some m.cls := findClass_of_methodNamed B.named
  have hlocks := B.notSynchronized
  have hl := lv_entry ([.ref (q 0), .int (-1), .int (nI vv), .int (nI ww), .int c0, .int b0]) (n := 7) (Nat.le_of_ble_eq_true rfl)
  rw [lg_entry_eq]
  generalize (lg_sl ([.ref (q 0), .int (-1), .int (nI vv), .int (nI ww), .int c0, .int b0]) ++ List.replicate (7 - (lg_sl ([.ref (q 0), .int (-1), .int (nI vv), .int (nI ww), .int c0, .int b0])).length) Slot.unset).toArray = ls at hl ⊢
  have hl : lv_has ls 7 [(0, .ref (q 0)), (1, .int (-1)), (2, .int (nI vv)), (3, .int (nI ww)), (4, .int c0), (5, .int b0)] := hl
  refine lv_iload_n hx hb dM_gram_0 rfl (lv_at hl 1 rfl) ?_
  refine lv_iload_n hx hb dM_gram_1 rfl (lv_at hl 2 rfl) ?_
  refine lv_iload_n hx hb dM_gram_2 rfl (lv_at hl 3 rfl) ?_
  refine wt_roi (va_runS (As := [.int (-1), .int (nI vv), .int (nI ww)]) (rest := []) ⟨hx, hb, hml, hown, ht⟩ (c_M_slot_2 l dC dI cI cZ cL vv ww hvv hww) (va_cwS 3 ht (good_S m_479 m_480 m_7 m_481) rfl rfl rfl (by decide +kernel) ⟨Nat.le_of_ble_eq_true rfl, Nat.le_of_ble_eq_true rfl⟩) (wt_preS hK hN (hP.sub [] rfl)) rfl rfl hl.1 rfl (lv_room (Nat.le_of_ble_eq_true rfl)) dM_gram_3 ⟨Nat.le_of_ble_eq_true rfl, Nat.le_of_ble_eq_true rfl⟩) ?_
  refine lv_istore (lv' := [(6, .int (nI (5 + 5 * vv + ww))), (0, .ref (q 0)), (1, .int (-1)), (2, .int (nI vv)), (3, .int (nI ww)), (4, .int c0), (5, .int b0)]) hx hb dM_gram_6 hl (by decide) rfl (fun ls hl => ?_)
  refine lv_iload hx hb dM_gram_8 (lv_at hl 0 rfl) ?_
  refine wt_if_lt (tgt := 35) hx hb dM_gram_10 (by decide) (by omega) ?_
  refine lv_iload hx hb dM_gram_13 (lv_at hl 5 rfl) ?_
  refine lv_sipush (v := nI 9999) hx hb dM_gram_15 (by decide) ?_
  refine wt_roi (va_runS (As := [.int c0, .int (nI 9999)]) (rest := []) ⟨hx, hb, hml, hown, ht⟩ (c_M_up_9999 l dC dI cI cZ cL c0) (va_cwS 2 ht (good_S m_471 m_472 m_7 m_473) rfl rfl rfl (by decide +kernel) ⟨Nat.le_of_ble_eq_true rfl, Nat.le_of_ble_eq_true rfl⟩) (wt_preS hK hN (hP.sub [] rfl)) rfl rfl hl.1 rfl (lv_room (Nat.le_of_ble_eq_true rfl)) dM_gram_18 ⟨Nat.le_of_ble_eq_true rfl, Nat.le_of_ble_eq_true rfl⟩) ?_
  refine lv_if_eq (tgt := 35) hx hb dM_gram_21 (by decide) (fun c_2 => ?_) (fun c_2 => ?_)
  · skip
    refine lv_iconst (v := nI 0) hx hb dM_gram_35 (by decide) ?_
    exact W.zret (v := nI 0) hx hb hr rfl (fun t ht hW => ⟨_, rfl, rfl, ht⟩) (fun q h => by cases h) dM_gram_36
  · skip
    refine lv_iload hx hb dM_gram_24 (lv_at hl 6 rfl) ?_
    refine lv_sipush (v := nI 9999) hx hb dM_gram_26 (by decide) ?_
    refine wt_roi (va_runS (As := [.int b0, .int (nI 9999)]) (rest := []) ⟨hx, hb, hml, hown, ht⟩ (c_M_up_9999 l dC dI cI cZ cL b0) (va_cwS 2 ht (good_S m_471 m_472 m_7 m_473) rfl rfl rfl (by decide +kernel) ⟨Nat.le_of_ble_eq_true rfl, Nat.le_of_ble_eq_true rfl⟩) (wt_preS hK hN (hP.sub [] rfl)) rfl rfl hl.1 rfl (lv_room (Nat.le_of_ble_eq_true rfl)) dM_gram_29 ⟨Nat.le_of_ble_eq_true rfl, Nat.le_of_ble_eq_true rfl⟩) ?_
    refine lv_if_ne (tgt := 37) hx hb dM_gram_32 (by decide) (fun c_3 => ?_) (fun c_3 => ?_)
    · exact absurd hbad (by simp [c_2, c_3])
    · skip
      refine lv_iconst (v := nI 0) hx hb dM_gram_35 (by decide) ?_
      exact W.zret (v := nI 0) hx hb hr rfl (fun t ht hW => ⟨_, rfl, rfl, ht⟩) (fun q h => by cases h) dM_gram_36

set_option maxHeartbeats 4000000 in
set_option maxRecDepth 100000 in
theorem c_M_gram_a2 (l : Launch) (dC : Nat → ClassId) (dI : Nat → Nat → Nat) (cI cZ cL : ClassId) (q : Nat → Nat) (sz0 : Nat) (kn : Nat → Bool) (co : Nat → Int32) (bo : Nat → Int32) (mn : Nat) (wd : Nat → Nat) (zs : Nat → Nat) (fp : Nat → Int32) (ho : Nat → Int32) (lv : Nat → Int32) (fr : Nat) (so : Nat → Int32) (ea : Nat → Int32) (dn : Nat → Int32) (cd : Nat → Int32) (nx : Nat → Int32) (nd : Nat → Int32) (nc : Nat → Int32) (al : Int32) (wo : Int32) (wh : Int32) (vv : Nat) (ww : Nat) (c0 : Int32) (b0 : Int32) (hvv : vv < 5) (hww : ww < 5) (hc0 : ¬ wt_rng c0 10000 = 0) (hb0 : ¬ wt_rng b0 10000 = 0) : Met l yM_gram (Cond.code yM_gram cM_gram 7 (some .boolean) :: tb) ({ frames := 2, cells := 0, slots := 0, locals := 43 }) (va_Pc [.ref (q 0), .int (-1), .int (nI vv), .int (nI ww), .int c0, .int b0] (wt_rw (dC, dI) vwCl [(cI, .int), (cZ, .boolean), (cL, .long)] (wM cI cZ cL q kn co bo mn wd zs fp ho lv fr so ea dn cd nx nd nc al wo wh) sz0)) (va_Qi (fun r (_ : Unit) => r = (nI 1)) (wt_B (dC, dI) vwCl (va_A (wM cI cZ cL q kn co bo mn wd zs fp ho lv fr so ea dn cd nx nd nc al wo wh) sz0) (wM cI cZ cL q (va_up kn (5 + 5 * vv + ww) true) (upd co (5 + 5 * vv + ww) c0) (upd bo (5 + 5 * vv + ww) b0) mn wd zs fp ho lv fr so ea dn cd nx nd nc al wo wh)) (va_A (wM cI cZ cL q kn co bo mn wd zs fp ho lv fr so ea dn cd nx nd nc al wo wh) sz0)) 0 0 (va_A (wM cI cZ cL q kn co bo mn wd zs fp ho lv fr so ea dn cd nx nd nc al wo wh) sz0) := by
  refine Met.ofW (cc := cM_gram) (maxL := 7) (ret := (some .boolean)) (by decide) rfl ?_
  intro p e s m args below meth c s₁ B hml hv
  obtain ⟨rfl, hsz, hP, hK, hN, hD0⟩ := hv
  have hx := B.exec
  have hb := B.bytes
  have hr := B.returns
  have hts := atoms_spec (ws := (Cond.code yM_gram cM_gram 7 (some .boolean) :: tb)) B.pre
  have ht : ∀ w ∈ tb, w.before _ s = true := fun w h => hts w (List.mem_cons_of_mem _ h)
  have hown : s.vm.findClass RM = some m.cls := findClass_of_methodNamed B.named
  have hlocks := B.notSynchronized
  subst hsz
  have hD := hD0.self (sz := s.heap.size)
  generalize hAe : va_A (wM cI cZ cL q kn co bo mn wd zs fp ho lv fr so ea dn cd nx nd nc al wo wh) s.heap.size = A at hD ⊢
  have hA : ∀ q : Nat, s.heap.size ≤ q → A q := fun q h => by rw [← hAe]; exact Or.inr h
  clear hAe hD0
  have hS : va_S A s.heap s.heap [] := va_S.rf
  have hl := lv_entry ([.ref (q 0), .int (-1), .int (nI vv), .int (nI ww), .int c0, .int b0]) (n := 7) (Nat.le_of_ble_eq_true rfl)
  rw [lg_entry_eq]
  generalize (lg_sl ([.ref (q 0), .int (-1), .int (nI vv), .int (nI ww), .int c0, .int b0]) ++ List.replicate (7 - (lg_sl ([.ref (q 0), .int (-1), .int (nI vv), .int (nI ww), .int c0, .int b0])).length) Slot.unset).toArray = ls at hl ⊢
  have hl : lv_has ls 7 [(0, .ref (q 0)), (1, .int (-1)), (2, .int (nI vv)), (3, .int (nI ww)), (4, .int c0), (5, .int b0)] := hl
  refine lv_iload_n hx hb dM_gram_0 rfl (lv_at hl 1 rfl) ?_
  refine lv_iload_n hx hb dM_gram_1 rfl (lv_at hl 2 rfl) ?_
  refine lv_iload_n hx hb dM_gram_2 rfl (lv_at hl 3 rfl) ?_
  refine wt_roi (va_runS (As := [.int (-1), .int (nI vv), .int (nI ww)]) (rest := []) ⟨hx, hb, hml, hown, ht⟩ (c_M_slot_2 l dC dI cI cZ cL vv ww hvv hww) (va_cwS 3 ht (good_S m_479 m_480 m_7 m_481) rfl rfl rfl (by decide +kernel) ⟨Nat.le_of_ble_eq_true rfl, Nat.le_of_ble_eq_true rfl⟩) (wt_preS hK hN (hP.sub [] rfl)) rfl rfl hl.1 rfl (lv_room (Nat.le_of_ble_eq_true rfl)) dM_gram_3 ⟨Nat.le_of_ble_eq_true rfl, Nat.le_of_ble_eq_true rfl⟩) ?_
  refine lv_istore (lv' := [(6, .int (nI (5 + 5 * vv + ww))), (0, .ref (q 0)), (1, .int (-1)), (2, .int (nI vv)), (3, .int (nI ww)), (4, .int c0), (5, .int b0)]) hx hb dM_gram_6 hl (by decide) rfl (fun ls hl => ?_)
  refine lv_iload hx hb dM_gram_8 (lv_at hl 0 rfl) ?_
  refine wt_if_lt (tgt := 35) hx hb dM_gram_10 (by decide) (by omega) ?_
  refine lv_iload hx hb dM_gram_13 (lv_at hl 5 rfl) ?_
  refine lv_sipush (v := nI 9999) hx hb dM_gram_15 (by decide) ?_
  refine wt_roi (va_runS (As := [.int c0, .int (nI 9999)]) (rest := []) ⟨hx, hb, hml, hown, ht⟩ (c_M_up_9999 l dC dI cI cZ cL c0) (va_cwS 2 ht (good_S m_471 m_472 m_7 m_473) rfl rfl rfl (by decide +kernel) ⟨Nat.le_of_ble_eq_true rfl, Nat.le_of_ble_eq_true rfl⟩) (wt_preS hK hN (hP.sub [] rfl)) rfl rfl hl.1 rfl (lv_room (Nat.le_of_ble_eq_true rfl)) dM_gram_18 ⟨Nat.le_of_ble_eq_true rfl, Nat.le_of_ble_eq_true rfl⟩) ?_
  refine lv_if_eq (tgt := 35) hx hb dM_gram_21 (by decide) (fun c_2 => ?_) (fun c_2 => ?_)
  · exact absurd c_2 hc0
  · skip
    refine lv_iload hx hb dM_gram_24 (lv_at hl 6 rfl) ?_
    refine lv_sipush (v := nI 9999) hx hb dM_gram_26 (by decide) ?_
    refine wt_roi (va_runS (As := [.int b0, .int (nI 9999)]) (rest := []) ⟨hx, hb, hml, hown, ht⟩ (c_M_up_9999 l dC dI cI cZ cL b0) (va_cwS 2 ht (good_S m_471 m_472 m_7 m_473) rfl rfl rfl (by decide +kernel) ⟨Nat.le_of_ble_eq_true rfl, Nat.le_of_ble_eq_true rfl⟩) (wt_preS hK hN (hP.sub [] rfl)) rfl rfl hl.1 rfl (lv_room (Nat.le_of_ble_eq_true rfl)) dM_gram_29 ⟨Nat.le_of_ble_eq_true rfl, Nat.le_of_ble_eq_true rfl⟩) ?_
    refine lv_if_ne (tgt := 37) hx hb dM_gram_32 (by decide) (fun c_3 => ?_) (fun c_3 => ?_)
    · skip
      refine lv_aload_n hx hb dM_gram_37 rfl (lv_at hl 1 rfl) ?_
      refine va_get (D := (dC, dI)) (ci := 5) (v := .ref (q 1)) (C := RM) (T := TM) (N := 20) hx hb ht inM hown hK hP 0 rfl rfl 0 (by decide) (ht _ m_394) (fun _ h9 => h9) rfl dM_gram_38 ?_
      refine lv_iload hx hb dM_gram_41 (lv_at hl 0 rfl) ?_
      refine lv_iconst (v := nI 1) hx hb dM_gram_43 (by decide) ?_
      rw [show (.int (nI 1) : Value) = .int (wt_bI true) from rfl]
      refine wt_zast hx hb hK hP hD hS 1 1 rfl rfl (k := 5 + 5 * vv + ww) (by omega) (by decide) dM_gram_44 (fun H locs hP hD hS => ?_)
      have hP : va_P (dC, dI) vwCl (wM cI cZ cL q (va_up kn (5 + 5 * vv + ww) true) co bo mn wd zs fp ho lv fr so ea dn cd nx nd nc al wo wh) H := hP
      have hD : va_D A (wM cI cZ cL q (va_up kn (5 + 5 * vv + ww) true) co bo mn wd zs fp ho lv fr so ea dn cd nx nd nc al wo wh) := hD
      refine lv_aload_n hx hb dM_gram_45 rfl (lv_at hl 1 rfl) ?_
      refine va_get (D := (dC, dI)) (ci := 5) (v := .ref (q 2)) (C := RM) (T := TM) (N := 20) hx hb ht inM hown hK hP 0 rfl rfl 1 (by decide) (ht _ m_395) (fun _ h9 => h9) rfl dM_gram_46 ?_
      refine lv_iload hx hb dM_gram_49 (lv_at hl 0 rfl) ?_
      refine lv_iload hx hb dM_gram_51 (lv_at hl 5 rfl) ?_
      refine wt_iast hx hb hK hP hD hS 2 0 rfl rfl (k := 5 + 5 * vv + ww) (by omega) (by decide) dM_gram_53 (fun H locs hP hD hS => ?_)
      have hP : va_P (dC, dI) vwCl (wM cI cZ cL q (va_up kn (5 + 5 * vv + ww) true) (upd co (5 + 5 * vv + ww) c0) bo mn wd zs fp ho lv fr so ea dn cd nx nd nc al wo wh) H := hP
      have hD : va_D A (wM cI cZ cL q (va_up kn (5 + 5 * vv + ww) true) (upd co (5 + 5 * vv + ww) c0) bo mn wd zs fp ho lv fr so ea dn cd nx nd nc al wo wh) := hD
      refine lv_aload_n hx hb dM_gram_54 rfl (lv_at hl 1 rfl) ?_
      refine va_get (D := (dC, dI)) (ci := 5) (v := .ref (q 3)) (C := RM) (T := TM) (N := 20) hx hb ht inM hown hK hP 0 rfl rfl 2 (by decide) (ht _ m_396) (fun _ h9 => h9) rfl dM_gram_55 ?_
      refine lv_iload hx hb dM_gram_58 (lv_at hl 0 rfl) ?_
      refine lv_iload hx hb dM_gram_60 (lv_at hl 6 rfl) ?_
      refine wt_iast hx hb hK hP hD hS 3 0 rfl rfl (k := 5 + 5 * vv + ww) (by omega) (by decide) dM_gram_62 (fun H locs hP hD hS => ?_)
      have hP : va_P (dC, dI) vwCl (wM cI cZ cL q (va_up kn (5 + 5 * vv + ww) true) (upd co (5 + 5 * vv + ww) c0) (upd bo (5 + 5 * vv + ww) b0) mn wd zs fp ho lv fr so ea dn cd nx nd nc al wo wh) H := hP
      have hD : va_D A (wM cI cZ cL q (va_up kn (5 + 5 * vv + ww) true) (upd co (5 + 5 * vv + ww) c0) (upd bo (5 + 5 * vv + ww) b0) mn wd zs fp ho lv fr so ea dn cd nx nd nc al wo wh) := hD
      refine lv_iconst (v := nI 1) hx hb dM_gram_63 (by decide) ?_
      have hP9 : va_P (dC, dI) vwCl (wM cI cZ cL q (va_up kn (5 + 5 * vv + ww) true) (upd co (5 + 5 * vv + ww) c0) (upd bo (5 + 5 * vv + ww) b0) mn wd zs fp ho lv fr so ea dn cd nx nd nc al wo wh) H := by exact hP
      have hD9 : va_D A (wM cI cZ cL q (va_up kn (5 + 5 * vv + ww) true) (upd co (5 + 5 * vv + ww) c0) (upd bo (5 + 5 * vv + ww) b0) mn wd zs fp ho lv fr so ea dn cd nx nd nc al wo wh) := by exact hD
      exact W.zret (v := nI 1) hx hb hr rfl (fun t ht hW => ⟨⟨_, (), rfl, rfl, by rw [ht]; exact hP9, hD9⟩, hS.F ht⟩) hS.2.2 dM_gram_64
    · exact absurd c_3 hb0

set_option maxHeartbeats 4000000 in
set_option maxRecDepth 100000 in
theorem c_M_ungram_n2 (l : Launch) (dC : Nat → ClassId) (dI : Nat → Nat → Nat) (cI cZ cL : ClassId) (q : Nat → Nat) (kn : Nat → Bool) (co : Nat → Int32) (bo : Nat → Int32) (mn : Nat) (wd : Nat → Nat) (zs : Nat → Nat) (fp : Nat → Int32) (ho : Nat → Int32) (lv : Nat → Int32) (fr : Nat) (so : Nat → Int32) (ea : Nat → Int32) (dn : Nat → Int32) (cd : Nat → Int32) (nx : Nat → Int32) (nd : Nat → Int32) (nc : Nat → Int32) (al : Int32) (wo : Int32) (wh : Int32) (vv : Nat) (ww : Nat) (hvv : vv < 5) (hww : ww < 5) (hno : kn (5 + 5 * vv + ww) = false) : Met l yM_ungram (Cond.code yM_ungram cM_ungram 5 (some .boolean) :: tb) ({ frames := 2, cells := 0, slots := 0, locals := 43 }) (va_Pc [.ref (q 0), .int (-1), .int (nI vv), .int (nI ww)] (wt_ro (dC, dI) vwCl [(cI, .int), (cZ, .boolean), (cL, .long)] (wM cI cZ cL q kn co bo mn wd zs fp ho lv fr so ea dn cd nx nd nc al wo wh))) (vp_Si (fun r => r = (nI 0))) 0 0 (fun _ => False) := by
  refine Met.ofW (cc := cM_ungram) (maxL := 5) (ret := (some .boolean)) (by decide) rfl ?_
  intro p e s m args below meth c s₁ B hml hv
  obtain ⟨rfl, hP, hK, hN⟩ := hv
  have hx := B.exec
  have hb := B.bytes
  have hr := B.returns
  have hts := atoms_spec (ws := (Cond.code yM_ungram cM_ungram 5 (some .boolean) :: tb)) B.pre
  have ht : ∀ w ∈ tb, w.before _ s = true := fun w h => hts w (List.mem_cons_of_mem _ h)
  have hown : s.vm.findClass RM = some m.cls := findClass_of_methodNamed B.named
  have hlocks := B.notSynchronized
  have hl := lv_entry ([.ref (q 0), .int (-1), .int (nI vv), .int (nI ww)]) (n := 5) (Nat.le_of_ble_eq_true rfl)
  rw [lg_entry_eq]
  generalize (lg_sl ([.ref (q 0), .int (-1), .int (nI vv), .int (nI ww)]) ++ List.replicate (5 - (lg_sl ([.ref (q 0), .int (-1), .int (nI vv), .int (nI ww)])).length) Slot.unset).toArray = ls at hl ⊢
  have hl : lv_has ls 5 [(0, .ref (q 0)), (1, .int (-1)), (2, .int (nI vv)), (3, .int (nI ww))] := hl
  refine lv_iload_n hx hb dM_ungram_0 rfl (lv_at hl 1 rfl) ?_
  refine lv_iload_n hx hb dM_ungram_1 rfl (lv_at hl 2 rfl) ?_
  refine lv_iload_n hx hb dM_ungram_2 rfl (lv_at hl 3 rfl) ?_
  refine wt_roi (va_runS (As := [.int (-1), .int (nI vv), .int (nI ww)]) (rest := []) ⟨hx, hb, hml, hown, ht⟩ (c_M_slot_2 l dC dI cI cZ cL vv ww hvv hww) (va_cwS 3 ht (good_S m_479 m_480 m_7 m_481) rfl rfl rfl (by decide +kernel) ⟨Nat.le_of_ble_eq_true rfl, Nat.le_of_ble_eq_true rfl⟩) (wt_preS hK hN (hP.sub [] rfl)) rfl rfl hl.1 rfl (lv_room (Nat.le_of_ble_eq_true rfl)) dM_ungram_3 ⟨Nat.le_of_ble_eq_true rfl, Nat.le_of_ble_eq_true rfl⟩) ?_
  refine lv_istore (lv' := [(4, .int (nI (5 + 5 * vv + ww))), (0, .ref (q 0)), (1, .int (-1)), (2, .int (nI vv)), (3, .int (nI ww))]) hx hb dM_ungram_6 hl (by decide) rfl (fun ls hl => ?_)
  refine lv_iload hx hb dM_ungram_8 (lv_at hl 0 rfl) ?_
  refine wt_if_lt (tgt := 23) hx hb dM_ungram_10 (by decide) (by omega) ?_
  refine lv_aload_n hx hb dM_ungram_13 rfl (lv_at hl 1 rfl) ?_
  refine va_get (D := (dC, dI)) (ci := 5) (v := .ref (q 1)) (C := RM) (T := TM) (N := 20) hx hb ht inM hown hK hP 0 rfl rfl 0 (by decide) (ht _ m_394) (fun _ h9 => h9) rfl dM_ungram_14 ?_
  refine lv_iload hx hb dM_ungram_17 (lv_at hl 0 rfl) ?_
  refine wt_zald hx hb hK hP 1 1 rfl rfl (k := 5 + 5 * vv + ww) (by omega) (by decide) dM_ungram_19 ?_
  refine wt_bif_ne (tgt := 25) hx hb dM_ungram_20 (by decide) (fun c_2 => ?_) (fun c_2 => ?_)
  · exact absurd c_2 (by rw [hno]; decide)
  · skip
    refine lv_iconst (v := nI 0) hx hb dM_ungram_23 (by decide) ?_
    exact W.zret (v := nI 0) hx hb hr rfl (fun t ht hW => ⟨_, rfl, rfl, ht⟩) (fun q h => by cases h) dM_ungram_24

set_option maxHeartbeats 4000000 in
set_option maxRecDepth 100000 in
theorem c_M_ungram_a2 (l : Launch) (dC : Nat → ClassId) (dI : Nat → Nat → Nat) (cI cZ cL : ClassId) (q : Nat → Nat) (sz0 : Nat) (kn : Nat → Bool) (co : Nat → Int32) (bo : Nat → Int32) (mn : Nat) (wd : Nat → Nat) (zs : Nat → Nat) (fp : Nat → Int32) (ho : Nat → Int32) (lv : Nat → Int32) (fr : Nat) (so : Nat → Int32) (ea : Nat → Int32) (dn : Nat → Int32) (cd : Nat → Int32) (nx : Nat → Int32) (nd : Nat → Int32) (nc : Nat → Int32) (al : Int32) (wo : Int32) (wh : Int32) (vv : Nat) (ww : Nat) (hvv : vv < 5) (hww : ww < 5) (hyes : kn (5 + 5 * vv + ww) = true) : Met l yM_ungram (Cond.code yM_ungram cM_ungram 5 (some .boolean) :: tb) ({ frames := 2, cells := 0, slots := 0, locals := 43 }) (va_Pc [.ref (q 0), .int (-1), .int (nI vv), .int (nI ww)] (wt_rw (dC, dI) vwCl [(cI, .int), (cZ, .boolean), (cL, .long)] (wM cI cZ cL q kn co bo mn wd zs fp ho lv fr so ea dn cd nx nd nc al wo wh) sz0)) (va_Qi (fun r (_ : Unit) => r = (nI 1)) (wt_B (dC, dI) vwCl (va_A (wM cI cZ cL q kn co bo mn wd zs fp ho lv fr so ea dn cd nx nd nc al wo wh) sz0) (wM cI cZ cL q (va_up kn (5 + 5 * vv + ww) false) co bo mn wd zs fp ho lv fr so ea dn cd nx nd nc al wo wh)) (va_A (wM cI cZ cL q kn co bo mn wd zs fp ho lv fr so ea dn cd nx nd nc al wo wh) sz0)) 0 0 (va_A (wM cI cZ cL q kn co bo mn wd zs fp ho lv fr so ea dn cd nx nd nc al wo wh) sz0) := by
  refine Met.ofW (cc := cM_ungram) (maxL := 5) (ret := (some .boolean)) (by decide) rfl ?_
  intro p e s m args below meth c s₁ B hml hv
  obtain ⟨rfl, hsz, hP, hK, hN, hD0⟩ := hv
  have hx := B.exec
  have hb := B.bytes
  have hr := B.returns
  have hts := atoms_spec (ws := (Cond.code yM_ungram cM_ungram 5 (some .boolean) :: tb)) B.pre
  have ht : ∀ w ∈ tb, w.before _ s = true := fun w h => hts w (List.mem_cons_of_mem _ h)
  have hown : s.vm.findClass RM = some m.cls := findClass_of_methodNamed B.named
  have hlocks := B.notSynchronized
  subst hsz
  have hD := hD0.self (sz := s.heap.size)
  generalize hAe : va_A (wM cI cZ cL q kn co bo mn wd zs fp ho lv fr so ea dn cd nx nd nc al wo wh) s.heap.size = A at hD ⊢
  have hA : ∀ q : Nat, s.heap.size ≤ q → A q := fun q h => by rw [← hAe]; exact Or.inr h
  clear hAe hD0
  have hS : va_S A s.heap s.heap [] := va_S.rf
  have hl := lv_entry ([.ref (q 0), .int (-1), .int (nI vv), .int (nI ww)]) (n := 5) (Nat.le_of_ble_eq_true rfl)
  rw [lg_entry_eq]
  generalize (lg_sl ([.ref (q 0), .int (-1), .int (nI vv), .int (nI ww)]) ++ List.replicate (5 - (lg_sl ([.ref (q 0), .int (-1), .int (nI vv), .int (nI ww)])).length) Slot.unset).toArray = ls at hl ⊢
  have hl : lv_has ls 5 [(0, .ref (q 0)), (1, .int (-1)), (2, .int (nI vv)), (3, .int (nI ww))] := hl
  refine lv_iload_n hx hb dM_ungram_0 rfl (lv_at hl 1 rfl) ?_
  refine lv_iload_n hx hb dM_ungram_1 rfl (lv_at hl 2 rfl) ?_
  refine lv_iload_n hx hb dM_ungram_2 rfl (lv_at hl 3 rfl) ?_
  refine wt_roi (va_runS (As := [.int (-1), .int (nI vv), .int (nI ww)]) (rest := []) ⟨hx, hb, hml, hown, ht⟩ (c_M_slot_2 l dC dI cI cZ cL vv ww hvv hww) (va_cwS 3 ht (good_S m_479 m_480 m_7 m_481) rfl rfl rfl (by decide +kernel) ⟨Nat.le_of_ble_eq_true rfl, Nat.le_of_ble_eq_true rfl⟩) (wt_preS hK hN (hP.sub [] rfl)) rfl rfl hl.1 rfl (lv_room (Nat.le_of_ble_eq_true rfl)) dM_ungram_3 ⟨Nat.le_of_ble_eq_true rfl, Nat.le_of_ble_eq_true rfl⟩) ?_
  refine lv_istore (lv' := [(4, .int (nI (5 + 5 * vv + ww))), (0, .ref (q 0)), (1, .int (-1)), (2, .int (nI vv)), (3, .int (nI ww))]) hx hb dM_ungram_6 hl (by decide) rfl (fun ls hl => ?_)
  refine lv_iload hx hb dM_ungram_8 (lv_at hl 0 rfl) ?_
  refine wt_if_lt (tgt := 23) hx hb dM_ungram_10 (by decide) (by omega) ?_
  refine lv_aload_n hx hb dM_ungram_13 rfl (lv_at hl 1 rfl) ?_
  refine va_get (D := (dC, dI)) (ci := 5) (v := .ref (q 1)) (C := RM) (T := TM) (N := 20) hx hb ht inM hown hK hP 0 rfl rfl 0 (by decide) (ht _ m_394) (fun _ h9 => h9) rfl dM_ungram_14 ?_
  refine lv_iload hx hb dM_ungram_17 (lv_at hl 0 rfl) ?_
  refine wt_zald hx hb hK hP 1 1 rfl rfl (k := 5 + 5 * vv + ww) (by omega) (by decide) dM_ungram_19 ?_
  refine wt_bif_ne (tgt := 25) hx hb dM_ungram_20 (by decide) (fun c_2 => ?_) (fun c_2 => ?_)
  · skip
    refine lv_aload_n hx hb dM_ungram_25 rfl (lv_at hl 1 rfl) ?_
    refine va_get (D := (dC, dI)) (ci := 5) (v := .ref (q 1)) (C := RM) (T := TM) (N := 20) hx hb ht inM hown hK hP 0 rfl rfl 0 (by decide) (ht _ m_394) (fun _ h9 => h9) rfl dM_ungram_26 ?_
    refine lv_iload hx hb dM_ungram_29 (lv_at hl 0 rfl) ?_
    refine lv_iconst (v := nI 0) hx hb dM_ungram_31 (by decide) ?_
    rw [show (.int (nI 0) : Value) = .int (wt_bI false) from rfl]
    refine wt_zast hx hb hK hP hD hS 1 1 rfl rfl (k := 5 + 5 * vv + ww) (by omega) (by decide) dM_ungram_32 (fun H locs hP hD hS => ?_)
    have hP : va_P (dC, dI) vwCl (wM cI cZ cL q (va_up kn (5 + 5 * vv + ww) false) co bo mn wd zs fp ho lv fr so ea dn cd nx nd nc al wo wh) H := hP
    have hD : va_D A (wM cI cZ cL q (va_up kn (5 + 5 * vv + ww) false) co bo mn wd zs fp ho lv fr so ea dn cd nx nd nc al wo wh) := hD
    refine lv_iconst (v := nI 1) hx hb dM_ungram_33 (by decide) ?_
    have hP9 : va_P (dC, dI) vwCl (wM cI cZ cL q (va_up kn (5 + 5 * vv + ww) false) co bo mn wd zs fp ho lv fr so ea dn cd nx nd nc al wo wh) H := by exact hP
    have hD9 : va_D A (wM cI cZ cL q (va_up kn (5 + 5 * vv + ww) false) co bo mn wd zs fp ho lv fr so ea dn cd nx nd nc al wo wh) := by exact hD
    exact W.zret (v := nI 1) hx hb hr rfl (fun t ht hW => ⟨⟨_, (), rfl, rfl, by rw [ht]; exact hP9, hD9⟩, hS.F ht⟩) hS.2.2 dM_ungram_34
  · exact absurd c_2 (by rw [hyes]; decide)

set_option maxHeartbeats 4000000 in
set_option maxRecDepth 100000 in
theorem c_M_gram_b3 (l : Launch) (dC : Nat → ClassId) (dI : Nat → Nat → Nat) (cI cZ cL : ClassId) (q : Nat → Nat) (kn : Nat → Bool) (co : Nat → Int32) (bo : Nat → Int32) (mn : Nat) (wd : Nat → Nat) (zs : Nat → Nat) (fp : Nat → Int32) (ho : Nat → Int32) (lv : Nat → Int32) (fr : Nat) (so : Nat → Int32) (ea : Nat → Int32) (dn : Nat → Int32) (cd : Nat → Int32) (nx : Nat → Int32) (nd : Nat → Int32) (nc : Nat → Int32) (al : Int32) (wo : Int32) (wh : Int32) (uu : Nat) (vv : Nat) (ww : Nat) (c0 : Int32) (b0 : Int32) (huu : uu < 5) (hvv : vv < 4) (hww : ww < 5) (hbad : (decide (¬ wt_rng c0 10000 = 0) && decide (¬ wt_rng b0 10000 = 0)) = false) : Met l yM_gram (Cond.code yM_gram cM_gram 7 (some .boolean) :: tb) ({ frames := 2, cells := 0, slots := 0, locals := 43 }) (va_Pc [.ref (q 0), .int (nI uu), .int (nI vv), .int (nI ww), .int c0, .int b0] (wt_ro (dC, dI) vwCl [(cI, .int), (cZ, .boolean), (cL, .long)] (wM cI cZ cL q kn co bo mn wd zs fp ho lv fr so ea dn cd nx nd nc al wo wh))) (vp_Si (fun r => r = (nI 0))) 0 0 (fun _ => False) := by
  refine Met.ofW (cc := cM_gram) (maxL := 7) (ret := (some .boolean)) (by decide) rfl ?_
  intro p e s m args below meth c s₁ B hml hv
  obtain ⟨rfl, hP, hK, hN⟩ := hv
  have hx := B.exec
  have hb := B.bytes
  have hr := B.returns
  have hts := atoms_spec (ws := (Cond.code yM_gram cM_gram 7 (some .boolean) :: tb)) B.pre
  have ht : ∀ w ∈ tb, w.before _ s = true := fun w h => hts w (List.mem_cons_of_mem _ h)
  have hown : s.vm.findClass RM = some m.cls := findClass_of_methodNamed B.named
  have hlocks := B.notSynchronized
  have hl := lv_entry ([.ref (q 0), .int (nI uu), .int (nI vv), .int (nI ww), .int c0, .int b0]) (n := 7) (Nat.le_of_ble_eq_true rfl)
  rw [lg_entry_eq]
  generalize (lg_sl ([.ref (q 0), .int (nI uu), .int (nI vv), .int (nI ww), .int c0, .int b0]) ++ List.replicate (7 - (lg_sl ([.ref (q 0), .int (nI uu), .int (nI vv), .int (nI ww), .int c0, .int b0])).length) Slot.unset).toArray = ls at hl ⊢
  have hl : lv_has ls 7 [(0, .ref (q 0)), (1, .int (nI uu)), (2, .int (nI vv)), (3, .int (nI ww)), (4, .int c0), (5, .int b0)] := hl
  refine lv_iload_n hx hb dM_gram_0 rfl (lv_at hl 1 rfl) ?_
  refine lv_iload_n hx hb dM_gram_1 rfl (lv_at hl 2 rfl) ?_
  refine lv_iload_n hx hb dM_gram_2 rfl (lv_at hl 3 rfl) ?_
  refine wt_roi (va_runS (As := [.int (nI uu), .int (nI vv), .int (nI ww)]) (rest := []) ⟨hx, hb, hml, hown, ht⟩ (c_M_slot_3 l dC dI cI cZ cL uu vv ww huu hvv hww) (va_cwS 3 ht (good_S m_479 m_480 m_7 m_481) rfl rfl rfl (by decide +kernel) ⟨Nat.le_of_ble_eq_true rfl, Nat.le_of_ble_eq_true rfl⟩) (wt_preS hK hN (hP.sub [] rfl)) rfl rfl hl.1 rfl (lv_room (Nat.le_of_ble_eq_true rfl)) dM_gram_3 ⟨Nat.le_of_ble_eq_true rfl, Nat.le_of_ble_eq_true rfl⟩) ?_
  refine lv_istore (lv' := [(6, .int (nI (30 + 25 * uu + 5 * vv + ww))), (0, .ref (q 0)), (1, .int (nI uu)), (2, .int (nI vv)), (3, .int (nI ww)), (4, .int c0), (5, .int b0)]) hx hb dM_gram_6 hl (by decide) rfl (fun ls hl => ?_)
  refine lv_iload hx hb dM_gram_8 (lv_at hl 0 rfl) ?_
  refine wt_if_lt (tgt := 35) hx hb dM_gram_10 (by decide) (by omega) ?_
  refine lv_iload hx hb dM_gram_13 (lv_at hl 5 rfl) ?_
  refine lv_sipush (v := nI 9999) hx hb dM_gram_15 (by decide) ?_
  refine wt_roi (va_runS (As := [.int c0, .int (nI 9999)]) (rest := []) ⟨hx, hb, hml, hown, ht⟩ (c_M_up_9999 l dC dI cI cZ cL c0) (va_cwS 2 ht (good_S m_471 m_472 m_7 m_473) rfl rfl rfl (by decide +kernel) ⟨Nat.le_of_ble_eq_true rfl, Nat.le_of_ble_eq_true rfl⟩) (wt_preS hK hN (hP.sub [] rfl)) rfl rfl hl.1 rfl (lv_room (Nat.le_of_ble_eq_true rfl)) dM_gram_18 ⟨Nat.le_of_ble_eq_true rfl, Nat.le_of_ble_eq_true rfl⟩) ?_
  refine lv_if_eq (tgt := 35) hx hb dM_gram_21 (by decide) (fun c_2 => ?_) (fun c_2 => ?_)
  · skip
    refine lv_iconst (v := nI 0) hx hb dM_gram_35 (by decide) ?_
    exact W.zret (v := nI 0) hx hb hr rfl (fun t ht hW => ⟨_, rfl, rfl, ht⟩) (fun q h => by cases h) dM_gram_36
  · skip
    refine lv_iload hx hb dM_gram_24 (lv_at hl 6 rfl) ?_
    refine lv_sipush (v := nI 9999) hx hb dM_gram_26 (by decide) ?_
    refine wt_roi (va_runS (As := [.int b0, .int (nI 9999)]) (rest := []) ⟨hx, hb, hml, hown, ht⟩ (c_M_up_9999 l dC dI cI cZ cL b0) (va_cwS 2 ht (good_S m_471 m_472 m_7 m_473) rfl rfl rfl (by decide +kernel) ⟨Nat.le_of_ble_eq_true rfl, Nat.le_of_ble_eq_true rfl⟩) (wt_preS hK hN (hP.sub [] rfl)) rfl rfl hl.1 rfl (lv_room (Nat.le_of_ble_eq_true rfl)) dM_gram_29 ⟨Nat.le_of_ble_eq_true rfl, Nat.le_of_ble_eq_true rfl⟩) ?_
    refine lv_if_ne (tgt := 37) hx hb dM_gram_32 (by decide) (fun c_3 => ?_) (fun c_3 => ?_)
    · exact absurd hbad (by simp [c_2, c_3])
    · skip
      refine lv_iconst (v := nI 0) hx hb dM_gram_35 (by decide) ?_
      exact W.zret (v := nI 0) hx hb hr rfl (fun t ht hW => ⟨_, rfl, rfl, ht⟩) (fun q h => by cases h) dM_gram_36

set_option maxHeartbeats 4000000 in
set_option maxRecDepth 100000 in
theorem c_M_gram_a3 (l : Launch) (dC : Nat → ClassId) (dI : Nat → Nat → Nat) (cI cZ cL : ClassId) (q : Nat → Nat) (sz0 : Nat) (kn : Nat → Bool) (co : Nat → Int32) (bo : Nat → Int32) (mn : Nat) (wd : Nat → Nat) (zs : Nat → Nat) (fp : Nat → Int32) (ho : Nat → Int32) (lv : Nat → Int32) (fr : Nat) (so : Nat → Int32) (ea : Nat → Int32) (dn : Nat → Int32) (cd : Nat → Int32) (nx : Nat → Int32) (nd : Nat → Int32) (nc : Nat → Int32) (al : Int32) (wo : Int32) (wh : Int32) (uu : Nat) (vv : Nat) (ww : Nat) (c0 : Int32) (b0 : Int32) (huu : uu < 5) (hvv : vv < 4) (hww : ww < 5) (hc0 : ¬ wt_rng c0 10000 = 0) (hb0 : ¬ wt_rng b0 10000 = 0) : Met l yM_gram (Cond.code yM_gram cM_gram 7 (some .boolean) :: tb) ({ frames := 2, cells := 0, slots := 0, locals := 43 }) (va_Pc [.ref (q 0), .int (nI uu), .int (nI vv), .int (nI ww), .int c0, .int b0] (wt_rw (dC, dI) vwCl [(cI, .int), (cZ, .boolean), (cL, .long)] (wM cI cZ cL q kn co bo mn wd zs fp ho lv fr so ea dn cd nx nd nc al wo wh) sz0)) (va_Qi (fun r (_ : Unit) => r = (nI 1)) (wt_B (dC, dI) vwCl (va_A (wM cI cZ cL q kn co bo mn wd zs fp ho lv fr so ea dn cd nx nd nc al wo wh) sz0) (wM cI cZ cL q (va_up kn (30 + 25 * uu + 5 * vv + ww) true) (upd co (30 + 25 * uu + 5 * vv + ww) c0) (upd bo (30 + 25 * uu + 5 * vv + ww) b0) mn wd zs fp ho lv fr so ea dn cd nx nd nc al wo wh)) (va_A (wM cI cZ cL q kn co bo mn wd zs fp ho lv fr so ea dn cd nx nd nc al wo wh) sz0)) 0 0 (va_A (wM cI cZ cL q kn co bo mn wd zs fp ho lv fr so ea dn cd nx nd nc al wo wh) sz0) := by
  refine Met.ofW (cc := cM_gram) (maxL := 7) (ret := (some .boolean)) (by decide) rfl ?_
  intro p e s m args below meth c s₁ B hml hv
  obtain ⟨rfl, hsz, hP, hK, hN, hD0⟩ := hv
  have hx := B.exec
  have hb := B.bytes
  have hr := B.returns
  have hts := atoms_spec (ws := (Cond.code yM_gram cM_gram 7 (some .boolean) :: tb)) B.pre
  have ht : ∀ w ∈ tb, w.before _ s = true := fun w h => hts w (List.mem_cons_of_mem _ h)
  have hown : s.vm.findClass RM = some m.cls := findClass_of_methodNamed B.named
  have hlocks := B.notSynchronized
  subst hsz
  have hD := hD0.self (sz := s.heap.size)
  generalize hAe : va_A (wM cI cZ cL q kn co bo mn wd zs fp ho lv fr so ea dn cd nx nd nc al wo wh) s.heap.size = A at hD ⊢
  have hA : ∀ q : Nat, s.heap.size ≤ q → A q := fun q h => by rw [← hAe]; exact Or.inr h
  clear hAe hD0
  have hS : va_S A s.heap s.heap [] := va_S.rf
  have hl := lv_entry ([.ref (q 0), .int (nI uu), .int (nI vv), .int (nI ww), .int c0, .int b0]) (n := 7) (Nat.le_of_ble_eq_true rfl)
  rw [lg_entry_eq]
  generalize (lg_sl ([.ref (q 0), .int (nI uu), .int (nI vv), .int (nI ww), .int c0, .int b0]) ++ List.replicate (7 - (lg_sl ([.ref (q 0), .int (nI uu), .int (nI vv), .int (nI ww), .int c0, .int b0])).length) Slot.unset).toArray = ls at hl ⊢
  have hl : lv_has ls 7 [(0, .ref (q 0)), (1, .int (nI uu)), (2, .int (nI vv)), (3, .int (nI ww)), (4, .int c0), (5, .int b0)] := hl
  refine lv_iload_n hx hb dM_gram_0 rfl (lv_at hl 1 rfl) ?_
  refine lv_iload_n hx hb dM_gram_1 rfl (lv_at hl 2 rfl) ?_
  refine lv_iload_n hx hb dM_gram_2 rfl (lv_at hl 3 rfl) ?_
  refine wt_roi (va_runS (As := [.int (nI uu), .int (nI vv), .int (nI ww)]) (rest := []) ⟨hx, hb, hml, hown, ht⟩ (c_M_slot_3 l dC dI cI cZ cL uu vv ww huu hvv hww) (va_cwS 3 ht (good_S m_479 m_480 m_7 m_481) rfl rfl rfl (by decide +kernel) ⟨Nat.le_of_ble_eq_true rfl, Nat.le_of_ble_eq_true rfl⟩) (wt_preS hK hN (hP.sub [] rfl)) rfl rfl hl.1 rfl (lv_room (Nat.le_of_ble_eq_true rfl)) dM_gram_3 ⟨Nat.le_of_ble_eq_true rfl, Nat.le_of_ble_eq_true rfl⟩) ?_
  refine lv_istore (lv' := [(6, .int (nI (30 + 25 * uu + 5 * vv + ww))), (0, .ref (q 0)), (1, .int (nI uu)), (2, .int (nI vv)), (3, .int (nI ww)), (4, .int c0), (5, .int b0)]) hx hb dM_gram_6 hl (by decide) rfl (fun ls hl => ?_)
  refine lv_iload hx hb dM_gram_8 (lv_at hl 0 rfl) ?_
  refine wt_if_lt (tgt := 35) hx hb dM_gram_10 (by decide) (by omega) ?_
  refine lv_iload hx hb dM_gram_13 (lv_at hl 5 rfl) ?_
  refine lv_sipush (v := nI 9999) hx hb dM_gram_15 (by decide) ?_
  refine wt_roi (va_runS (As := [.int c0, .int (nI 9999)]) (rest := []) ⟨hx, hb, hml, hown, ht⟩ (c_M_up_9999 l dC dI cI cZ cL c0) (va_cwS 2 ht (good_S m_471 m_472 m_7 m_473) rfl rfl rfl (by decide +kernel) ⟨Nat.le_of_ble_eq_true rfl, Nat.le_of_ble_eq_true rfl⟩) (wt_preS hK hN (hP.sub [] rfl)) rfl rfl hl.1 rfl (lv_room (Nat.le_of_ble_eq_true rfl)) dM_gram_18 ⟨Nat.le_of_ble_eq_true rfl, Nat.le_of_ble_eq_true rfl⟩) ?_
  refine lv_if_eq (tgt := 35) hx hb dM_gram_21 (by decide) (fun c_2 => ?_) (fun c_2 => ?_)
  · exact absurd c_2 hc0
  · skip
    refine lv_iload hx hb dM_gram_24 (lv_at hl 6 rfl) ?_
    refine lv_sipush (v := nI 9999) hx hb dM_gram_26 (by decide) ?_
    refine wt_roi (va_runS (As := [.int b0, .int (nI 9999)]) (rest := []) ⟨hx, hb, hml, hown, ht⟩ (c_M_up_9999 l dC dI cI cZ cL b0) (va_cwS 2 ht (good_S m_471 m_472 m_7 m_473) rfl rfl rfl (by decide +kernel) ⟨Nat.le_of_ble_eq_true rfl, Nat.le_of_ble_eq_true rfl⟩) (wt_preS hK hN (hP.sub [] rfl)) rfl rfl hl.1 rfl (lv_room (Nat.le_of_ble_eq_true rfl)) dM_gram_29 ⟨Nat.le_of_ble_eq_true rfl, Nat.le_of_ble_eq_true rfl⟩) ?_
    refine lv_if_ne (tgt := 37) hx hb dM_gram_32 (by decide) (fun c_3 => ?_) (fun c_3 => ?_)
    · skip
      refine lv_aload_n hx hb dM_gram_37 rfl (lv_at hl 1 rfl) ?_
      refine va_get (D := (dC, dI)) (ci := 5) (v := .ref (q 1)) (C := RM) (T := TM) (N := 20) hx hb ht inM hown hK hP 0 rfl rfl 0 (by decide) (ht _ m_394) (fun _ h9 => h9) rfl dM_gram_38 ?_
      refine lv_iload hx hb dM_gram_41 (lv_at hl 0 rfl) ?_
      refine lv_iconst (v := nI 1) hx hb dM_gram_43 (by decide) ?_
      rw [show (.int (nI 1) : Value) = .int (wt_bI true) from rfl]
      refine wt_zast hx hb hK hP hD hS 1 1 rfl rfl (k := 30 + 25 * uu + 5 * vv + ww) (by omega) (by decide) dM_gram_44 (fun H locs hP hD hS => ?_)
      have hP : va_P (dC, dI) vwCl (wM cI cZ cL q (va_up kn (30 + 25 * uu + 5 * vv + ww) true) co bo mn wd zs fp ho lv fr so ea dn cd nx nd nc al wo wh) H := hP
      have hD : va_D A (wM cI cZ cL q (va_up kn (30 + 25 * uu + 5 * vv + ww) true) co bo mn wd zs fp ho lv fr so ea dn cd nx nd nc al wo wh) := hD
      refine lv_aload_n hx hb dM_gram_45 rfl (lv_at hl 1 rfl) ?_
      refine va_get (D := (dC, dI)) (ci := 5) (v := .ref (q 2)) (C := RM) (T := TM) (N := 20) hx hb ht inM hown hK hP 0 rfl rfl 1 (by decide) (ht _ m_395) (fun _ h9 => h9) rfl dM_gram_46 ?_
      refine lv_iload hx hb dM_gram_49 (lv_at hl 0 rfl) ?_
      refine lv_iload hx hb dM_gram_51 (lv_at hl 5 rfl) ?_
      refine wt_iast hx hb hK hP hD hS 2 0 rfl rfl (k := 30 + 25 * uu + 5 * vv + ww) (by omega) (by decide) dM_gram_53 (fun H locs hP hD hS => ?_)
      have hP : va_P (dC, dI) vwCl (wM cI cZ cL q (va_up kn (30 + 25 * uu + 5 * vv + ww) true) (upd co (30 + 25 * uu + 5 * vv + ww) c0) bo mn wd zs fp ho lv fr so ea dn cd nx nd nc al wo wh) H := hP
      have hD : va_D A (wM cI cZ cL q (va_up kn (30 + 25 * uu + 5 * vv + ww) true) (upd co (30 + 25 * uu + 5 * vv + ww) c0) bo mn wd zs fp ho lv fr so ea dn cd nx nd nc al wo wh) := hD
      refine lv_aload_n hx hb dM_gram_54 rfl (lv_at hl 1 rfl) ?_
      refine va_get (D := (dC, dI)) (ci := 5) (v := .ref (q 3)) (C := RM) (T := TM) (N := 20) hx hb ht inM hown hK hP 0 rfl rfl 2 (by decide) (ht _ m_396) (fun _ h9 => h9) rfl dM_gram_55 ?_
      refine lv_iload hx hb dM_gram_58 (lv_at hl 0 rfl) ?_
      refine lv_iload hx hb dM_gram_60 (lv_at hl 6 rfl) ?_
      refine wt_iast hx hb hK hP hD hS 3 0 rfl rfl (k := 30 + 25 * uu + 5 * vv + ww) (by omega) (by decide) dM_gram_62 (fun H locs hP hD hS => ?_)
      have hP : va_P (dC, dI) vwCl (wM cI cZ cL q (va_up kn (30 + 25 * uu + 5 * vv + ww) true) (upd co (30 + 25 * uu + 5 * vv + ww) c0) (upd bo (30 + 25 * uu + 5 * vv + ww) b0) mn wd zs fp ho lv fr so ea dn cd nx nd nc al wo wh) H := hP
      have hD : va_D A (wM cI cZ cL q (va_up kn (30 + 25 * uu + 5 * vv + ww) true) (upd co (30 + 25 * uu + 5 * vv + ww) c0) (upd bo (30 + 25 * uu + 5 * vv + ww) b0) mn wd zs fp ho lv fr so ea dn cd nx nd nc al wo wh) := hD
      refine lv_iconst (v := nI 1) hx hb dM_gram_63 (by decide) ?_
      have hP9 : va_P (dC, dI) vwCl (wM cI cZ cL q (va_up kn (30 + 25 * uu + 5 * vv + ww) true) (upd co (30 + 25 * uu + 5 * vv + ww) c0) (upd bo (30 + 25 * uu + 5 * vv + ww) b0) mn wd zs fp ho lv fr so ea dn cd nx nd nc al wo wh) H := by exact hP
      have hD9 : va_D A (wM cI cZ cL q (va_up kn (30 + 25 * uu + 5 * vv + ww) true) (upd co (30 + 25 * uu + 5 * vv + ww) c0) (upd bo (30 + 25 * uu + 5 * vv + ww) b0) mn wd zs fp ho lv fr so ea dn cd nx nd nc al wo wh) := by exact hD
      exact W.zret (v := nI 1) hx hb hr rfl (fun t ht hW => ⟨⟨_, (), rfl, rfl, by rw [ht]; exact hP9, hD9⟩, hS.F ht⟩) hS.2.2 dM_gram_64
    · exact absurd c_3 hb0

set_option maxHeartbeats 4000000 in
set_option maxRecDepth 100000 in
theorem c_M_ungram_n3 (l : Launch) (dC : Nat → ClassId) (dI : Nat → Nat → Nat) (cI cZ cL : ClassId) (q : Nat → Nat) (kn : Nat → Bool) (co : Nat → Int32) (bo : Nat → Int32) (mn : Nat) (wd : Nat → Nat) (zs : Nat → Nat) (fp : Nat → Int32) (ho : Nat → Int32) (lv : Nat → Int32) (fr : Nat) (so : Nat → Int32) (ea : Nat → Int32) (dn : Nat → Int32) (cd : Nat → Int32) (nx : Nat → Int32) (nd : Nat → Int32) (nc : Nat → Int32) (al : Int32) (wo : Int32) (wh : Int32) (uu : Nat) (vv : Nat) (ww : Nat) (huu : uu < 5) (hvv : vv < 4) (hww : ww < 5) (hno : kn (30 + 25 * uu + 5 * vv + ww) = false) : Met l yM_ungram (Cond.code yM_ungram cM_ungram 5 (some .boolean) :: tb) ({ frames := 2, cells := 0, slots := 0, locals := 43 }) (va_Pc [.ref (q 0), .int (nI uu), .int (nI vv), .int (nI ww)] (wt_ro (dC, dI) vwCl [(cI, .int), (cZ, .boolean), (cL, .long)] (wM cI cZ cL q kn co bo mn wd zs fp ho lv fr so ea dn cd nx nd nc al wo wh))) (vp_Si (fun r => r = (nI 0))) 0 0 (fun _ => False) := by
  refine Met.ofW (cc := cM_ungram) (maxL := 5) (ret := (some .boolean)) (by decide) rfl ?_
  intro p e s m args below meth c s₁ B hml hv
  obtain ⟨rfl, hP, hK, hN⟩ := hv
  have hx := B.exec
  have hb := B.bytes
  have hr := B.returns
  have hts := atoms_spec (ws := (Cond.code yM_ungram cM_ungram 5 (some .boolean) :: tb)) B.pre
  have ht : ∀ w ∈ tb, w.before _ s = true := fun w h => hts w (List.mem_cons_of_mem _ h)
  have hown : s.vm.findClass RM = some m.cls := findClass_of_methodNamed B.named
  have hlocks := B.notSynchronized
  have hl := lv_entry ([.ref (q 0), .int (nI uu), .int (nI vv), .int (nI ww)]) (n := 5) (Nat.le_of_ble_eq_true rfl)
  rw [lg_entry_eq]
  generalize (lg_sl ([.ref (q 0), .int (nI uu), .int (nI vv), .int (nI ww)]) ++ List.replicate (5 - (lg_sl ([.ref (q 0), .int (nI uu), .int (nI vv), .int (nI ww)])).length) Slot.unset).toArray = ls at hl ⊢
  have hl : lv_has ls 5 [(0, .ref (q 0)), (1, .int (nI uu)), (2, .int (nI vv)), (3, .int (nI ww))] := hl
  refine lv_iload_n hx hb dM_ungram_0 rfl (lv_at hl 1 rfl) ?_
  refine lv_iload_n hx hb dM_ungram_1 rfl (lv_at hl 2 rfl) ?_
  refine lv_iload_n hx hb dM_ungram_2 rfl (lv_at hl 3 rfl) ?_
  refine wt_roi (va_runS (As := [.int (nI uu), .int (nI vv), .int (nI ww)]) (rest := []) ⟨hx, hb, hml, hown, ht⟩ (c_M_slot_3 l dC dI cI cZ cL uu vv ww huu hvv hww) (va_cwS 3 ht (good_S m_479 m_480 m_7 m_481) rfl rfl rfl (by decide +kernel) ⟨Nat.le_of_ble_eq_true rfl, Nat.le_of_ble_eq_true rfl⟩) (wt_preS hK hN (hP.sub [] rfl)) rfl rfl hl.1 rfl (lv_room (Nat.le_of_ble_eq_true rfl)) dM_ungram_3 ⟨Nat.le_of_ble_eq_true rfl, Nat.le_of_ble_eq_true rfl⟩) ?_
  refine lv_istore (lv' := [(4, .int (nI (30 + 25 * uu + 5 * vv + ww))), (0, .ref (q 0)), (1, .int (nI uu)), (2, .int (nI vv)), (3, .int (nI ww))]) hx hb dM_ungram_6 hl (by decide) rfl (fun ls hl => ?_)
  refine lv_iload hx hb dM_ungram_8 (lv_at hl 0 rfl) ?_
  refine wt_if_lt (tgt := 23) hx hb dM_ungram_10 (by decide) (by omega) ?_
  refine lv_aload_n hx hb dM_ungram_13 rfl (lv_at hl 1 rfl) ?_
  refine va_get (D := (dC, dI)) (ci := 5) (v := .ref (q 1)) (C := RM) (T := TM) (N := 20) hx hb ht inM hown hK hP 0 rfl rfl 0 (by decide) (ht _ m_394) (fun _ h9 => h9) rfl dM_ungram_14 ?_
  refine lv_iload hx hb dM_ungram_17 (lv_at hl 0 rfl) ?_
  refine wt_zald hx hb hK hP 1 1 rfl rfl (k := 30 + 25 * uu + 5 * vv + ww) (by omega) (by decide) dM_ungram_19 ?_
  refine wt_bif_ne (tgt := 25) hx hb dM_ungram_20 (by decide) (fun c_2 => ?_) (fun c_2 => ?_)
  · exact absurd c_2 (by rw [hno]; decide)
  · skip
    refine lv_iconst (v := nI 0) hx hb dM_ungram_23 (by decide) ?_
    exact W.zret (v := nI 0) hx hb hr rfl (fun t ht hW => ⟨_, rfl, rfl, ht⟩) (fun q h => by cases h) dM_ungram_24

set_option maxHeartbeats 4000000 in
set_option maxRecDepth 100000 in
theorem c_M_ungram_a3 (l : Launch) (dC : Nat → ClassId) (dI : Nat → Nat → Nat) (cI cZ cL : ClassId) (q : Nat → Nat) (sz0 : Nat) (kn : Nat → Bool) (co : Nat → Int32) (bo : Nat → Int32) (mn : Nat) (wd : Nat → Nat) (zs : Nat → Nat) (fp : Nat → Int32) (ho : Nat → Int32) (lv : Nat → Int32) (fr : Nat) (so : Nat → Int32) (ea : Nat → Int32) (dn : Nat → Int32) (cd : Nat → Int32) (nx : Nat → Int32) (nd : Nat → Int32) (nc : Nat → Int32) (al : Int32) (wo : Int32) (wh : Int32) (uu : Nat) (vv : Nat) (ww : Nat) (huu : uu < 5) (hvv : vv < 4) (hww : ww < 5) (hyes : kn (30 + 25 * uu + 5 * vv + ww) = true) : Met l yM_ungram (Cond.code yM_ungram cM_ungram 5 (some .boolean) :: tb) ({ frames := 2, cells := 0, slots := 0, locals := 43 }) (va_Pc [.ref (q 0), .int (nI uu), .int (nI vv), .int (nI ww)] (wt_rw (dC, dI) vwCl [(cI, .int), (cZ, .boolean), (cL, .long)] (wM cI cZ cL q kn co bo mn wd zs fp ho lv fr so ea dn cd nx nd nc al wo wh) sz0)) (va_Qi (fun r (_ : Unit) => r = (nI 1)) (wt_B (dC, dI) vwCl (va_A (wM cI cZ cL q kn co bo mn wd zs fp ho lv fr so ea dn cd nx nd nc al wo wh) sz0) (wM cI cZ cL q (va_up kn (30 + 25 * uu + 5 * vv + ww) false) co bo mn wd zs fp ho lv fr so ea dn cd nx nd nc al wo wh)) (va_A (wM cI cZ cL q kn co bo mn wd zs fp ho lv fr so ea dn cd nx nd nc al wo wh) sz0)) 0 0 (va_A (wM cI cZ cL q kn co bo mn wd zs fp ho lv fr so ea dn cd nx nd nc al wo wh) sz0) := by
  refine Met.ofW (cc := cM_ungram) (maxL := 5) (ret := (some .boolean)) (by decide) rfl ?_
  intro p e s m args below meth c s₁ B hml hv
  obtain ⟨rfl, hsz, hP, hK, hN, hD0⟩ := hv
  have hx := B.exec
  have hb := B.bytes
  have hr := B.returns
  have hts := atoms_spec (ws := (Cond.code yM_ungram cM_ungram 5 (some .boolean) :: tb)) B.pre
  have ht : ∀ w ∈ tb, w.before _ s = true := fun w h => hts w (List.mem_cons_of_mem _ h)
  have hown : s.vm.findClass RM = some m.cls := findClass_of_methodNamed B.named
  have hlocks := B.notSynchronized
  subst hsz
  have hD := hD0.self (sz := s.heap.size)
  generalize hAe : va_A (wM cI cZ cL q kn co bo mn wd zs fp ho lv fr so ea dn cd nx nd nc al wo wh) s.heap.size = A at hD ⊢
  have hA : ∀ q : Nat, s.heap.size ≤ q → A q := fun q h => by rw [← hAe]; exact Or.inr h
  clear hAe hD0
  have hS : va_S A s.heap s.heap [] := va_S.rf
  have hl := lv_entry ([.ref (q 0), .int (nI uu), .int (nI vv), .int (nI ww)]) (n := 5) (Nat.le_of_ble_eq_true rfl)
  rw [lg_entry_eq]
  generalize (lg_sl ([.ref (q 0), .int (nI uu), .int (nI vv), .int (nI ww)]) ++ List.replicate (5 - (lg_sl ([.ref (q 0), .int (nI uu), .int (nI vv), .int (nI ww)])).length) Slot.unset).toArray = ls at hl ⊢
  have hl : lv_has ls 5 [(0, .ref (q 0)), (1, .int (nI uu)), (2, .int (nI vv)), (3, .int (nI ww))] := hl
  refine lv_iload_n hx hb dM_ungram_0 rfl (lv_at hl 1 rfl) ?_
  refine lv_iload_n hx hb dM_ungram_1 rfl (lv_at hl 2 rfl) ?_
  refine lv_iload_n hx hb dM_ungram_2 rfl (lv_at hl 3 rfl) ?_
  refine wt_roi (va_runS (As := [.int (nI uu), .int (nI vv), .int (nI ww)]) (rest := []) ⟨hx, hb, hml, hown, ht⟩ (c_M_slot_3 l dC dI cI cZ cL uu vv ww huu hvv hww) (va_cwS 3 ht (good_S m_479 m_480 m_7 m_481) rfl rfl rfl (by decide +kernel) ⟨Nat.le_of_ble_eq_true rfl, Nat.le_of_ble_eq_true rfl⟩) (wt_preS hK hN (hP.sub [] rfl)) rfl rfl hl.1 rfl (lv_room (Nat.le_of_ble_eq_true rfl)) dM_ungram_3 ⟨Nat.le_of_ble_eq_true rfl, Nat.le_of_ble_eq_true rfl⟩) ?_
  refine lv_istore (lv' := [(4, .int (nI (30 + 25 * uu + 5 * vv + ww))), (0, .ref (q 0)), (1, .int (nI uu)), (2, .int (nI vv)), (3, .int (nI ww))]) hx hb dM_ungram_6 hl (by decide) rfl (fun ls hl => ?_)
  refine lv_iload hx hb dM_ungram_8 (lv_at hl 0 rfl) ?_
  refine wt_if_lt (tgt := 23) hx hb dM_ungram_10 (by decide) (by omega) ?_
  refine lv_aload_n hx hb dM_ungram_13 rfl (lv_at hl 1 rfl) ?_
  refine va_get (D := (dC, dI)) (ci := 5) (v := .ref (q 1)) (C := RM) (T := TM) (N := 20) hx hb ht inM hown hK hP 0 rfl rfl 0 (by decide) (ht _ m_394) (fun _ h9 => h9) rfl dM_ungram_14 ?_
  refine lv_iload hx hb dM_ungram_17 (lv_at hl 0 rfl) ?_
  refine wt_zald hx hb hK hP 1 1 rfl rfl (k := 30 + 25 * uu + 5 * vv + ww) (by omega) (by decide) dM_ungram_19 ?_
  refine wt_bif_ne (tgt := 25) hx hb dM_ungram_20 (by decide) (fun c_2 => ?_) (fun c_2 => ?_)
  · skip
    refine lv_aload_n hx hb dM_ungram_25 rfl (lv_at hl 1 rfl) ?_
    refine va_get (D := (dC, dI)) (ci := 5) (v := .ref (q 1)) (C := RM) (T := TM) (N := 20) hx hb ht inM hown hK hP 0 rfl rfl 0 (by decide) (ht _ m_394) (fun _ h9 => h9) rfl dM_ungram_26 ?_
    refine lv_iload hx hb dM_ungram_29 (lv_at hl 0 rfl) ?_
    refine lv_iconst (v := nI 0) hx hb dM_ungram_31 (by decide) ?_
    rw [show (.int (nI 0) : Value) = .int (wt_bI false) from rfl]
    refine wt_zast hx hb hK hP hD hS 1 1 rfl rfl (k := 30 + 25 * uu + 5 * vv + ww) (by omega) (by decide) dM_ungram_32 (fun H locs hP hD hS => ?_)
    have hP : va_P (dC, dI) vwCl (wM cI cZ cL q (va_up kn (30 + 25 * uu + 5 * vv + ww) false) co bo mn wd zs fp ho lv fr so ea dn cd nx nd nc al wo wh) H := hP
    have hD : va_D A (wM cI cZ cL q (va_up kn (30 + 25 * uu + 5 * vv + ww) false) co bo mn wd zs fp ho lv fr so ea dn cd nx nd nc al wo wh) := hD
    refine lv_iconst (v := nI 1) hx hb dM_ungram_33 (by decide) ?_
    have hP9 : va_P (dC, dI) vwCl (wM cI cZ cL q (va_up kn (30 + 25 * uu + 5 * vv + ww) false) co bo mn wd zs fp ho lv fr so ea dn cd nx nd nc al wo wh) H := by exact hP
    have hD9 : va_D A (wM cI cZ cL q (va_up kn (30 + 25 * uu + 5 * vv + ww) false) co bo mn wd zs fp ho lv fr so ea dn cd nx nd nc al wo wh) := by exact hD
    exact W.zret (v := nI 1) hx hb hr rfl (fun t ht hW => ⟨⟨_, (), rfl, rfl, by rw [ht]; exact hP9, hD9⟩, hS.F ht⟩) hS.2.2 dM_ungram_34
  · exact absurd c_2 (by rw [hyes]; decide)

set_option maxHeartbeats 4000000 in
set_option maxRecDepth 100000 in
theorem c_M_back (l : Launch) (dC : Nat → ClassId) (dI : Nat → Nat → Nat) (cI cZ cL : ClassId) (q : Nat → Nat) (kn : Nat → Bool) (co : Nat → Int32) (bo : Nat → Int32) (mn : Nat) (wd : Nat → Nat) (zs : Nat → Nat) (fp : Nat → Int32) (ho : Nat → Int32) (lv : Nat → Int32) (fr : Nat) (so : Nat → Int32) (ea : Nat → Int32) (dn : Nat → Int32) (cd : Nat → Int32) (nx : Nat → Int32) (nd : Nat → Int32) (nc : Nat → Int32) (al : Int32) (wo : Int32) (wh : Int32) (kk : Nat) (hkk : kk < 155) : Met l yM_back (Cond.code yM_back cM_back 2 (some .int) :: tb) ({ frames := 0, cells := 0, slots := 0, locals := 0 }) (va_Pc [.ref (q 0), .int (nI kk)] (wt_ro (dC, dI) vwCl [(cI, .int), (cZ, .boolean), (cL, .long)] (wM cI cZ cL q kn co bo mn wd zs fp ho lv fr so ea dn cd nx nd nc al wo wh))) (vp_Si (fun r => r = (wt_bk kn bo kk))) 0 0 (fun _ => False) := by
  refine Met.ofW (cc := cM_back) (maxL := 2) (ret := (some .int)) (by decide) rfl ?_
  intro p e s m args below meth c s₁ B hml hv
  obtain ⟨rfl, hP, hK, hN⟩ := hv
  have hx := B.exec
  have hb := B.bytes
  have hr := B.returns
  have hts := atoms_spec (ws := (Cond.code yM_back cM_back 2 (some .int) :: tb)) B.pre
  have ht : ∀ w ∈ tb, w.before _ s = true := fun w h => hts w (List.mem_cons_of_mem _ h)
  have hown : s.vm.findClass RM = some m.cls := findClass_of_methodNamed B.named
  have hlocks := B.notSynchronized
  have hl := lv_entry ([.ref (q 0), .int (nI kk)]) (n := 2) (Nat.le_of_ble_eq_true rfl)
  rw [lg_entry_eq]
  generalize (lg_sl ([.ref (q 0), .int (nI kk)]) ++ List.replicate (2 - (lg_sl ([.ref (q 0), .int (nI kk)])).length) Slot.unset).toArray = ls at hl ⊢
  have hl : lv_has ls 2 [(0, .ref (q 0)), (1, .int (nI kk))] := hl
  refine lv_aload_n hx hb dM_back_0 rfl (lv_at hl 0 rfl) ?_
  refine va_get (D := (dC, dI)) (ci := 5) (v := .ref (q 1)) (C := RM) (T := TM) (N := 20) hx hb ht inM hown hK hP 0 rfl rfl 0 (by decide) (ht _ m_394) (fun _ h9 => h9) rfl dM_back_1 ?_
  refine lv_iload_n hx hb dM_back_4 rfl (lv_at hl 1 rfl) ?_
  refine wt_zald hx hb hK hP 1 1 rfl rfl (k := kk) (by omega) (by decide) dM_back_5 ?_
  refine wt_bif_eq (tgt := 18) hx hb dM_back_6 (by decide) (fun c_1 => ?_) (fun c_1 => ?_)
  · skip
    refine lv_iconst (v := nI 0) hx hb dM_back_18 (by decide) ?_
    exact W.iret (v := nI 0) hx hb hr (fun t ht hW => ⟨_, rfl, (by first | exact (if_pos c_1).symm | exact (if_neg (by rw [c_1]; decide)).symm), ht⟩) (fun q h => by cases h) dM_back_19
  · skip
    refine lv_aload_n hx hb dM_back_9 rfl (lv_at hl 0 rfl) ?_
    refine va_get (D := (dC, dI)) (ci := 5) (v := .ref (q 3)) (C := RM) (T := TM) (N := 20) hx hb ht inM hown hK hP 0 rfl rfl 2 (by decide) (ht _ m_396) (fun _ h9 => h9) rfl dM_back_10 ?_
    refine lv_iload_n hx hb dM_back_13 rfl (lv_at hl 1 rfl) ?_
    refine wt_iald hx hb hK hP 3 0 rfl rfl (k := kk) (by omega) (by decide) dM_back_14 ?_
    refine lv_goto (tgt := 19) hx hb dM_back_15 (by decide) ?_
    exact W.iret (v := bo kk) hx hb hr (fun t ht hW => ⟨_, rfl, (by first | exact (if_pos c_1).symm | exact (if_neg (by rw [c_1]; decide)).symm), ht⟩) (fun q h => by cases h) dM_back_19

set_option maxHeartbeats 4000000 in
set_option maxRecDepth 100000 in
theorem c_M_afterOne (l : Launch) (dC : Nat → ClassId) (dI : Nat → Nat → Nat) (cI cZ cL : ClassId) (q : Nat → Nat) (kn : Nat → Bool) (co : Nat → Int32) (bo : Nat → Int32) (mn : Nat) (wd : Nat → Nat) (zs : Nat → Nat) (fp : Nat → Int32) (ho : Nat → Int32) (lv : Nat → Int32) (fr : Nat) (so : Nat → Int32) (ea : Nat → Int32) (dn : Nat → Int32) (cd : Nat → Int32) (nx : Nat → Int32) (nd : Nat → Int32) (nc : Nat → Int32) (al : Int32) (wo : Int32) (wh : Int32) (vv : Nat) (ww : Nat) (hvv : vv < 5) (hww : ww < 5) : Met l yM_afterOne (Cond.code yM_afterOne cM_afterOne 4 (some .int) :: tb) ({ frames := 1, cells := 0, slots := 0, locals := 21 }) (va_Pc [.ref (q 0), .int (nI vv), .int (nI ww)] (wt_ro (dC, dI) vwCl [(cI, .int), (cZ, .boolean), (cL, .long)] (wM cI cZ cL q kn co bo mn wd zs fp ho lv fr so ea dn cd nx nd nc al wo wh))) (vp_Si (fun r => r = (wt_af1 kn co bo vv ww))) 0 0 (fun _ => False) := by
  refine Met.ofW (cc := cM_afterOne) (maxL := 4) (ret := (some .int)) (by decide) rfl ?_
  intro p e s m args below meth c s₁ B hml hv
  obtain ⟨rfl, hP, hK, hN⟩ := hv
  have hx := B.exec
  have hb := B.bytes
  have hr := B.returns
  have hts := atoms_spec (ws := (Cond.code yM_afterOne cM_afterOne 4 (some .int) :: tb)) B.pre
  have ht : ∀ w ∈ tb, w.before _ s = true := fun w h => hts w (List.mem_cons_of_mem _ h)
  have hown : s.vm.findClass RM = some m.cls := findClass_of_methodNamed B.named
  have hlocks := B.notSynchronized
  have hl := lv_entry ([.ref (q 0), .int (nI vv), .int (nI ww)]) (n := 4) (Nat.le_of_ble_eq_true rfl)
  rw [lg_entry_eq]
  generalize (lg_sl ([.ref (q 0), .int (nI vv), .int (nI ww)]) ++ List.replicate (4 - (lg_sl ([.ref (q 0), .int (nI vv), .int (nI ww)])).length) Slot.unset).toArray = ls at hl ⊢
  have hl : lv_has ls 4 [(0, .ref (q 0)), (1, .int (nI vv)), (2, .int (nI ww))] := hl
  refine lv_iconst (v := nI 5) hx hb dM_afterOne_0 (by decide) ?_
  refine lv_iconst (v := nI 5) hx hb dM_afterOne_1 (by decide) ?_
  refine lv_iload_n hx hb dM_afterOne_2 rfl (lv_at hl 1 rfl) ?_
  refine wt_imul hx hb dM_afterOne_3 ?_
  refine wt_iadd hx hb dM_afterOne_4 ?_
  refine lv_iload_n hx hb dM_afterOne_5 rfl (lv_at hl 2 rfl) ?_
  refine wt_iadd hx hb dM_afterOne_6 ?_
  refine lv_istore_n (lv' := [(3, .int (nI (5 + 5 * vv + ww))), (0, .ref (q 0)), (1, .int (nI vv)), (2, .int (nI ww))]) hx hb dM_afterOne_7 rfl hl (by decide) rfl (fun ls hl => ?_)
  refine lv_aload_n hx hb dM_afterOne_8 rfl (lv_at hl 1 rfl) ?_
  refine va_get (D := (dC, dI)) (ci := 5) (v := .ref (q 1)) (C := RM) (T := TM) (N := 20) hx hb ht inM hown hK hP 0 rfl rfl 0 (by decide) (ht _ m_394) (fun _ h9 => h9) rfl dM_afterOne_9 ?_
  refine lv_iload_n hx hb dM_afterOne_12 rfl (lv_at hl 0 rfl) ?_
  refine wt_zald hx hb hK hP 1 1 rfl rfl (k := 5 + 5 * vv + ww) (by omega) (by decide) dM_afterOne_13 ?_
  refine wt_bif_eq (tgt := 26) hx hb dM_afterOne_14 (by decide) (fun c_1 => ?_) (fun c_1 => ?_)
  · skip
    refine lv_aload_n hx hb dM_afterOne_26 rfl (lv_at hl 1 rfl) ?_
    refine va_get (D := (dC, dI)) (ci := 5) (v := .ref (q 1)) (C := RM) (T := TM) (N := 20) hx hb ht inM hown hK hP 0 rfl rfl 0 (by decide) (ht _ m_394) (fun _ h9 => h9) rfl dM_afterOne_27 ?_
    refine lv_iload_n hx hb dM_afterOne_30 rfl (lv_at hl 3 rfl) ?_
    refine wt_zald hx hb hK hP 1 1 rfl rfl (k := ww) (by omega) (by decide) dM_afterOne_31 ?_
    refine wt_bif_eq (tgt := 50) hx hb dM_afterOne_32 (by decide) (fun c_2 => ?_) (fun c_2 => ?_)
    · skip
      refine lv_iconst (v := (-1)) hx hb dM_afterOne_50 (by decide) ?_
      exact W.iret (v := (-1)) hx hb hr (fun t ht hW => ⟨_, rfl, (by unfold wt_af1; first | rw [if_neg (by rw [c_1]; decide), if_pos c_2] | rw [if_neg (by rw [c_1]; decide), if_neg (by rw [c_2]; decide)] | rw [if_pos c_1]), ht⟩) (fun q h => by cases h) dM_afterOne_51
    · skip
      refine lv_aload_n hx hb dM_afterOne_35 rfl (lv_at hl 1 rfl) ?_
      refine lv_iload_n hx hb dM_afterOne_36 rfl (lv_at hl 2 rfl) ?_
      refine wt_roi (va_runV (As := [.int (nI vv)]) (rest := []) ⟨hx, hb, hml, hown, ht⟩ (c_M_back l dC dI cI cZ cL q kn co bo mn wd zs fp ho lv fr so ea dn cd nx nd nc al wo wh vv (by omega)) (cwV 1 ht (good_V m_494 m_496 ms_14 m_7 m_497) rfl rfl rfl (by decide +kernel) ⟨Nat.le_of_ble_eq_true rfl, Nat.le_of_ble_eq_true rfl⟩) (wt_preV hK hN hP (va_recv hK hP (ci := 5) (q0 := 0) rfl rfl)) rfl rfl hl.1 rfl (lv_room (Nat.le_of_ble_eq_true rfl)) dM_afterOne_37 ⟨Nat.le_of_ble_eq_true rfl, Nat.le_of_ble_eq_true rfl⟩) ?_
      refine lv_aload_n hx hb dM_afterOne_40 rfl (lv_at hl 1 rfl) ?_
      refine va_get (D := (dC, dI)) (ci := 5) (v := .ref (q 2)) (C := RM) (T := TM) (N := 20) hx hb ht inM hown hK hP 0 rfl rfl 1 (by decide) (ht _ m_395) (fun _ h9 => h9) rfl dM_afterOne_41 ?_
      refine lv_iload_n hx hb dM_afterOne_44 rfl (lv_at hl 3 rfl) ?_
      refine wt_iald hx hb hK hP 2 0 rfl rfl (k := ww) (by omega) (by decide) dM_afterOne_45 ?_
      refine lv_iadd hx hb dM_afterOne_46 ?_
      refine lv_goto (tgt := 51) hx hb dM_afterOne_47 (by decide) ?_
      exact W.iret (v := wt_bk kn bo vv + co ww) hx hb hr (fun t ht hW => ⟨_, rfl, (by unfold wt_af1; first | rw [if_neg (by rw [c_1]; decide), if_pos c_2] | rw [if_neg (by rw [c_1]; decide), if_neg (by rw [c_2]; decide)] | rw [if_pos c_1]), ht⟩) (fun q h => by cases h) dM_afterOne_51
  · skip
    refine lv_aload_n hx hb dM_afterOne_17 rfl (lv_at hl 1 rfl) ?_
    refine va_get (D := (dC, dI)) (ci := 5) (v := .ref (q 2)) (C := RM) (T := TM) (N := 20) hx hb ht inM hown hK hP 0 rfl rfl 1 (by decide) (ht _ m_395) (fun _ h9 => h9) rfl dM_afterOne_18 ?_
    refine lv_iload_n hx hb dM_afterOne_21 rfl (lv_at hl 0 rfl) ?_
    refine wt_iald hx hb hK hP 2 0 rfl rfl (k := 5 + 5 * vv + ww) (by omega) (by decide) dM_afterOne_22 ?_
    refine lv_goto (tgt := 51) hx hb dM_afterOne_23 (by decide) ?_
    exact W.iret (v := co (5 + 5 * vv + ww)) hx hb hr (fun t ht hW => ⟨_, rfl, (by unfold wt_af1; first | rw [if_neg (by rw [c_1]; decide), if_pos trivial] | rw [if_neg (by rw [c_1]; decide), if_neg (by rw [trivial]; decide)] | rw [if_pos c_1]), ht⟩) (fun q h => by cases h) dM_afterOne_51

set_option maxHeartbeats 4000000 in
set_option maxRecDepth 100000 in
theorem c_M_after_0 (l : Launch) (dC : Nat → ClassId) (dI : Nat → Nat → Nat) (cI cZ cL : ClassId) (q : Nat → Nat) (kn : Nat → Bool) (co : Nat → Int32) (bo : Nat → Int32) (mn : Nat) (wd : Nat → Nat) (zs : Nat → Nat) (fp : Nat → Int32) (ho : Nat → Int32) (lv : Nat → Int32) (fr : Nat) (so : Nat → Int32) (ea : Nat → Int32) (dn : Nat → Int32) (cd : Nat → Int32) (nx : Nat → Int32) (nd : Nat → Int32) (nc : Nat → Int32) (al : Int32) (wo : Int32) (wh : Int32) (uu : Int32) (vv : Int32) (ww : Int32) (hbad : wt_okA uu vv ww = false) : Met l yM_after (Cond.code yM_after cM_after 6 (some .int) :: tb) ({ frames := 1, cells := 0, slots := 0, locals := 21 }) (va_Pc [.ref (q 0), .int uu, .int vv, .int ww] (wt_ro (dC, dI) vwCl [(cI, .int), (cZ, .boolean), (cL, .long)] (wM cI cZ cL q kn co bo mn wd zs fp ho lv fr so ea dn cd nx nd nc al wo wh))) (vp_Si (fun r => r = (-1))) 0 0 (fun _ => False) := by
  refine Met.ofW (cc := cM_after) (maxL := 6) (ret := (some .int)) (by decide) rfl ?_
  intro p e s m args below meth c s₁ B hml hv
  obtain ⟨rfl, hP, hK, hN⟩ := hv
  have hx := B.exec
  have hb := B.bytes
  have hr := B.returns
  have hts := atoms_spec (ws := (Cond.code yM_after cM_after 6 (some .int) :: tb)) B.pre
  have ht : ∀ w ∈ tb, w.before _ s = true := fun w h => hts w (List.mem_cons_of_mem _ h)
  have hown : s.vm.findClass RM = some m.cls := findClass_of_methodNamed B.named
  have hlocks := B.notSynchronized
  have hl := lv_entry ([.ref (q 0), .int uu, .int vv, .int ww]) (n := 6) (Nat.le_of_ble_eq_true rfl)
  rw [lg_entry_eq]
  generalize (lg_sl ([.ref (q 0), .int uu, .int vv, .int ww]) ++ List.replicate (6 - (lg_sl ([.ref (q 0), .int uu, .int vv, .int ww])).length) Slot.unset).toArray = ls at hl ⊢
  have hl : lv_has ls 6 [(0, .ref (q 0)), (1, .int uu), (2, .int vv), (3, .int ww)] := hl
  refine lv_iload_n hx hb dM_after_0 rfl (lv_at hl 3 rfl) ?_
  refine lv_iconst (v := nI 4) hx hb dM_after_1 (by decide) ?_
  refine wt_roi (va_runS (As := [.int ww, .int (nI 4)]) (rest := []) ⟨hx, hb, hml, hown, ht⟩ (c_M_up_4 l dC dI cI cZ cL ww) (va_cwS 2 ht (good_S m_471 m_472 m_7 m_473) rfl rfl rfl (by decide +kernel) ⟨Nat.le_of_ble_eq_true rfl, Nat.le_of_ble_eq_true rfl⟩) (wt_preS hK hN (hP.sub [] rfl)) rfl rfl hl.1 rfl (lv_room (Nat.le_of_ble_eq_true rfl)) dM_after_2 ⟨Nat.le_of_ble_eq_true rfl, Nat.le_of_ble_eq_true rfl⟩) ?_
  refine lv_if_eq (tgt := 34) hx hb dM_after_5 (by decide) (fun c_1 => ?_) (fun c_1 => ?_)
  · skip
    refine lv_iconst (v := (-1)) hx hb dM_after_34 (by decide) ?_
    exact W.iret (v := (-1)) hx hb hr (fun t ht hW => ⟨_, rfl, rfl, ht⟩) (fun q h => by cases h) dM_after_35
  · skip
    refine lv_iload_n hx hb dM_after_8 rfl (lv_at hl 2 rfl) ?_
    refine lv_iconst (v := nI 4) hx hb dM_after_9 (by decide) ?_
    refine wt_roi (va_runS (As := [.int vv, .int (nI 4)]) (rest := []) ⟨hx, hb, hml, hown, ht⟩ (c_M_up_4 l dC dI cI cZ cL vv) (va_cwS 2 ht (good_S m_471 m_472 m_7 m_473) rfl rfl rfl (by decide +kernel) ⟨Nat.le_of_ble_eq_true rfl, Nat.le_of_ble_eq_true rfl⟩) (wt_preS hK hN (hP.sub [] rfl)) rfl rfl hl.1 rfl (lv_room (Nat.le_of_ble_eq_true rfl)) dM_after_10 ⟨Nat.le_of_ble_eq_true rfl, Nat.le_of_ble_eq_true rfl⟩) ?_
    refine lv_if_eq (tgt := 34) hx hb dM_after_13 (by decide) (fun c_2 => ?_) (fun c_2 => ?_)
    · skip
      refine lv_iconst (v := (-1)) hx hb dM_after_34 (by decide) ?_
      exact W.iret (v := (-1)) hx hb hr (fun t ht hW => ⟨_, rfl, rfl, ht⟩) (fun q h => by cases h) dM_after_35
    · skip
      refine lv_iload_n hx hb dM_after_16 rfl (lv_at hl 1 rfl) ?_
      refine lv_iconst (v := nI 4) hx hb dM_after_17 (by decide) ?_
      refine wt_roi (va_runS (As := [.int uu, .int (nI 4)]) (rest := []) ⟨hx, hb, hml, hown, ht⟩ (c_M_up_4 l dC dI cI cZ cL uu) (va_cwS 2 ht (good_S m_471 m_472 m_7 m_473) rfl rfl rfl (by decide +kernel) ⟨Nat.le_of_ble_eq_true rfl, Nat.le_of_ble_eq_true rfl⟩) (wt_preS hK hN (hP.sub [] rfl)) rfl rfl hl.1 rfl (lv_room (Nat.le_of_ble_eq_true rfl)) dM_after_18 ⟨Nat.le_of_ble_eq_true rfl, Nat.le_of_ble_eq_true rfl⟩) ?_
      refine lv_if_eq (tgt := 34) hx hb dM_after_21 (by decide) (fun c_3 => ?_) (fun c_3 => ?_)
      · skip
        refine lv_iconst (v := (-1)) hx hb dM_after_34 (by decide) ?_
        exact W.iret (v := (-1)) hx hb hr (fun t ht hW => ⟨_, rfl, rfl, ht⟩) (fun q h => by cases h) dM_after_35
      · skip
        refine lv_iload_n hx hb dM_after_24 rfl (lv_at hl 2 rfl) ?_
        refine lv_iconst (v := nI 4) hx hb dM_after_25 (by decide) ?_
        refine lv_icmp_ne (tgt := 36) hx hb dM_after_26 (by decide) (fun c_4 => ?_) (fun c_4 => ?_)
        · exact absurd hbad (by simp [wt_okA, c_1, c_2, c_3, c_4])
        · skip
          refine lv_iload_n hx hb dM_after_29 rfl (lv_at hl 1 rfl) ?_
          refine lv_iconst (v := nI 4) hx hb dM_after_30 (by decide) ?_
          refine lv_icmp_eq (tgt := 36) hx hb dM_after_31 (by decide) (fun c_5 => ?_) (fun c_5 => ?_)
          · exact absurd hbad (by simp [wt_okA, c_1, c_2, c_3, c_4, c_5, wt_rn (show 4 < 5 by decide) (show 5 < 2 ^ 31 by decide)])
          · skip
            refine lv_iconst (v := (-1)) hx hb dM_after_34 (by decide) ?_
            exact W.iret (v := (-1)) hx hb hr (fun t ht hW => ⟨_, rfl, rfl, ht⟩) (fun q h => by cases h) dM_after_35

set_option maxHeartbeats 4000000 in
set_option maxRecDepth 100000 in
theorem c_M_after_1 (l : Launch) (dC : Nat → ClassId) (dI : Nat → Nat → Nat) (cI cZ cL : ClassId) (q : Nat → Nat) (kn : Nat → Bool) (co : Nat → Int32) (bo : Nat → Int32) (mn : Nat) (wd : Nat → Nat) (zs : Nat → Nat) (fp : Nat → Int32) (ho : Nat → Int32) (lv : Nat → Int32) (fr : Nat) (so : Nat → Int32) (ea : Nat → Int32) (dn : Nat → Int32) (cd : Nat → Int32) (nx : Nat → Int32) (nd : Nat → Int32) (nc : Nat → Int32) (al : Int32) (wo : Int32) (wh : Int32) (uu : Nat) (vv : Nat) (ww : Nat) (huu : uu < 5) (hvv : vv < 5) (hww : ww < 5) (hvu : vv = 4 → uu = 4) : Met l yM_after (Cond.code yM_after cM_after 6 (some .int) :: tb) ({ frames := 2, cells := 0, slots := 0, locals := 44 }) (va_Pc [.ref (q 0), .int (nI uu), .int (nI vv), .int (nI ww)] (wt_ro (dC, dI) vwCl [(cI, .int), (cZ, .boolean), (cL, .long)] (wM cI cZ cL q kn co bo mn wd zs fp ho lv fr so ea dn cd nx nd nc al wo wh))) (vp_Si (fun r => r = (wt_afN kn co bo uu vv ww))) 0 0 (fun _ => False) := by
  refine Met.ofW (cc := cM_after) (maxL := 6) (ret := (some .int)) (by decide) rfl ?_
  intro p e s m args below meth c s₁ B hml hv
  obtain ⟨rfl, hP, hK, hN⟩ := hv
  have hx := B.exec
  have hb := B.bytes
  have hr := B.returns
  have hts := atoms_spec (ws := (Cond.code yM_after cM_after 6 (some .int) :: tb)) B.pre
  have ht : ∀ w ∈ tb, w.before _ s = true := fun w h => hts w (List.mem_cons_of_mem _ h)
  have hown : s.vm.findClass RM = some m.cls := findClass_of_methodNamed B.named
  have hlocks := B.notSynchronized
  have hl := lv_entry ([.ref (q 0), .int (nI uu), .int (nI vv), .int (nI ww)]) (n := 6) (Nat.le_of_ble_eq_true rfl)
  rw [lg_entry_eq]
  generalize (lg_sl ([.ref (q 0), .int (nI uu), .int (nI vv), .int (nI ww)]) ++ List.replicate (6 - (lg_sl ([.ref (q 0), .int (nI uu), .int (nI vv), .int (nI ww)])).length) Slot.unset).toArray = ls at hl ⊢
  have hl : lv_has ls 6 [(0, .ref (q 0)), (1, .int (nI uu)), (2, .int (nI vv)), (3, .int (nI ww))] := hl
  refine lv_iload_n hx hb dM_after_0 rfl (lv_at hl 3 rfl) ?_
  refine lv_iconst (v := nI 4) hx hb dM_after_1 (by decide) ?_
  refine wt_roi (va_runS (As := [.int (nI ww), .int (nI 4)]) (rest := []) ⟨hx, hb, hml, hown, ht⟩ (c_M_up_4 l dC dI cI cZ cL (nI ww)) (va_cwS 2 ht (good_S m_471 m_472 m_7 m_473) rfl rfl rfl (by decide +kernel) ⟨Nat.le_of_ble_eq_true rfl, Nat.le_of_ble_eq_true rfl⟩) (wt_preS hK hN (hP.sub [] rfl)) rfl rfl hl.1 rfl (lv_room (Nat.le_of_ble_eq_true rfl)) dM_after_2 ⟨Nat.le_of_ble_eq_true rfl, Nat.le_of_ble_eq_true rfl⟩) ?_
  refine lv_if_eq (tgt := 34) hx hb dM_after_5 (by decide) (fun c_1 => ?_) (fun c_1 => ?_)
  · exact absurd c_1 (wt_rn hww (by decide))
  · skip
    refine lv_iload_n hx hb dM_after_8 rfl (lv_at hl 2 rfl) ?_
    refine lv_iconst (v := nI 4) hx hb dM_after_9 (by decide) ?_
    refine wt_roi (va_runS (As := [.int (nI vv), .int (nI 4)]) (rest := []) ⟨hx, hb, hml, hown, ht⟩ (c_M_up_4 l dC dI cI cZ cL (nI vv)) (va_cwS 2 ht (good_S m_471 m_472 m_7 m_473) rfl rfl rfl (by decide +kernel) ⟨Nat.le_of_ble_eq_true rfl, Nat.le_of_ble_eq_true rfl⟩) (wt_preS hK hN (hP.sub [] rfl)) rfl rfl hl.1 rfl (lv_room (Nat.le_of_ble_eq_true rfl)) dM_after_10 ⟨Nat.le_of_ble_eq_true rfl, Nat.le_of_ble_eq_true rfl⟩) ?_
    refine lv_if_eq (tgt := 34) hx hb dM_after_13 (by decide) (fun c_2 => ?_) (fun c_2 => ?_)
    · exact absurd c_2 (wt_rn hvv (by decide))
    · skip
      refine lv_iload_n hx hb dM_after_16 rfl (lv_at hl 1 rfl) ?_
      refine lv_iconst (v := nI 4) hx hb dM_after_17 (by decide) ?_
      refine wt_roi (va_runS (As := [.int (nI uu), .int (nI 4)]) (rest := []) ⟨hx, hb, hml, hown, ht⟩ (c_M_up_4 l dC dI cI cZ cL (nI uu)) (va_cwS 2 ht (good_S m_471 m_472 m_7 m_473) rfl rfl rfl (by decide +kernel) ⟨Nat.le_of_ble_eq_true rfl, Nat.le_of_ble_eq_true rfl⟩) (wt_preS hK hN (hP.sub [] rfl)) rfl rfl hl.1 rfl (lv_room (Nat.le_of_ble_eq_true rfl)) dM_after_18 ⟨Nat.le_of_ble_eq_true rfl, Nat.le_of_ble_eq_true rfl⟩) ?_
      refine lv_if_eq (tgt := 34) hx hb dM_after_21 (by decide) (fun c_3 => ?_) (fun c_3 => ?_)
      · exact absurd c_3 (wt_rn huu (by decide))
      · skip
        refine lv_iload_n hx hb dM_after_24 rfl (lv_at hl 2 rfl) ?_
        refine lv_iconst (v := nI 4) hx hb dM_after_25 (by decide) ?_
        refine wt_icmp_ne (tgt := 36) hx hb dM_after_26 (by decide) (by omega) (by omega) (fun c_4 => ?_) (fun c_4 => ?_)
        · skip
          refine lv_bipush (v := nI 30) hx hb dM_after_36 (by decide) ?_
          refine lv_bipush (v := nI 25) hx hb dM_after_38 (by decide) ?_
          refine lv_iload_n hx hb dM_after_40 rfl (lv_at hl 1 rfl) ?_
          refine wt_imul hx hb dM_after_41 ?_
          refine wt_iadd hx hb dM_after_42 ?_
          refine lv_iconst (v := nI 5) hx hb dM_after_43 (by decide) ?_
          refine lv_iload_n hx hb dM_after_44 rfl (lv_at hl 2 rfl) ?_
          refine wt_imul hx hb dM_after_45 ?_
          refine wt_iadd hx hb dM_after_46 ?_
          refine lv_iload_n hx hb dM_after_47 rfl (lv_at hl 3 rfl) ?_
          refine wt_iadd hx hb dM_after_48 ?_
          refine lv_istore (lv' := [(4, .int (nI (30 + 25 * uu + 5 * vv + ww))), (0, .ref (q 0)), (1, .int (nI uu)), (2, .int (nI vv)), (3, .int (nI ww))]) hx hb dM_after_49 hl (by decide) rfl (fun ls hl => ?_)
          refine lv_iload_n hx hb dM_after_51 rfl (lv_at hl 3 rfl) ?_
          refine lv_iconst (v := nI 4) hx hb dM_after_52 (by decide) ?_
          refine wt_icmp_eq (tgt := 74) hx hb dM_after_53 (by decide) (by omega) (by omega) (fun c_5 => ?_) (fun c_5 => ?_)
          · skip
            refine lv_aload_n hx hb dM_after_74 rfl (lv_at hl 1 rfl) ?_
            refine lv_iload_n hx hb dM_after_75 rfl (lv_at hl 3 rfl) ?_
            refine lv_iload_n hx hb dM_after_76 rfl (lv_at hl 4 rfl) ?_
            refine wt_roi (va_runV (As := [.int (nI vv), .int (nI ww)]) (rest := []) ⟨hx, hb, hml, hown, ht⟩ (c_M_afterOne l dC dI cI cZ cL q kn co bo mn wd zs fp ho lv fr so ea dn cd nx nd nc al wo wh vv ww hvv hww) (cwV 2 ht (good_V m_490 m_492 ms_13 m_7 m_493) rfl rfl rfl (by decide +kernel) ⟨Nat.le_of_ble_eq_true rfl, Nat.le_of_ble_eq_true rfl⟩) (wt_preV hK hN hP (va_recv hK hP (ci := 5) (q0 := 0) rfl rfl)) rfl rfl hl.1 rfl (lv_room (Nat.le_of_ble_eq_true rfl)) dM_after_77 ⟨Nat.le_of_ble_eq_true rfl, Nat.le_of_ble_eq_true rfl⟩) ?_
            refine lv_istore (lv' := [(5, .int (wt_af1 kn co bo vv ww)), (4, .int (nI (30 + 25 * uu + 5 * vv + ww))), (0, .ref (q 0)), (1, .int (nI uu)), (2, .int (nI vv)), (3, .int (nI ww))]) hx hb dM_after_80 hl (by decide) rfl (fun ls hl => ?_)
            refine lv_iload hx hb dM_after_82 (lv_at hl 0 rfl) ?_
            refine lv_if_lt (tgt := 92) hx hb dM_after_84 (by decide) (fun c_6 => ?_) (fun c_6 => ?_)
            · skip
              refine lv_iload hx hb dM_after_92 (lv_at hl 0 rfl) ?_
              refine lv_goto (tgt := 111) hx hb dM_after_94 (by decide) ?_
              exact W.iret (v := wt_af1 kn co bo vv ww) hx hb hr (fun t ht hW => ⟨_, rfl, (by first | exact (afN_2 (Or.inr c_6) (Or.inl trivial)).symm | exact (afN_2 (Or.inl c_4) (Or.inr c_4)).symm | exact (afN_2 (Or.inl c_4) (Or.inl trivial)).symm | exact (afN_3 c_4 c_6 trivial).symm | exact absurd trivial c_4 | exact absurd c_4 trivial | exact absurd c_4 c_6 | exact absurd c_4 c_5 | exact absurd c_5 c_4 | exact absurd c_6 c_4), ht⟩) (fun q h => by cases h) dM_after_111
            · skip
              refine lv_iload_n hx hb dM_after_87 rfl (lv_at hl 4 rfl) ?_
              refine lv_iconst (v := nI 4) hx hb dM_after_88 (by decide) ?_
              refine wt_icmp_ne (tgt := 97) hx hb dM_after_89 (by decide) (by omega) (by omega) (fun c_7 => ?_) (fun c_7 => ?_)
              · skip
                refine lv_iload hx hb dM_after_97 (lv_at hl 0 rfl) ?_
                refine lv_aload_n hx hb dM_after_99 rfl (lv_at hl 2 rfl) ?_
                refine lv_iconst (v := nI 5) hx hb dM_after_100 (by decide) ?_
                refine lv_iconst (v := nI 5) hx hb dM_after_101 (by decide) ?_
                refine lv_iload_n hx hb dM_after_102 rfl (lv_at hl 3 rfl) ?_
                refine wt_imul hx hb dM_after_103 ?_
                refine wt_iadd hx hb dM_after_104 ?_
                refine lv_iload_n hx hb dM_after_105 rfl (lv_at hl 4 rfl) ?_
                refine wt_iadd hx hb dM_after_106 ?_
                refine wt_roi (va_runV (As := [.int (nI (5 + 5 * uu + vv))]) (rest := [.int (wt_af1 kn co bo vv ww)]) ⟨hx, hb, hml, hown, ht⟩ (c_M_back l dC dI cI cZ cL q kn co bo mn wd zs fp ho lv fr so ea dn cd nx nd nc al wo wh (5 + 5 * uu + vv) (by omega)) (cwV 1 ht (good_V m_494 m_496 ms_14 m_7 m_497) rfl rfl rfl (by decide +kernel) ⟨Nat.le_of_ble_eq_true rfl, Nat.le_of_ble_eq_true rfl⟩) (wt_preV hK hN hP (va_recv hK hP (ci := 5) (q0 := 0) rfl rfl)) rfl rfl hl.1 rfl (lv_room (Nat.le_of_ble_eq_true rfl)) dM_after_107 ⟨Nat.le_of_ble_eq_true rfl, Nat.le_of_ble_eq_true rfl⟩) ?_
                refine lv_iadd hx hb dM_after_110 ?_
                exact W.iret (v := wt_af1 kn co bo vv ww + wt_bk kn bo (5 + 5 * uu + vv)) hx hb hr (fun t ht hW => ⟨_, rfl, (by first | exact (afN_2 (Or.inr c_6) (Or.inl c_7)).symm | exact (afN_2 (Or.inl c_4) (Or.inr c_4)).symm | exact (afN_2 (Or.inl c_4) (Or.inl c_7)).symm | exact (afN_3 c_4 c_6 c_7).symm | exact absurd trivial c_4 | exact absurd c_4 trivial | exact absurd c_4 c_6 | exact absurd c_4 c_5 | exact absurd c_5 c_4 | exact absurd c_6 c_4), ht⟩) (fun q h => by cases h) dM_after_111
              · skip
                refine lv_iload hx hb dM_after_92 (lv_at hl 0 rfl) ?_
                refine lv_goto (tgt := 111) hx hb dM_after_94 (by decide) ?_
                exact W.iret (v := wt_af1 kn co bo vv ww) hx hb hr (fun t ht hW => ⟨_, rfl, (by first | exact (afN_2 (Or.inr c_6) (Or.inl c_7)).symm | exact (afN_2 (Or.inl c_4) (Or.inr c_4)).symm | exact (afN_2 (Or.inl c_4) (Or.inl c_7)).symm | exact (afN_3 c_4 c_6 c_7).symm | exact absurd trivial c_4 | exact absurd c_4 trivial | exact absurd c_4 c_6 | exact absurd c_4 c_5 | exact absurd c_5 c_4 | exact absurd c_6 c_4), ht⟩) (fun q h => by cases h) dM_after_111
          · skip
            refine lv_aload_n hx hb dM_after_56 rfl (lv_at hl 1 rfl) ?_
            refine va_get (D := (dC, dI)) (ci := 5) (v := .ref (q 1)) (C := RM) (T := TM) (N := 20) hx hb ht inM hown hK hP 0 rfl rfl 0 (by decide) (ht _ m_394) (fun _ h9 => h9) rfl dM_after_57 ?_
            refine lv_iload hx hb dM_after_60 (lv_at hl 0 rfl) ?_
            refine wt_zald hx hb hK hP 1 1 rfl rfl (k := 30 + 25 * uu + 5 * vv + ww) (by omega) (by decide) dM_after_62 ?_
            refine wt_bif_eq (tgt := 74) hx hb dM_after_63 (by decide) (fun c_8 => ?_) (fun c_8 => ?_)
            · skip
              refine lv_aload_n hx hb dM_after_74 rfl (lv_at hl 1 rfl) ?_
              refine lv_iload_n hx hb dM_after_75 rfl (lv_at hl 3 rfl) ?_
              refine lv_iload_n hx hb dM_after_76 rfl (lv_at hl 4 rfl) ?_
              refine wt_roi (va_runV (As := [.int (nI vv), .int (nI ww)]) (rest := []) ⟨hx, hb, hml, hown, ht⟩ (c_M_afterOne l dC dI cI cZ cL q kn co bo mn wd zs fp ho lv fr so ea dn cd nx nd nc al wo wh vv ww hvv hww) (cwV 2 ht (good_V m_490 m_492 ms_13 m_7 m_493) rfl rfl rfl (by decide +kernel) ⟨Nat.le_of_ble_eq_true rfl, Nat.le_of_ble_eq_true rfl⟩) (wt_preV hK hN hP (va_recv hK hP (ci := 5) (q0 := 0) rfl rfl)) rfl rfl hl.1 rfl (lv_room (Nat.le_of_ble_eq_true rfl)) dM_after_77 ⟨Nat.le_of_ble_eq_true rfl, Nat.le_of_ble_eq_true rfl⟩) ?_
              refine lv_istore (lv' := [(5, .int (wt_af1 kn co bo vv ww)), (4, .int (nI (30 + 25 * uu + 5 * vv + ww))), (0, .ref (q 0)), (1, .int (nI uu)), (2, .int (nI vv)), (3, .int (nI ww))]) hx hb dM_after_80 hl (by decide) rfl (fun ls hl => ?_)
              refine lv_iload hx hb dM_after_82 (lv_at hl 0 rfl) ?_
              refine lv_if_lt (tgt := 92) hx hb dM_after_84 (by decide) (fun c_9 => ?_) (fun c_9 => ?_)
              · skip
                refine lv_iload hx hb dM_after_92 (lv_at hl 0 rfl) ?_
                refine lv_goto (tgt := 111) hx hb dM_after_94 (by decide) ?_
                exact W.iret (v := wt_af1 kn co bo vv ww) hx hb hr (fun t ht hW => ⟨_, rfl, (by first | exact (afN_2 (Or.inr c_8) (Or.inl c_9)).symm | exact (afN_2 (Or.inl c_4) (Or.inr c_4)).symm | exact (afN_2 (Or.inl c_4) (Or.inl c_9)).symm | exact (afN_3 c_4 c_8 c_9).symm | exact absurd trivial c_4 | exact absurd c_4 trivial | exact absurd c_4 c_8 | exact absurd c_4 c_5 | exact absurd c_5 c_4 | exact absurd c_8 c_4), ht⟩) (fun q h => by cases h) dM_after_111
              · skip
                refine lv_iload_n hx hb dM_after_87 rfl (lv_at hl 4 rfl) ?_
                refine lv_iconst (v := nI 4) hx hb dM_after_88 (by decide) ?_
                refine wt_icmp_ne (tgt := 97) hx hb dM_after_89 (by decide) (by omega) (by omega) (fun c_10 => ?_) (fun c_10 => ?_)
                · skip
                  refine lv_iload hx hb dM_after_97 (lv_at hl 0 rfl) ?_
                  refine lv_aload_n hx hb dM_after_99 rfl (lv_at hl 2 rfl) ?_
                  refine lv_iconst (v := nI 5) hx hb dM_after_100 (by decide) ?_
                  refine lv_iconst (v := nI 5) hx hb dM_after_101 (by decide) ?_
                  refine lv_iload_n hx hb dM_after_102 rfl (lv_at hl 3 rfl) ?_
                  refine wt_imul hx hb dM_after_103 ?_
                  refine wt_iadd hx hb dM_after_104 ?_
                  refine lv_iload_n hx hb dM_after_105 rfl (lv_at hl 4 rfl) ?_
                  refine wt_iadd hx hb dM_after_106 ?_
                  refine wt_roi (va_runV (As := [.int (nI (5 + 5 * uu + vv))]) (rest := [.int (wt_af1 kn co bo vv ww)]) ⟨hx, hb, hml, hown, ht⟩ (c_M_back l dC dI cI cZ cL q kn co bo mn wd zs fp ho lv fr so ea dn cd nx nd nc al wo wh (5 + 5 * uu + vv) (by omega)) (cwV 1 ht (good_V m_494 m_496 ms_14 m_7 m_497) rfl rfl rfl (by decide +kernel) ⟨Nat.le_of_ble_eq_true rfl, Nat.le_of_ble_eq_true rfl⟩) (wt_preV hK hN hP (va_recv hK hP (ci := 5) (q0 := 0) rfl rfl)) rfl rfl hl.1 rfl (lv_room (Nat.le_of_ble_eq_true rfl)) dM_after_107 ⟨Nat.le_of_ble_eq_true rfl, Nat.le_of_ble_eq_true rfl⟩) ?_
                  refine lv_iadd hx hb dM_after_110 ?_
                  exact W.iret (v := wt_af1 kn co bo vv ww + wt_bk kn bo (5 + 5 * uu + vv)) hx hb hr (fun t ht hW => ⟨_, rfl, (by first | exact (afN_2 (Or.inr c_8) (Or.inl c_9)).symm | exact (afN_2 (Or.inl c_4) (Or.inr c_4)).symm | exact (afN_2 (Or.inl c_4) (Or.inl c_9)).symm | exact (afN_3 c_4 c_8 c_9).symm | exact absurd c_10 c_4 | exact absurd c_4 c_10 | exact absurd c_4 c_8 | exact absurd c_4 c_5 | exact absurd c_5 c_4 | exact absurd c_8 c_4), ht⟩) (fun q h => by cases h) dM_after_111
                · skip
                  refine lv_iload hx hb dM_after_92 (lv_at hl 0 rfl) ?_
                  refine lv_goto (tgt := 111) hx hb dM_after_94 (by decide) ?_
                  exact W.iret (v := wt_af1 kn co bo vv ww) hx hb hr (fun t ht hW => ⟨_, rfl, (by first | exact (afN_2 (Or.inr c_8) (Or.inl c_9)).symm | exact (afN_2 (Or.inl c_4) (Or.inr c_4)).symm | exact (afN_2 (Or.inl c_4) (Or.inl c_9)).symm | exact (afN_3 c_4 c_8 c_9).symm | exact absurd c_10 c_4 | exact absurd c_4 c_10 | exact absurd c_4 c_8 | exact absurd c_4 c_5 | exact absurd c_5 c_4 | exact absurd c_8 c_4), ht⟩) (fun q h => by cases h) dM_after_111
            · skip
              refine lv_aload_n hx hb dM_after_66 rfl (lv_at hl 1 rfl) ?_
              refine va_get (D := (dC, dI)) (ci := 5) (v := .ref (q 2)) (C := RM) (T := TM) (N := 20) hx hb ht inM hown hK hP 0 rfl rfl 1 (by decide) (ht _ m_395) (fun _ h9 => h9) rfl dM_after_67 ?_
              refine lv_iload hx hb dM_after_70 (lv_at hl 0 rfl) ?_
              refine wt_iald hx hb hK hP 2 0 rfl rfl (k := 30 + 25 * uu + 5 * vv + ww) (by omega) (by decide) dM_after_72 ?_
              exact W.iret (v := co (30 + 25 * uu + 5 * vv + ww)) hx hb hr (fun t ht hW => ⟨_, rfl, (by first | exact (afN_1 c_4 c_8).symm | exact absurd c_4 c_5), ht⟩) (fun q h => by cases h) dM_after_73
        · skip
          refine lv_iload_n hx hb dM_after_29 rfl (lv_at hl 1 rfl) ?_
          refine lv_iconst (v := nI 4) hx hb dM_after_30 (by decide) ?_
          refine wt_icmp_eq (tgt := 36) hx hb dM_after_31 (by decide) (by omega) (by omega) (fun c_11 => ?_) (fun c_11 => ?_)
          · skip
            refine lv_bipush (v := nI 30) hx hb dM_after_36 (by decide) ?_
            refine lv_bipush (v := nI 25) hx hb dM_after_38 (by decide) ?_
            refine lv_iload_n hx hb dM_after_40 rfl (lv_at hl 1 rfl) ?_
            refine wt_imul hx hb dM_after_41 ?_
            refine wt_iadd hx hb dM_after_42 ?_
            refine lv_iconst (v := nI 5) hx hb dM_after_43 (by decide) ?_
            refine lv_iload_n hx hb dM_after_44 rfl (lv_at hl 2 rfl) ?_
            refine wt_imul hx hb dM_after_45 ?_
            refine wt_iadd hx hb dM_after_46 ?_
            refine lv_iload_n hx hb dM_after_47 rfl (lv_at hl 3 rfl) ?_
            refine wt_iadd hx hb dM_after_48 ?_
            refine lv_istore (lv' := [(4, .int (nI (30 + 25 * uu + 5 * vv + ww))), (0, .ref (q 0)), (1, .int (nI uu)), (2, .int (nI vv)), (3, .int (nI ww))]) hx hb dM_after_49 hl (by decide) rfl (fun ls hl => ?_)
            refine lv_iload_n hx hb dM_after_51 rfl (lv_at hl 3 rfl) ?_
            refine lv_iconst (v := nI 4) hx hb dM_after_52 (by decide) ?_
            refine wt_icmp_eq (tgt := 74) hx hb dM_after_53 (by decide) (by omega) (by omega) (fun c_12 => ?_) (fun c_12 => ?_)
            · skip
              refine lv_aload_n hx hb dM_after_74 rfl (lv_at hl 1 rfl) ?_
              refine lv_iload_n hx hb dM_after_75 rfl (lv_at hl 3 rfl) ?_
              refine lv_iload_n hx hb dM_after_76 rfl (lv_at hl 4 rfl) ?_
              refine wt_roi (va_runV (As := [.int (nI vv), .int (nI ww)]) (rest := []) ⟨hx, hb, hml, hown, ht⟩ (c_M_afterOne l dC dI cI cZ cL q kn co bo mn wd zs fp ho lv fr so ea dn cd nx nd nc al wo wh vv ww hvv hww) (cwV 2 ht (good_V m_490 m_492 ms_13 m_7 m_493) rfl rfl rfl (by decide +kernel) ⟨Nat.le_of_ble_eq_true rfl, Nat.le_of_ble_eq_true rfl⟩) (wt_preV hK hN hP (va_recv hK hP (ci := 5) (q0 := 0) rfl rfl)) rfl rfl hl.1 rfl (lv_room (Nat.le_of_ble_eq_true rfl)) dM_after_77 ⟨Nat.le_of_ble_eq_true rfl, Nat.le_of_ble_eq_true rfl⟩) ?_
              refine lv_istore (lv' := [(5, .int (wt_af1 kn co bo vv ww)), (4, .int (nI (30 + 25 * uu + 5 * vv + ww))), (0, .ref (q 0)), (1, .int (nI uu)), (2, .int (nI vv)), (3, .int (nI ww))]) hx hb dM_after_80 hl (by decide) rfl (fun ls hl => ?_)
              refine lv_iload hx hb dM_after_82 (lv_at hl 0 rfl) ?_
              refine lv_if_lt (tgt := 92) hx hb dM_after_84 (by decide) (fun c_13 => ?_) (fun c_13 => ?_)
              · skip
                refine lv_iload hx hb dM_after_92 (lv_at hl 0 rfl) ?_
                refine lv_goto (tgt := 111) hx hb dM_after_94 (by decide) ?_
                exact W.iret (v := wt_af1 kn co bo vv ww) hx hb hr (fun t ht hW => ⟨_, rfl, (by first | exact (afN_2 (Or.inr c_12) (Or.inl c_13)).symm | exact (afN_2 (Or.inl c_4) (Or.inr c_4)).symm | exact (afN_2 (Or.inl c_4) (Or.inl c_13)).symm | exact (afN_3 c_4 c_12 c_13).symm | exact absurd trivial c_4 | exact absurd c_4 trivial | exact absurd c_4 c_12 | exact absurd c_4 c_11 | exact absurd c_11 c_4 | exact absurd c_12 c_4), ht⟩) (fun q h => by cases h) dM_after_111
              · skip
                refine lv_iload_n hx hb dM_after_87 rfl (lv_at hl 4 rfl) ?_
                refine lv_iconst (v := nI 4) hx hb dM_after_88 (by decide) ?_
                refine wt_icmp_ne (tgt := 97) hx hb dM_after_89 (by decide) (by omega) (by omega) (fun c_14 => ?_) (fun c_14 => ?_)
                · skip
                  refine lv_iload hx hb dM_after_97 (lv_at hl 0 rfl) ?_
                  refine lv_aload_n hx hb dM_after_99 rfl (lv_at hl 2 rfl) ?_
                  refine lv_iconst (v := nI 5) hx hb dM_after_100 (by decide) ?_
                  refine lv_iconst (v := nI 5) hx hb dM_after_101 (by decide) ?_
                  refine lv_iload_n hx hb dM_after_102 rfl (lv_at hl 3 rfl) ?_
                  refine wt_imul hx hb dM_after_103 ?_
                  refine wt_iadd hx hb dM_after_104 ?_
                  refine lv_iload_n hx hb dM_after_105 rfl (lv_at hl 4 rfl) ?_
                  refine wt_iadd hx hb dM_after_106 ?_
                  refine wt_roi (va_runV (As := [.int (nI (5 + 5 * uu + vv))]) (rest := [.int (wt_af1 kn co bo vv ww)]) ⟨hx, hb, hml, hown, ht⟩ (c_M_back l dC dI cI cZ cL q kn co bo mn wd zs fp ho lv fr so ea dn cd nx nd nc al wo wh (5 + 5 * uu + vv) (by omega)) (cwV 1 ht (good_V m_494 m_496 ms_14 m_7 m_497) rfl rfl rfl (by decide +kernel) ⟨Nat.le_of_ble_eq_true rfl, Nat.le_of_ble_eq_true rfl⟩) (wt_preV hK hN hP (va_recv hK hP (ci := 5) (q0 := 0) rfl rfl)) rfl rfl hl.1 rfl (lv_room (Nat.le_of_ble_eq_true rfl)) dM_after_107 ⟨Nat.le_of_ble_eq_true rfl, Nat.le_of_ble_eq_true rfl⟩) ?_
                  refine lv_iadd hx hb dM_after_110 ?_
                  exact W.iret (v := wt_af1 kn co bo vv ww + wt_bk kn bo (5 + 5 * uu + vv)) hx hb hr (fun t ht hW => ⟨_, rfl, (by first | exact (afN_2 (Or.inr c_12) (Or.inl c_13)).symm | exact (afN_2 (Or.inl c_4) (Or.inr c_4)).symm | exact (afN_2 (Or.inl c_4) (Or.inl c_13)).symm | exact (afN_3 c_4 c_12 c_13).symm | exact absurd c_14 c_4 | exact absurd c_4 c_14 | exact absurd c_4 c_12 | exact absurd c_4 c_11 | exact absurd c_11 c_4 | exact absurd c_12 c_4), ht⟩) (fun q h => by cases h) dM_after_111
                · skip
                  refine lv_iload hx hb dM_after_92 (lv_at hl 0 rfl) ?_
                  refine lv_goto (tgt := 111) hx hb dM_after_94 (by decide) ?_
                  exact W.iret (v := wt_af1 kn co bo vv ww) hx hb hr (fun t ht hW => ⟨_, rfl, (by first | exact (afN_2 (Or.inr c_12) (Or.inl c_13)).symm | exact (afN_2 (Or.inl c_4) (Or.inr c_4)).symm | exact (afN_2 (Or.inl c_4) (Or.inl c_13)).symm | exact (afN_3 c_4 c_12 c_13).symm | exact absurd c_14 c_4 | exact absurd c_4 c_14 | exact absurd c_4 c_12 | exact absurd c_4 c_11 | exact absurd c_11 c_4 | exact absurd c_12 c_4), ht⟩) (fun q h => by cases h) dM_after_111
            · skip
              refine lv_aload_n hx hb dM_after_56 rfl (lv_at hl 1 rfl) ?_
              refine va_get (D := (dC, dI)) (ci := 5) (v := .ref (q 1)) (C := RM) (T := TM) (N := 20) hx hb ht inM hown hK hP 0 rfl rfl 0 (by decide) (ht _ m_394) (fun _ h9 => h9) rfl dM_after_57 ?_
              refine lv_iload hx hb dM_after_60 (lv_at hl 0 rfl) ?_
              refine wt_zald hx hb hK hP 1 1 rfl rfl (k := 30 + 25 * uu + 5 * vv + ww) (by omega) (by decide) dM_after_62 ?_
              refine wt_bif_eq (tgt := 74) hx hb dM_after_63 (by decide) (fun c_15 => ?_) (fun c_15 => ?_)
              · skip
                refine lv_aload_n hx hb dM_after_74 rfl (lv_at hl 1 rfl) ?_
                refine lv_iload_n hx hb dM_after_75 rfl (lv_at hl 3 rfl) ?_
                refine lv_iload_n hx hb dM_after_76 rfl (lv_at hl 4 rfl) ?_
                refine wt_roi (va_runV (As := [.int (nI vv), .int (nI ww)]) (rest := []) ⟨hx, hb, hml, hown, ht⟩ (c_M_afterOne l dC dI cI cZ cL q kn co bo mn wd zs fp ho lv fr so ea dn cd nx nd nc al wo wh vv ww hvv hww) (cwV 2 ht (good_V m_490 m_492 ms_13 m_7 m_493) rfl rfl rfl (by decide +kernel) ⟨Nat.le_of_ble_eq_true rfl, Nat.le_of_ble_eq_true rfl⟩) (wt_preV hK hN hP (va_recv hK hP (ci := 5) (q0 := 0) rfl rfl)) rfl rfl hl.1 rfl (lv_room (Nat.le_of_ble_eq_true rfl)) dM_after_77 ⟨Nat.le_of_ble_eq_true rfl, Nat.le_of_ble_eq_true rfl⟩) ?_
                refine lv_istore (lv' := [(5, .int (wt_af1 kn co bo vv ww)), (4, .int (nI (30 + 25 * uu + 5 * vv + ww))), (0, .ref (q 0)), (1, .int (nI uu)), (2, .int (nI vv)), (3, .int (nI ww))]) hx hb dM_after_80 hl (by decide) rfl (fun ls hl => ?_)
                refine lv_iload hx hb dM_after_82 (lv_at hl 0 rfl) ?_
                refine lv_if_lt (tgt := 92) hx hb dM_after_84 (by decide) (fun c_16 => ?_) (fun c_16 => ?_)
                · skip
                  refine lv_iload hx hb dM_after_92 (lv_at hl 0 rfl) ?_
                  refine lv_goto (tgt := 111) hx hb dM_after_94 (by decide) ?_
                  exact W.iret (v := wt_af1 kn co bo vv ww) hx hb hr (fun t ht hW => ⟨_, rfl, (by first | exact (afN_2 (Or.inr c_12) (Or.inl c_15)).symm | exact (afN_2 (Or.inl c_4) (Or.inr c_4)).symm | exact (afN_2 (Or.inl c_4) (Or.inl c_15)).symm | exact (afN_3 c_4 c_12 c_15).symm | exact absurd c_16 c_4 | exact absurd c_4 c_16 | exact absurd c_4 c_12 | exact absurd c_4 c_11 | exact absurd c_11 c_4 | exact absurd c_12 c_4), ht⟩) (fun q h => by cases h) dM_after_111
                · skip
                  refine lv_iload_n hx hb dM_after_87 rfl (lv_at hl 4 rfl) ?_
                  refine lv_iconst (v := nI 4) hx hb dM_after_88 (by decide) ?_
                  refine wt_icmp_ne (tgt := 97) hx hb dM_after_89 (by decide) (by omega) (by omega) (fun c_17 => ?_) (fun c_17 => ?_)
                  · skip
                    refine lv_iload hx hb dM_after_97 (lv_at hl 0 rfl) ?_
                    refine lv_aload_n hx hb dM_after_99 rfl (lv_at hl 2 rfl) ?_
                    refine lv_iconst (v := nI 5) hx hb dM_after_100 (by decide) ?_
                    refine lv_iconst (v := nI 5) hx hb dM_after_101 (by decide) ?_
                    refine lv_iload_n hx hb dM_after_102 rfl (lv_at hl 3 rfl) ?_
                    refine wt_imul hx hb dM_after_103 ?_
                    refine wt_iadd hx hb dM_after_104 ?_
                    refine lv_iload_n hx hb dM_after_105 rfl (lv_at hl 4 rfl) ?_
                    refine wt_iadd hx hb dM_after_106 ?_
                    refine wt_roi (va_runV (As := [.int (nI (5 + 5 * uu + vv))]) (rest := [.int (wt_af1 kn co bo vv ww)]) ⟨hx, hb, hml, hown, ht⟩ (c_M_back l dC dI cI cZ cL q kn co bo mn wd zs fp ho lv fr so ea dn cd nx nd nc al wo wh (5 + 5 * uu + vv) (by omega)) (cwV 1 ht (good_V m_494 m_496 ms_14 m_7 m_497) rfl rfl rfl (by decide +kernel) ⟨Nat.le_of_ble_eq_true rfl, Nat.le_of_ble_eq_true rfl⟩) (wt_preV hK hN hP (va_recv hK hP (ci := 5) (q0 := 0) rfl rfl)) rfl rfl hl.1 rfl (lv_room (Nat.le_of_ble_eq_true rfl)) dM_after_107 ⟨Nat.le_of_ble_eq_true rfl, Nat.le_of_ble_eq_true rfl⟩) ?_
                    refine lv_iadd hx hb dM_after_110 ?_
                    exact W.iret (v := wt_af1 kn co bo vv ww + wt_bk kn bo (5 + 5 * uu + vv)) hx hb hr (fun t ht hW => ⟨_, rfl, (by first | exact (afN_2 (Or.inr c_12) (Or.inl c_15)).symm | exact (afN_2 (Or.inl c_4) (Or.inr c_4)).symm | exact (afN_2 (Or.inl c_4) (Or.inl c_15)).symm | exact (afN_3 c_4 c_12 c_15).symm | exact absurd c_16 c_4 | exact absurd c_4 c_16 | exact absurd c_4 c_12 | exact absurd c_4 c_11 | exact absurd c_11 c_4 | exact absurd c_12 c_4), ht⟩) (fun q h => by cases h) dM_after_111
                  · skip
                    refine lv_iload hx hb dM_after_92 (lv_at hl 0 rfl) ?_
                    refine lv_goto (tgt := 111) hx hb dM_after_94 (by decide) ?_
                    exact W.iret (v := wt_af1 kn co bo vv ww) hx hb hr (fun t ht hW => ⟨_, rfl, (by first | exact (afN_2 (Or.inr c_12) (Or.inl c_15)).symm | exact (afN_2 (Or.inl c_4) (Or.inr c_4)).symm | exact (afN_2 (Or.inl c_4) (Or.inl c_15)).symm | exact (afN_3 c_4 c_12 c_15).symm | exact absurd c_16 c_4 | exact absurd c_4 c_16 | exact absurd c_4 c_12 | exact absurd c_4 c_11 | exact absurd c_11 c_4 | exact absurd c_12 c_4), ht⟩) (fun q h => by cases h) dM_after_111
              · skip
                refine lv_aload_n hx hb dM_after_66 rfl (lv_at hl 1 rfl) ?_
                refine va_get (D := (dC, dI)) (ci := 5) (v := .ref (q 2)) (C := RM) (T := TM) (N := 20) hx hb ht inM hown hK hP 0 rfl rfl 1 (by decide) (ht _ m_395) (fun _ h9 => h9) rfl dM_after_67 ?_
                refine lv_iload hx hb dM_after_70 (lv_at hl 0 rfl) ?_
                refine wt_iald hx hb hK hP 2 0 rfl rfl (k := 30 + 25 * uu + 5 * vv + ww) (by omega) (by decide) dM_after_72 ?_
                exact W.iret (v := co (30 + 25 * uu + 5 * vv + ww)) hx hb hr (fun t ht hW => ⟨_, rfl, (by first | exact (afN_1 c_4 c_15).symm | exact absurd c_4 c_12), ht⟩) (fun q h => by cases h) dM_after_73
          · exact absurd (hvu c_4) c_11

set_option maxHeartbeats 4000000 in
set_option maxRecDepth 100000 in
theorem c_M_topology_0 (l : Launch) (dC : Nat → ClassId) (dI : Nat → Nat → Nat) (cI cZ cL : ClassId) (q : Nat → Nat) (kn : Nat → Bool) (co : Nat → Int32) (bo : Nat → Int32) (mn : Nat) (wd : Nat → Nat) (zs : Nat → Nat) (fp : Nat → Int32) (ho : Nat → Int32) (lv : Nat → Int32) (fr : Nat) (so : Nat → Int32) (ea : Nat → Int32) (dn : Nat → Int32) (cd : Nat → Int32) (nx : Nat → Int32) (nd : Nat → Int32) (nc : Nat → Int32) (al : Int32) (wo : Int32) (wh : Int32) (ss : Int32) (h0 : Int32) (l0 : Int32) (hbad : (decide (¬ wt_rng ss 3 = 0) && (decide (¬ wt_rng h0 10000 = 0) && decide (¬ wt_rng l0 10000 = 0))) = false) : Met l yM_topology (Cond.code yM_topology cM_topology 4 (some .boolean) :: tb) ({ frames := 1, cells := 0, slots := 0, locals := 21 }) (va_Pc [.ref (q 0), .int ss, .int h0, .int l0] (wt_ro (dC, dI) vwCl [(cI, .int), (cZ, .boolean), (cL, .long)] (wM cI cZ cL q kn co bo mn wd zs fp ho lv fr so ea dn cd nx nd nc al wo wh))) (vp_Si (fun r => r = (nI 0))) 0 0 (fun _ => False) := by
  refine Met.ofW (cc := cM_topology) (maxL := 4) (ret := (some .boolean)) (by decide) rfl ?_
  intro p e s m args below meth c s₁ B hml hv
  obtain ⟨rfl, hP, hK, hN⟩ := hv
  have hx := B.exec
  have hb := B.bytes
  have hr := B.returns
  have hts := atoms_spec (ws := (Cond.code yM_topology cM_topology 4 (some .boolean) :: tb)) B.pre
  have ht : ∀ w ∈ tb, w.before _ s = true := fun w h => hts w (List.mem_cons_of_mem _ h)
  have hown : s.vm.findClass RM = some m.cls := findClass_of_methodNamed B.named
  have hlocks := B.notSynchronized
  have hl := lv_entry ([.ref (q 0), .int ss, .int h0, .int l0]) (n := 4) (Nat.le_of_ble_eq_true rfl)
  rw [lg_entry_eq]
  generalize (lg_sl ([.ref (q 0), .int ss, .int h0, .int l0]) ++ List.replicate (4 - (lg_sl ([.ref (q 0), .int ss, .int h0, .int l0])).length) Slot.unset).toArray = ls at hl ⊢
  have hl : lv_has ls 4 [(0, .ref (q 0)), (1, .int ss), (2, .int h0), (3, .int l0)] := hl
  refine lv_iload_n hx hb dM_topology_0 rfl (lv_at hl 1 rfl) ?_
  refine lv_iconst (v := nI 2) hx hb dM_topology_1 (by decide) ?_
  refine wt_roi (va_runS (As := [.int ss, .int (nI 2)]) (rest := []) ⟨hx, hb, hml, hown, ht⟩ (c_M_up_2 l dC dI cI cZ cL ss) (va_cwS 2 ht (good_S m_471 m_472 m_7 m_473) rfl rfl rfl (by decide +kernel) ⟨Nat.le_of_ble_eq_true rfl, Nat.le_of_ble_eq_true rfl⟩) (wt_preS hK hN (hP.sub [] rfl)) rfl rfl hl.1 rfl (lv_room (Nat.le_of_ble_eq_true rfl)) dM_topology_2 ⟨Nat.le_of_ble_eq_true rfl, Nat.le_of_ble_eq_true rfl⟩) ?_
  refine lv_if_eq (tgt := 28) hx hb dM_topology_5 (by decide) (fun c_1 => ?_) (fun c_1 => ?_)
  · skip
    refine lv_iconst (v := nI 0) hx hb dM_topology_28 (by decide) ?_
    exact W.zret (v := nI 0) hx hb hr rfl (fun t ht hW => ⟨_, rfl, rfl, ht⟩) (fun q h => by cases h) dM_topology_29
  · skip
    refine lv_iload_n hx hb dM_topology_8 rfl (lv_at hl 2 rfl) ?_
    refine lv_sipush (v := nI 9999) hx hb dM_topology_9 (by decide) ?_
    refine wt_roi (va_runS (As := [.int h0, .int (nI 9999)]) (rest := []) ⟨hx, hb, hml, hown, ht⟩ (c_M_up_9999 l dC dI cI cZ cL h0) (va_cwS 2 ht (good_S m_471 m_472 m_7 m_473) rfl rfl rfl (by decide +kernel) ⟨Nat.le_of_ble_eq_true rfl, Nat.le_of_ble_eq_true rfl⟩) (wt_preS hK hN (hP.sub [] rfl)) rfl rfl hl.1 rfl (lv_room (Nat.le_of_ble_eq_true rfl)) dM_topology_12 ⟨Nat.le_of_ble_eq_true rfl, Nat.le_of_ble_eq_true rfl⟩) ?_
    refine lv_if_eq (tgt := 28) hx hb dM_topology_15 (by decide) (fun c_2 => ?_) (fun c_2 => ?_)
    · skip
      refine lv_iconst (v := nI 0) hx hb dM_topology_28 (by decide) ?_
      exact W.zret (v := nI 0) hx hb hr rfl (fun t ht hW => ⟨_, rfl, rfl, ht⟩) (fun q h => by cases h) dM_topology_29
    · skip
      refine lv_iload_n hx hb dM_topology_18 rfl (lv_at hl 3 rfl) ?_
      refine lv_sipush (v := nI 9999) hx hb dM_topology_19 (by decide) ?_
      refine wt_roi (va_runS (As := [.int l0, .int (nI 9999)]) (rest := []) ⟨hx, hb, hml, hown, ht⟩ (c_M_up_9999 l dC dI cI cZ cL l0) (va_cwS 2 ht (good_S m_471 m_472 m_7 m_473) rfl rfl rfl (by decide +kernel) ⟨Nat.le_of_ble_eq_true rfl, Nat.le_of_ble_eq_true rfl⟩) (wt_preS hK hN (hP.sub [] rfl)) rfl rfl hl.1 rfl (lv_room (Nat.le_of_ble_eq_true rfl)) dM_topology_22 ⟨Nat.le_of_ble_eq_true rfl, Nat.le_of_ble_eq_true rfl⟩) ?_
      refine lv_if_ne (tgt := 30) hx hb dM_topology_25 (by decide) (fun c_3 => ?_) (fun c_3 => ?_)
      · exact absurd hbad (by simp [c_1, c_2, c_3])
      · skip
        refine lv_iconst (v := nI 0) hx hb dM_topology_28 (by decide) ?_
        exact W.zret (v := nI 0) hx hb hr rfl (fun t ht hW => ⟨_, rfl, rfl, ht⟩) (fun q h => by cases h) dM_topology_29

set_option maxHeartbeats 4000000 in
set_option maxRecDepth 100000 in
theorem c_M_topology_1 (l : Launch) (dC : Nat → ClassId) (dI : Nat → Nat → Nat) (cI cZ cL : ClassId) (q : Nat → Nat) (sz0 : Nat) (kn : Nat → Bool) (co : Nat → Int32) (bo : Nat → Int32) (mn : Nat) (wd : Nat → Nat) (zs : Nat → Nat) (fp : Nat → Int32) (ho : Nat → Int32) (lv : Nat → Int32) (fr : Nat) (so : Nat → Int32) (ea : Nat → Int32) (dn : Nat → Int32) (cd : Nat → Int32) (nx : Nat → Int32) (nd : Nat → Int32) (nc : Nat → Int32) (al : Int32) (wo : Int32) (wh : Int32) (ss : Nat) (h0 : Int32) (l0 : Int32) (hss : ss < 3) (hh0 : ¬ wt_rng h0 10000 = 0) (hl0 : ¬ wt_rng l0 10000 = 0) : Met l yM_topology (Cond.code yM_topology cM_topology 4 (some .boolean) :: tb) ({ frames := 1, cells := 0, slots := 0, locals := 21 }) (va_Pc [.ref (q 0), .int (nI ss), .int h0, .int l0] (wt_rw (dC, dI) vwCl [(cI, .int), (cZ, .boolean), (cL, .long)] (wM cI cZ cL q kn co bo mn wd zs fp ho lv fr so ea dn cd nx nd nc al wo wh) sz0)) (va_Qi (fun r (_ : Unit) => r = (nI 1)) (wt_B (dC, dI) vwCl (va_A (wM cI cZ cL q kn co bo mn wd zs fp ho lv fr so ea dn cd nx nd nc al wo wh) sz0) (wM cI cZ cL q kn co bo mn wd zs fp (upd ho ss h0) (upd lv ss l0) fr so ea dn cd nx nd nc al wo wh)) (va_A (wM cI cZ cL q kn co bo mn wd zs fp ho lv fr so ea dn cd nx nd nc al wo wh) sz0)) 0 0 (va_A (wM cI cZ cL q kn co bo mn wd zs fp ho lv fr so ea dn cd nx nd nc al wo wh) sz0) := by
  refine Met.ofW (cc := cM_topology) (maxL := 4) (ret := (some .boolean)) (by decide) rfl ?_
  intro p e s m args below meth c s₁ B hml hv
  obtain ⟨rfl, hsz, hP, hK, hN, hD0⟩ := hv
  have hx := B.exec
  have hb := B.bytes
  have hr := B.returns
  have hts := atoms_spec (ws := (Cond.code yM_topology cM_topology 4 (some .boolean) :: tb)) B.pre
  have ht : ∀ w ∈ tb, w.before _ s = true := fun w h => hts w (List.mem_cons_of_mem _ h)
  have hown : s.vm.findClass RM = some m.cls := findClass_of_methodNamed B.named
  have hlocks := B.notSynchronized
  subst hsz
  have hD := hD0.self (sz := s.heap.size)
  generalize hAe : va_A (wM cI cZ cL q kn co bo mn wd zs fp ho lv fr so ea dn cd nx nd nc al wo wh) s.heap.size = A at hD ⊢
  have hA : ∀ q : Nat, s.heap.size ≤ q → A q := fun q h => by rw [← hAe]; exact Or.inr h
  clear hAe hD0
  have hS : va_S A s.heap s.heap [] := va_S.rf
  have hl := lv_entry ([.ref (q 0), .int (nI ss), .int h0, .int l0]) (n := 4) (Nat.le_of_ble_eq_true rfl)
  rw [lg_entry_eq]
  generalize (lg_sl ([.ref (q 0), .int (nI ss), .int h0, .int l0]) ++ List.replicate (4 - (lg_sl ([.ref (q 0), .int (nI ss), .int h0, .int l0])).length) Slot.unset).toArray = ls at hl ⊢
  have hl : lv_has ls 4 [(0, .ref (q 0)), (1, .int (nI ss)), (2, .int h0), (3, .int l0)] := hl
  refine lv_iload_n hx hb dM_topology_0 rfl (lv_at hl 1 rfl) ?_
  refine lv_iconst (v := nI 2) hx hb dM_topology_1 (by decide) ?_
  refine wt_roi (va_runS (As := [.int (nI ss), .int (nI 2)]) (rest := []) ⟨hx, hb, hml, hown, ht⟩ (c_M_up_2 l dC dI cI cZ cL (nI ss)) (va_cwS 2 ht (good_S m_471 m_472 m_7 m_473) rfl rfl rfl (by decide +kernel) ⟨Nat.le_of_ble_eq_true rfl, Nat.le_of_ble_eq_true rfl⟩) (wt_preS hK hN (hP.sub [] rfl)) rfl rfl hl.1 rfl (lv_room (Nat.le_of_ble_eq_true rfl)) dM_topology_2 ⟨Nat.le_of_ble_eq_true rfl, Nat.le_of_ble_eq_true rfl⟩) ?_
  refine lv_if_eq (tgt := 28) hx hb dM_topology_5 (by decide) (fun c_1 => ?_) (fun c_1 => ?_)
  · exact absurd c_1 (wt_rn hss (by decide))
  · skip
    refine lv_iload_n hx hb dM_topology_8 rfl (lv_at hl 2 rfl) ?_
    refine lv_sipush (v := nI 9999) hx hb dM_topology_9 (by decide) ?_
    refine wt_roi (va_runS (As := [.int h0, .int (nI 9999)]) (rest := []) ⟨hx, hb, hml, hown, ht⟩ (c_M_up_9999 l dC dI cI cZ cL h0) (va_cwS 2 ht (good_S m_471 m_472 m_7 m_473) rfl rfl rfl (by decide +kernel) ⟨Nat.le_of_ble_eq_true rfl, Nat.le_of_ble_eq_true rfl⟩) (wt_preS hK hN (hP.sub [] rfl)) rfl rfl hl.1 rfl (lv_room (Nat.le_of_ble_eq_true rfl)) dM_topology_12 ⟨Nat.le_of_ble_eq_true rfl, Nat.le_of_ble_eq_true rfl⟩) ?_
    refine lv_if_eq (tgt := 28) hx hb dM_topology_15 (by decide) (fun c_2 => ?_) (fun c_2 => ?_)
    · exact absurd c_2 hh0
    · skip
      refine lv_iload_n hx hb dM_topology_18 rfl (lv_at hl 3 rfl) ?_
      refine lv_sipush (v := nI 9999) hx hb dM_topology_19 (by decide) ?_
      refine wt_roi (va_runS (As := [.int l0, .int (nI 9999)]) (rest := []) ⟨hx, hb, hml, hown, ht⟩ (c_M_up_9999 l dC dI cI cZ cL l0) (va_cwS 2 ht (good_S m_471 m_472 m_7 m_473) rfl rfl rfl (by decide +kernel) ⟨Nat.le_of_ble_eq_true rfl, Nat.le_of_ble_eq_true rfl⟩) (wt_preS hK hN (hP.sub [] rfl)) rfl rfl hl.1 rfl (lv_room (Nat.le_of_ble_eq_true rfl)) dM_topology_22 ⟨Nat.le_of_ble_eq_true rfl, Nat.le_of_ble_eq_true rfl⟩) ?_
      refine lv_if_ne (tgt := 30) hx hb dM_topology_25 (by decide) (fun c_3 => ?_) (fun c_3 => ?_)
      · skip
        refine lv_aload_n hx hb dM_topology_30 rfl (lv_at hl 0 rfl) ?_
        refine va_get (D := (dC, dI)) (ci := 5) (v := .ref (q 7)) (C := RM) (T := TM) (N := 20) hx hb ht inM hown hK hP 0 rfl rfl 7 (by decide) (ht _ m_401) (fun _ h9 => h9) rfl dM_topology_31 ?_
        refine lv_iload_n hx hb dM_topology_34 rfl (lv_at hl 1 rfl) ?_
        refine lv_iload_n hx hb dM_topology_35 rfl (lv_at hl 2 rfl) ?_
        refine wt_iast hx hb hK hP hD hS 7 0 rfl rfl (k := ss) (by omega) (by decide) dM_topology_36 (fun H locs hP hD hS => ?_)
        have hP : va_P (dC, dI) vwCl (wM cI cZ cL q kn co bo mn wd zs fp (upd ho ss h0) lv fr so ea dn cd nx nd nc al wo wh) H := hP
        have hD : va_D A (wM cI cZ cL q kn co bo mn wd zs fp (upd ho ss h0) lv fr so ea dn cd nx nd nc al wo wh) := hD
        refine lv_aload_n hx hb dM_topology_37 rfl (lv_at hl 0 rfl) ?_
        refine va_get (D := (dC, dI)) (ci := 5) (v := .ref (q 8)) (C := RM) (T := TM) (N := 20) hx hb ht inM hown hK hP 0 rfl rfl 8 (by decide) (ht _ m_402) (fun _ h9 => h9) rfl dM_topology_38 ?_
        refine lv_iload_n hx hb dM_topology_41 rfl (lv_at hl 1 rfl) ?_
        refine lv_iload_n hx hb dM_topology_42 rfl (lv_at hl 3 rfl) ?_
        refine wt_iast hx hb hK hP hD hS 8 0 rfl rfl (k := ss) (by omega) (by decide) dM_topology_43 (fun H locs hP hD hS => ?_)
        have hP : va_P (dC, dI) vwCl (wM cI cZ cL q kn co bo mn wd zs fp (upd ho ss h0) (upd lv ss l0) fr so ea dn cd nx nd nc al wo wh) H := hP
        have hD : va_D A (wM cI cZ cL q kn co bo mn wd zs fp (upd ho ss h0) (upd lv ss l0) fr so ea dn cd nx nd nc al wo wh) := hD
        refine lv_iconst (v := nI 1) hx hb dM_topology_44 (by decide) ?_
        have hP9 : va_P (dC, dI) vwCl (wM cI cZ cL q kn co bo mn wd zs fp (upd ho ss h0) (upd lv ss l0) fr so ea dn cd nx nd nc al wo wh) H := by exact hP
        have hD9 : va_D A (wM cI cZ cL q kn co bo mn wd zs fp (upd ho ss h0) (upd lv ss l0) fr so ea dn cd nx nd nc al wo wh) := by exact hD
        exact W.zret (v := nI 1) hx hb hr rfl (fun t ht hW => ⟨⟨_, (), rfl, rfl, by rw [ht]; exact hP9, hD9⟩, hS.F ht⟩) hS.2.2 dM_topology_45
      · exact absurd c_3 hl0

set_option maxHeartbeats 4000000 in
set_option maxRecDepth 100000 in
theorem c_M_frames (l : Launch) (dC : Nat → ClassId) (dI : Nat → Nat → Nat) (cI cZ cL : ClassId) (q : Nat → Nat) (kn : Nat → Bool) (co : Nat → Int32) (bo : Nat → Int32) (mn : Nat) (wd : Nat → Nat) (zs : Nat → Nat) (fp : Nat → Int32) (ho : Nat → Int32) (lv : Nat → Int32) (fr : Nat) (so : Nat → Int32) (ea : Nat → Int32) (dn : Nat → Int32) (cd : Nat → Int32) (nx : Nat → Int32) (nd : Nat → Int32) (nc : Nat → Int32) (al : Int32) (wo : Int32) (wh : Int32) : Met l yM_frames (Cond.code yM_frames cM_frames 1 (some .int) :: tb) ({ frames := 0, cells := 0, slots := 0, locals := 0 }) (va_Pc [.ref (q 0)] (wt_ro (dC, dI) vwCl [(cI, .int), (cZ, .boolean), (cL, .long)] (wM cI cZ cL q kn co bo mn wd zs fp ho lv fr so ea dn cd nx nd nc al wo wh))) (vp_Si (fun r => r = (nI fr))) 0 0 (fun _ => False) := by
  refine Met.ofW (cc := cM_frames) (maxL := 1) (ret := (some .int)) (by decide) rfl ?_
  intro p e s m args below meth c s₁ B hml hv
  obtain ⟨rfl, hP, hK, hN⟩ := hv
  have hx := B.exec
  have hb := B.bytes
  have hr := B.returns
  have hts := atoms_spec (ws := (Cond.code yM_frames cM_frames 1 (some .int) :: tb)) B.pre
  have ht : ∀ w ∈ tb, w.before _ s = true := fun w h => hts w (List.mem_cons_of_mem _ h)
  have hown : s.vm.findClass RM = some m.cls := findClass_of_methodNamed B.named
  have hlocks := B.notSynchronized
  have hl := lv_entry ([.ref (q 0)]) (n := 1) (Nat.le_of_ble_eq_true rfl)
  rw [lg_entry_eq]
  generalize (lg_sl ([.ref (q 0)]) ++ List.replicate (1 - (lg_sl ([.ref (q 0)])).length) Slot.unset).toArray = ls at hl ⊢
  have hl : lv_has ls 1 [(0, .ref (q 0))] := hl
  refine lv_aload_n hx hb dM_frames_0 rfl (lv_at hl 0 rfl) ?_
  refine va_get (D := (dC, dI)) (ci := 5) (v := .int (nI fr)) (C := RM) (T := TM) (N := 20) hx hb ht inM hown hK hP 0 rfl rfl 9 (by decide) (ht _ m_403) (fun _ h9 => h9) rfl dM_frames_1 ?_
  exact W.iret (v := nI fr) hx hb hr (fun t ht hW => ⟨_, rfl, rfl, ht⟩) (fun q h => by cases h) dM_frames_4

set_option maxHeartbeats 4000000 in
set_option maxRecDepth 100000 in
theorem c_M_frame_0 (l : Launch) (dC : Nat → ClassId) (dI : Nat → Nat → Nat) (cI cZ cL : ClassId) (q : Nat → Nat) (kn : Nat → Bool) (co : Nat → Int32) (bo : Nat → Int32) (mn : Nat) (wd : Nat → Nat) (zs : Nat → Nat) (fp : Nat → Int32) (ho : Nat → Int32) (lv : Nat → Int32) (fr : Nat) (so : Nat → Int32) (ea : Nat → Int32) (dn : Nat → Int32) (cd : Nat → Int32) (nx : Nat → Int32) (nd : Nat → Int32) (nc : Nat → Int32) (al : Int32) (wo : Int32) (wh : Int32) (hfr : fr = 15) : Met l yM_frame (Cond.code yM_frame cM_frame 2 (some .int) :: tb) ({ frames := 0, cells := 0, slots := 0, locals := 0 }) (va_Pc [.ref (q 0)] (wt_ro (dC, dI) vwCl [(cI, .int), (cZ, .boolean), (cL, .long)] (wM cI cZ cL q kn co bo mn wd zs fp ho lv fr so ea dn cd nx nd nc al wo wh))) (vp_Si (fun r => r = (-1))) 0 0 (fun _ => False) := by
  refine Met.ofW (cc := cM_frame) (maxL := 2) (ret := (some .int)) (by decide) rfl ?_
  intro p e s m args below meth c s₁ B hml hv
  obtain ⟨rfl, hP, hK, hN⟩ := hv
  have hx := B.exec
  have hb := B.bytes
  have hr := B.returns
  have hts := atoms_spec (ws := (Cond.code yM_frame cM_frame 2 (some .int) :: tb)) B.pre
  have ht : ∀ w ∈ tb, w.before _ s = true := fun w h => hts w (List.mem_cons_of_mem _ h)
  have hown : s.vm.findClass RM = some m.cls := findClass_of_methodNamed B.named
  have hlocks := B.notSynchronized
  have hl := lv_entry ([.ref (q 0)]) (n := 2) (Nat.le_of_ble_eq_true rfl)
  rw [lg_entry_eq]
  generalize (lg_sl ([.ref (q 0)]) ++ List.replicate (2 - (lg_sl ([.ref (q 0)])).length) Slot.unset).toArray = ls at hl ⊢
  have hl : lv_has ls 2 [(0, .ref (q 0))] := hl
  refine lv_aload_n hx hb dM_frame_0 rfl (lv_at hl 0 rfl) ?_
  refine va_get (D := (dC, dI)) (ci := 5) (v := .int (nI fr)) (C := RM) (T := TM) (N := 20) hx hb ht inM hown hK hP 0 rfl rfl 9 (by decide) (ht _ m_403) (fun _ h9 => h9) rfl dM_frame_1 ?_
  refine lv_bipush (v := nI 15) hx hb dM_frame_4 (by decide) ?_
  refine wt_icmp_ne (tgt := 11) hx hb dM_frame_6 (by decide) (by omega) (by omega) (fun c_1 => ?_) (fun c_1 => ?_)
  · exact absurd hfr c_1
  · skip
    refine lv_iconst (v := (-1)) hx hb dM_frame_9 (by decide) ?_
    exact W.iret (v := (-1)) hx hb hr (fun t ht hW => ⟨_, rfl, rfl, ht⟩) (fun q h => by cases h) dM_frame_10

set_option maxHeartbeats 4000000 in
set_option maxRecDepth 100000 in
theorem c_M_frame_1 (l : Launch) (dC : Nat → ClassId) (dI : Nat → Nat → Nat) (cI cZ cL : ClassId) (q : Nat → Nat) (sz0 : Nat) (kn : Nat → Bool) (co : Nat → Int32) (bo : Nat → Int32) (mn : Nat) (wd : Nat → Nat) (zs : Nat → Nat) (fp : Nat → Int32) (ho : Nat → Int32) (lv : Nat → Int32) (fr : Nat) (so : Nat → Int32) (ea : Nat → Int32) (dn : Nat → Int32) (cd : Nat → Int32) (nx : Nat → Int32) (nd : Nat → Int32) (nc : Nat → Int32) (al : Int32) (wo : Int32) (wh : Int32) (hfr : fr ≤ 14) : Met l yM_frame (Cond.code yM_frame cM_frame 2 (some .int) :: tb) ({ frames := 0, cells := 0, slots := 0, locals := 0 }) (va_Pc [.ref (q 0)] (wt_rw (dC, dI) vwCl [(cI, .int), (cZ, .boolean), (cL, .long)] (wM cI cZ cL q kn co bo mn wd zs fp ho lv fr so ea dn cd nx nd nc al wo wh) sz0)) (va_Qi (fun r (_ : Unit) => r = (nI (fr + 1))) (wt_B (dC, dI) vwCl (va_A (wM cI cZ cL q kn co bo mn wd zs fp ho lv fr so ea dn cd nx nd nc al wo wh) sz0) (wM cI cZ cL q kn co bo mn wd zs fp ho lv (fr + 1) (wt_z12 (12 * fr) so) ea dn cd nx nd nc al wo wh)) (va_A (wM cI cZ cL q kn co bo mn wd zs fp ho lv fr so ea dn cd nx nd nc al wo wh) sz0)) 0 0 (va_A (wM cI cZ cL q kn co bo mn wd zs fp ho lv fr so ea dn cd nx nd nc al wo wh) sz0) := by
  refine Met.ofW (cc := cM_frame) (maxL := 2) (ret := (some .int)) (by decide) rfl ?_
  intro p e s m args below meth c s₁ B hml hv
  obtain ⟨rfl, hsz, hP, hK, hN, hD0⟩ := hv
  have hx := B.exec
  have hb := B.bytes
  have hr := B.returns
  have hts := atoms_spec (ws := (Cond.code yM_frame cM_frame 2 (some .int) :: tb)) B.pre
  have ht : ∀ w ∈ tb, w.before _ s = true := fun w h => hts w (List.mem_cons_of_mem _ h)
  have hown : s.vm.findClass RM = some m.cls := findClass_of_methodNamed B.named
  have hlocks := B.notSynchronized
  subst hsz
  have hD := hD0.self (sz := s.heap.size)
  generalize hAe : va_A (wM cI cZ cL q kn co bo mn wd zs fp ho lv fr so ea dn cd nx nd nc al wo wh) s.heap.size = A at hD ⊢
  have hA : ∀ q : Nat, s.heap.size ≤ q → A q := fun q h => by rw [← hAe]; exact Or.inr h
  clear hAe hD0
  have hS : va_S A s.heap s.heap [] := va_S.rf
  have hl := lv_entry ([.ref (q 0)]) (n := 2) (Nat.le_of_ble_eq_true rfl)
  rw [lg_entry_eq]
  generalize (lg_sl ([.ref (q 0)]) ++ List.replicate (2 - (lg_sl ([.ref (q 0)])).length) Slot.unset).toArray = ls at hl ⊢
  have hl : lv_has ls 2 [(0, .ref (q 0))] := hl
  refine lv_aload_n hx hb dM_frame_0 rfl (lv_at hl 0 rfl) ?_
  refine va_get (D := (dC, dI)) (ci := 5) (v := .int (nI fr)) (C := RM) (T := TM) (N := 20) hx hb ht inM hown hK hP 0 rfl rfl 9 (by decide) (ht _ m_403) (fun _ h9 => h9) rfl dM_frame_1 ?_
  refine lv_bipush (v := nI 15) hx hb dM_frame_4 (by decide) ?_
  refine wt_icmp_ne (tgt := 11) hx hb dM_frame_6 (by decide) (by omega) (by omega) (fun c_1 => ?_) (fun c_1 => ?_)
  · skip
    refine lv_iconst (v := nI 0) hx hb dM_frame_11 (by decide) ?_
    refine lv_istore_n (lv' := [(1, .int (nI 0)), (0, .ref (q 0))]) hx hb dM_frame_12 rfl hl (by decide) rfl (fun ls hl => ?_)
    have LP13 : ∀ (r : Nat) (i : Nat) (sox : Nat → Int32) (hi : i + r = 12) (hE : wt_up (fun i f => upd f (12 * fr + i) (nI 0)) r i sox = wt_z12 (12 * fr) so) (H : Heap) (locs : List Loc) (hP : va_P (dC, dI) vwCl (wM cI cZ cL q kn co bo mn wd zs fp ho lv fr sox ea dn cd nx nd nc al wo wh) H) (hD : va_D A (wM cI cZ cL q kn co bo mn wd zs fp ho lv fr sox ea dn cd nx nd nc al wo wh)) (hS : va_S A s.heap H locs) (ls : Array Slot) (hl : lv_has ls 2 [(0, .ref (q 0)), (1, .int (nI i))]), W p l e (headSpec (Cond.code yM_frame cM_frame 2 (some .int) :: tb) ({ frames := 0, cells := 0, slots := 0, locals := 0 })).room s m ([.ref (q 0)] : List Value).toArray below meth c H locs 0 0 (MQ below (va_Qi (fun r (_ : Unit) => r = (nI (fr + 1))) (wt_B (dC, dI) vwCl A (wM cI cZ cL q kn co bo mn wd zs fp ho lv (fr + 1) (wt_z12 (12 * fr) so) ea dn cd nx nd nc al wo wh)) A) ([.ref (q 0)] : List Value).toArray s 0 0 A) (F0 m 13 ls []) := by
      intro r
      induction r with
      | zero =>
        intro i sox hi hE H locs hP hD hS ls hl
        have hl : lv_has ls 2 [(0, .ref (q 0)), (1, .int (nI i))] := hl
        refine lv_iload_n hx hb dM_frame_13 rfl (lv_at hl 1 rfl) ?_
        refine lv_bipush (v := nI 12) hx hb dM_frame_14 (by decide) ?_
        refine wt_icmp_ge (tgt := 40) hx hb dM_frame_16 (by decide) (by omega) (by omega) (fun c_2 => ?_) (fun c_2 => ?_)
        · skip
          refine lv_aload_n hx hb dM_frame_40 rfl (lv_at hl 0 rfl) ?_
          refine lv_dup hx hb dM_frame_41 rfl ?_
          refine va_get (D := (dC, dI)) (ci := 5) (v := .int (nI fr)) (C := RM) (T := TM) (N := 20) hx hb ht inM hown hK hP 0 rfl rfl 9 (by decide) (ht _ m_403) (fun _ h9 => h9) rfl dM_frame_42 ?_
          refine lv_iconst (v := nI 1) hx hb dM_frame_45 (by decide) ?_
          refine wt_iadd hx hb dM_frame_46 ?_
          refine va_put (D := (dC, dI)) (ci := 5) (v := .int (nI (fr + 1))) (ty := .int) (C := RM) (T := TM) (N := 20) hx hb ht inM tyM tyM_ok nmM hown hK hP hD hS 0 rfl rfl 9 (by decide) (ht _ m_403) (fun _ h9 => h9) rfl (by decide +kernel) rfl rfl (Nat.le_of_ble_eq_true rfl) dM_frame_47 (fun H locs hP hD hS => ?_)
          have hP : va_P (dC, dI) vwCl (wM cI cZ cL q kn co bo mn wd zs fp ho lv (fr + 1) sox ea dn cd nx nd nc al wo wh) H := hP
          have hD : va_D A (wM cI cZ cL q kn co bo mn wd zs fp ho lv (fr + 1) sox ea dn cd nx nd nc al wo wh) := hD
          refine lv_aload_n hx hb dM_frame_50 rfl (lv_at hl 0 rfl) ?_
          refine va_get (D := (dC, dI)) (ci := 5) (v := .int (nI (fr + 1))) (C := RM) (T := TM) (N := 20) hx hb ht inM hown hK hP 0 rfl rfl 9 (by decide) (ht _ m_403) (fun _ h9 => h9) rfl dM_frame_51 ?_
          have hP9 : va_P (dC, dI) vwCl (wM cI cZ cL q kn co bo mn wd zs fp ho lv (fr + 1) (wt_z12 (12 * fr) so) ea dn cd nx nd nc al wo wh) H := by rw [show (wt_z12 (12 * fr) so) = sox from hE.symm]; exact hP
          have hD9 : va_D A (wM cI cZ cL q kn co bo mn wd zs fp ho lv (fr + 1) (wt_z12 (12 * fr) so) ea dn cd nx nd nc al wo wh) := by rw [show (wt_z12 (12 * fr) so) = sox from hE.symm]; exact hD
          exact W.iret (v := nI (fr + 1)) hx hb hr (fun t ht hW => ⟨⟨_, (), rfl, rfl, by rw [ht]; exact hP9, hD9⟩, hS.F ht⟩) hS.2.2 dM_frame_54
        · first | exact absurd c_2 (by omega) | exact absurd c_2 (by decide) | exact absurd (by decide) c_2
      | succ r ih13 =>
        intro i sox hi hE H locs hP hD hS ls hl
        have hl : lv_has ls 2 [(0, .ref (q 0)), (1, .int (nI i))] := hl
        refine lv_iload_n hx hb dM_frame_13 rfl (lv_at hl 1 rfl) ?_
        refine lv_bipush (v := nI 12) hx hb dM_frame_14 (by decide) ?_
        refine wt_icmp_ge (tgt := 40) hx hb dM_frame_16 (by decide) (by omega) (by omega) (fun c_3 => ?_) (fun c_3 => ?_)
        · first | exact absurd c_3 (by omega) | exact absurd c_3 (by decide) | exact absurd (by decide) c_3
        · skip
          refine lv_aload_n hx hb dM_frame_19 rfl (lv_at hl 0 rfl) ?_
          refine va_get (D := (dC, dI)) (ci := 5) (v := .ref (q 9)) (C := RM) (T := TM) (N := 20) hx hb ht inM hown hK hP 0 rfl rfl 10 (by decide) (ht _ m_404) (fun _ h9 => h9) rfl dM_frame_20 ?_
          refine lv_bipush (v := nI 12) hx hb dM_frame_23 (by decide) ?_
          refine lv_aload_n hx hb dM_frame_25 rfl (lv_at hl 0 rfl) ?_
          refine va_get (D := (dC, dI)) (ci := 5) (v := .int (nI fr)) (C := RM) (T := TM) (N := 20) hx hb ht inM hown hK hP 0 rfl rfl 9 (by decide) (ht _ m_403) (fun _ h9 => h9) rfl dM_frame_26 ?_
          refine wt_imul hx hb dM_frame_29 ?_
          refine lv_iload_n hx hb dM_frame_30 rfl (lv_at hl 1 rfl) ?_
          refine wt_iadd hx hb dM_frame_31 ?_
          refine lv_iconst (v := nI 0) hx hb dM_frame_32 (by decide) ?_
          refine wt_iast hx hb hK hP hD hS 9 0 rfl rfl (k := 12 * fr + i) (by omega) (by decide) dM_frame_33 (fun H locs hP hD hS => ?_)
          have hP : va_P (dC, dI) vwCl (wM cI cZ cL q kn co bo mn wd zs fp ho lv fr (upd sox (12 * fr + i) (nI 0)) ea dn cd nx nd nc al wo wh) H := hP
          have hD : va_D A (wM cI cZ cL q kn co bo mn wd zs fp ho lv fr (upd sox (12 * fr + i) (nI 0)) ea dn cd nx nd nc al wo wh) := hD
          refine lv_iinc (v := nI (i + 1)) (lv' := [(1, .int (nI (i + 1))), (0, .ref (q 0))]) hx hb dM_frame_34 hl (k := 1) rfl (wt_inc1 i) (by decide) rfl (fun ls hl => ?_)
          refine lv_goto (tgt := 13) hx hb dM_frame_37 (by decide) ?_
          exact ih13 (i + 1) (upd sox (12 * fr + i) (nI 0)) (by omega) hE _ _ hP hD hS ls (lv_sub hl [1, 0] rfl)
    exact LP13 12 0 so rfl rfl _ _ hP hD hS ls (lv_sub hl [1, 0] rfl)
  · exact absurd c_1 (by omega)

set_option maxHeartbeats 4000000 in
set_option maxRecDepth 100000 in
theorem c_M_drop_0 (l : Launch) (dC : Nat → ClassId) (dI : Nat → Nat → Nat) (cI cZ cL : ClassId) (q : Nat → Nat) (kn : Nat → Bool) (co : Nat → Int32) (bo : Nat → Int32) (mn : Nat) (wd : Nat → Nat) (zs : Nat → Nat) (fp : Nat → Int32) (ho : Nat → Int32) (lv : Nat → Int32) (fr : Nat) (so : Nat → Int32) (ea : Nat → Int32) (dn : Nat → Int32) (cd : Nat → Int32) (nx : Nat → Int32) (nd : Nat → Int32) (nc : Nat → Int32) (al : Int32) (wo : Int32) (wh : Int32) (hfr : fr = 0) : Met l yM_drop (Cond.code yM_drop cM_drop 1 (some .boolean) :: tb) ({ frames := 0, cells := 0, slots := 0, locals := 0 }) (va_Pc [.ref (q 0)] (wt_ro (dC, dI) vwCl [(cI, .int), (cZ, .boolean), (cL, .long)] (wM cI cZ cL q kn co bo mn wd zs fp ho lv fr so ea dn cd nx nd nc al wo wh))) (vp_Si (fun r => r = (nI 0))) 0 0 (fun _ => False) := by
  refine Met.ofW (cc := cM_drop) (maxL := 1) (ret := (some .boolean)) (by decide) rfl ?_
  intro p e s m args below meth c s₁ B hml hv
  obtain ⟨rfl, hP, hK, hN⟩ := hv
  have hx := B.exec
  have hb := B.bytes
  have hr := B.returns
  have hts := atoms_spec (ws := (Cond.code yM_drop cM_drop 1 (some .boolean) :: tb)) B.pre
  have ht : ∀ w ∈ tb, w.before _ s = true := fun w h => hts w (List.mem_cons_of_mem _ h)
  have hown : s.vm.findClass RM = some m.cls := findClass_of_methodNamed B.named
  have hlocks := B.notSynchronized
  have hl := lv_entry ([.ref (q 0)]) (n := 1) (Nat.le_of_ble_eq_true rfl)
  rw [lg_entry_eq]
  generalize (lg_sl ([.ref (q 0)]) ++ List.replicate (1 - (lg_sl ([.ref (q 0)])).length) Slot.unset).toArray = ls at hl ⊢
  have hl : lv_has ls 1 [(0, .ref (q 0))] := hl
  refine lv_aload_n hx hb dM_drop_0 rfl (lv_at hl 0 rfl) ?_
  refine va_get (D := (dC, dI)) (ci := 5) (v := .int (nI fr)) (C := RM) (T := TM) (N := 20) hx hb ht inM hown hK hP 0 rfl rfl 9 (by decide) (ht _ m_403) (fun _ h9 => h9) rfl dM_drop_1 ?_
  refine wt_if_ne (tgt := 9) hx hb dM_drop_4 (by decide) (by omega) (fun c_1 => ?_) (fun c_1 => ?_)
  · exact absurd c_1 (by omega)
  · skip
    refine lv_iconst (v := nI 0) hx hb dM_drop_7 (by decide) ?_
    exact W.zret (v := nI 0) hx hb hr rfl (fun t ht hW => ⟨_, rfl, rfl, ht⟩) (fun q h => by cases h) dM_drop_8

set_option maxHeartbeats 4000000 in
set_option maxRecDepth 100000 in
theorem c_M_drop_1 (l : Launch) (dC : Nat → ClassId) (dI : Nat → Nat → Nat) (cI cZ cL : ClassId) (q : Nat → Nat) (sz0 : Nat) (kn : Nat → Bool) (co : Nat → Int32) (bo : Nat → Int32) (mn : Nat) (wd : Nat → Nat) (zs : Nat → Nat) (fp : Nat → Int32) (ho : Nat → Int32) (lv : Nat → Int32) (fr : Nat) (so : Nat → Int32) (ea : Nat → Int32) (dn : Nat → Int32) (cd : Nat → Int32) (nx : Nat → Int32) (nd : Nat → Int32) (nc : Nat → Int32) (al : Int32) (wo : Int32) (wh : Int32) (hfr : 1 ≤ fr) (hfr5 : fr ≤ 15) : Met l yM_drop (Cond.code yM_drop cM_drop 1 (some .boolean) :: tb) ({ frames := 0, cells := 0, slots := 0, locals := 0 }) (va_Pc [.ref (q 0)] (wt_rw (dC, dI) vwCl [(cI, .int), (cZ, .boolean), (cL, .long)] (wM cI cZ cL q kn co bo mn wd zs fp ho lv fr so ea dn cd nx nd nc al wo wh) sz0)) (va_Qi (fun r (_ : Unit) => r = (nI 1)) (wt_B (dC, dI) vwCl (va_A (wM cI cZ cL q kn co bo mn wd zs fp ho lv fr so ea dn cd nx nd nc al wo wh) sz0) (wM cI cZ cL q kn co bo mn wd zs fp ho lv (fr - 1) so ea dn cd nx nd nc al wo wh)) (va_A (wM cI cZ cL q kn co bo mn wd zs fp ho lv fr so ea dn cd nx nd nc al wo wh) sz0)) 0 0 (va_A (wM cI cZ cL q kn co bo mn wd zs fp ho lv fr so ea dn cd nx nd nc al wo wh) sz0) := by
  refine Met.ofW (cc := cM_drop) (maxL := 1) (ret := (some .boolean)) (by decide) rfl ?_
  intro p e s m args below meth c s₁ B hml hv
  obtain ⟨rfl, hsz, hP, hK, hN, hD0⟩ := hv
  have hx := B.exec
  have hb := B.bytes
  have hr := B.returns
  have hts := atoms_spec (ws := (Cond.code yM_drop cM_drop 1 (some .boolean) :: tb)) B.pre
  have ht : ∀ w ∈ tb, w.before _ s = true := fun w h => hts w (List.mem_cons_of_mem _ h)
  have hown : s.vm.findClass RM = some m.cls := findClass_of_methodNamed B.named
  have hlocks := B.notSynchronized
  subst hsz
  have hD := hD0.self (sz := s.heap.size)
  generalize hAe : va_A (wM cI cZ cL q kn co bo mn wd zs fp ho lv fr so ea dn cd nx nd nc al wo wh) s.heap.size = A at hD ⊢
  have hA : ∀ q : Nat, s.heap.size ≤ q → A q := fun q h => by rw [← hAe]; exact Or.inr h
  clear hAe hD0
  have hS : va_S A s.heap s.heap [] := va_S.rf
  have hl := lv_entry ([.ref (q 0)]) (n := 1) (Nat.le_of_ble_eq_true rfl)
  rw [lg_entry_eq]
  generalize (lg_sl ([.ref (q 0)]) ++ List.replicate (1 - (lg_sl ([.ref (q 0)])).length) Slot.unset).toArray = ls at hl ⊢
  have hl : lv_has ls 1 [(0, .ref (q 0))] := hl
  refine lv_aload_n hx hb dM_drop_0 rfl (lv_at hl 0 rfl) ?_
  refine va_get (D := (dC, dI)) (ci := 5) (v := .int (nI fr)) (C := RM) (T := TM) (N := 20) hx hb ht inM hown hK hP 0 rfl rfl 9 (by decide) (ht _ m_403) (fun _ h9 => h9) rfl dM_drop_1 ?_
  refine wt_if_ne (tgt := 9) hx hb dM_drop_4 (by decide) (by omega) (fun c_1 => ?_) (fun c_1 => ?_)
  · skip
    refine lv_aload_n hx hb dM_drop_9 rfl (lv_at hl 0 rfl) ?_
    refine lv_dup hx hb dM_drop_10 rfl ?_
    refine va_get (D := (dC, dI)) (ci := 5) (v := .int (nI fr)) (C := RM) (T := TM) (N := 20) hx hb ht inM hown hK hP 0 rfl rfl 9 (by decide) (ht _ m_403) (fun _ h9 => h9) rfl dM_drop_11 ?_
    refine lv_iconst (v := nI 1) hx hb dM_drop_14 (by decide) ?_
    refine wt_isub hx hb dM_drop_15 (by omega) ?_
    refine va_put (D := (dC, dI)) (ci := 5) (v := .int (nI (fr - 1))) (ty := .int) (C := RM) (T := TM) (N := 20) hx hb ht inM tyM tyM_ok nmM hown hK hP hD hS 0 rfl rfl 9 (by decide) (ht _ m_403) (fun _ h9 => h9) rfl (by decide +kernel) rfl rfl (Nat.le_of_ble_eq_true rfl) dM_drop_16 (fun H locs hP hD hS => ?_)
    have hP : va_P (dC, dI) vwCl (wM cI cZ cL q kn co bo mn wd zs fp ho lv (fr - 1) so ea dn cd nx nd nc al wo wh) H := hP
    have hD : va_D A (wM cI cZ cL q kn co bo mn wd zs fp ho lv (fr - 1) so ea dn cd nx nd nc al wo wh) := hD
    refine lv_iconst (v := nI 1) hx hb dM_drop_19 (by decide) ?_
    have hP9 : va_P (dC, dI) vwCl (wM cI cZ cL q kn co bo mn wd zs fp ho lv (fr - 1) so ea dn cd nx nd nc al wo wh) H := by exact hP
    have hD9 : va_D A (wM cI cZ cL q kn co bo mn wd zs fp ho lv (fr - 1) so ea dn cd nx nd nc al wo wh) := by exact hD
    exact W.zret (v := nI 1) hx hb hr rfl (fun t ht hW => ⟨⟨_, (), rfl, rfl, by rw [ht]; exact hP9, hD9⟩, hS.F ht⟩) hS.2.2 dM_drop_20
  · exact absurd c_1 (by omega)

set_option maxHeartbeats 4000000 in
set_option maxRecDepth 100000 in
theorem c_M_sound_0 (l : Launch) (dC : Nat → ClassId) (dI : Nat → Nat → Nat) (cI cZ cL : ClassId) (q : Nat → Nat) (kn : Nat → Bool) (co : Nat → Int32) (bo : Nat → Int32) (mn : Nat) (wd : Nat → Nat) (zs : Nat → Nat) (fp : Nat → Int32) (ho : Nat → Int32) (lv : Nat → Int32) (fr : Nat) (so : Nat → Int32) (ea : Nat → Int32) (dn : Nat → Int32) (cd : Nat → Int32) (nx : Nat → Int32) (nd : Nat → Int32) (nc : Nat → Int32) (al : Int32) (wo : Int32) (wh : Int32) (tt : Int32) (pp : Int32) (ss : Int32) (c0 : Int32) (hbad : (decide (¬ wt_rng tt fr = 0) && (decide (¬ wt_rng pp 4 = 0) && (decide (¬ wt_rng ss 3 = 0) && decide (¬ wt_rng c0 10000 = 0)))) = false) (hfr : fr ≤ 15) : Met l yM_sound (Cond.code yM_sound cM_sound 5 (some .boolean) :: tb) ({ frames := 1, cells := 0, slots := 0, locals := 21 }) (va_Pc [.ref (q 0), .int tt, .int pp, .int ss, .int c0] (wt_ro (dC, dI) vwCl [(cI, .int), (cZ, .boolean), (cL, .long)] (wM cI cZ cL q kn co bo mn wd zs fp ho lv fr so ea dn cd nx nd nc al wo wh))) (vp_Si (fun r => r = (nI 0))) 0 0 (fun _ => False) := by
  refine Met.ofW (cc := cM_sound) (maxL := 5) (ret := (some .boolean)) (by decide) rfl ?_
  intro p e s m args below meth c s₁ B hml hv
  obtain ⟨rfl, hP, hK, hN⟩ := hv
  have hx := B.exec
  have hb := B.bytes
  have hr := B.returns
  have hts := atoms_spec (ws := (Cond.code yM_sound cM_sound 5 (some .boolean) :: tb)) B.pre
  have ht : ∀ w ∈ tb, w.before _ s = true := fun w h => hts w (List.mem_cons_of_mem _ h)
  have hown : s.vm.findClass RM = some m.cls := findClass_of_methodNamed B.named
  have hlocks := B.notSynchronized
  have hl := lv_entry ([.ref (q 0), .int tt, .int pp, .int ss, .int c0]) (n := 5) (Nat.le_of_ble_eq_true rfl)
  rw [lg_entry_eq]
  generalize (lg_sl ([.ref (q 0), .int tt, .int pp, .int ss, .int c0]) ++ List.replicate (5 - (lg_sl ([.ref (q 0), .int tt, .int pp, .int ss, .int c0])).length) Slot.unset).toArray = ls at hl ⊢
  have hl : lv_has ls 5 [(0, .ref (q 0)), (1, .int tt), (2, .int pp), (3, .int ss), (4, .int c0)] := hl
  refine lv_iload_n hx hb dM_sound_0 rfl (lv_at hl 1 rfl) ?_
  refine lv_if_lt (tgt := 39) hx hb dM_sound_1 (by decide) (fun c_1 => ?_) (fun c_1 => ?_)
  · skip
    refine lv_iconst (v := nI 0) hx hb dM_sound_39 (by decide) ?_
    exact W.zret (v := nI 0) hx hb hr rfl (fun t ht hW => ⟨_, rfl, rfl, ht⟩) (fun q h => by cases h) dM_sound_40
  · skip
    refine lv_iload_n hx hb dM_sound_4 rfl (lv_at hl 1 rfl) ?_
    refine lv_aload_n hx hb dM_sound_5 rfl (lv_at hl 0 rfl) ?_
    refine va_get (D := (dC, dI)) (ci := 5) (v := .int (nI fr)) (C := RM) (T := TM) (N := 20) hx hb ht inM hown hK hP 0 rfl rfl 9 (by decide) (ht _ m_403) (fun _ h9 => h9) rfl dM_sound_6 ?_
    refine lv_icmp_ge (tgt := 39) hx hb dM_sound_9 (by decide) (fun c_2 => ?_) (fun c_2 => ?_)
    · skip
      refine lv_iconst (v := nI 0) hx hb dM_sound_39 (by decide) ?_
      exact W.zret (v := nI 0) hx hb hr rfl (fun t ht hW => ⟨_, rfl, rfl, ht⟩) (fun q h => by cases h) dM_sound_40
    · skip
      refine lv_iload_n hx hb dM_sound_12 rfl (lv_at hl 2 rfl) ?_
      refine lv_iconst (v := nI 3) hx hb dM_sound_13 (by decide) ?_
      refine wt_roi (va_runS (As := [.int pp, .int (nI 3)]) (rest := []) ⟨hx, hb, hml, hown, ht⟩ (c_M_up_3 l dC dI cI cZ cL pp) (va_cwS 2 ht (good_S m_471 m_472 m_7 m_473) rfl rfl rfl (by decide +kernel) ⟨Nat.le_of_ble_eq_true rfl, Nat.le_of_ble_eq_true rfl⟩) (wt_preS hK hN (hP.sub [] rfl)) rfl rfl hl.1 rfl (lv_room (Nat.le_of_ble_eq_true rfl)) dM_sound_14 ⟨Nat.le_of_ble_eq_true rfl, Nat.le_of_ble_eq_true rfl⟩) ?_
      refine lv_if_eq (tgt := 39) hx hb dM_sound_17 (by decide) (fun c_3 => ?_) (fun c_3 => ?_)
      · skip
        refine lv_iconst (v := nI 0) hx hb dM_sound_39 (by decide) ?_
        exact W.zret (v := nI 0) hx hb hr rfl (fun t ht hW => ⟨_, rfl, rfl, ht⟩) (fun q h => by cases h) dM_sound_40
      · skip
        refine lv_iload_n hx hb dM_sound_20 rfl (lv_at hl 3 rfl) ?_
        refine lv_iconst (v := nI 2) hx hb dM_sound_21 (by decide) ?_
        refine wt_roi (va_runS (As := [.int ss, .int (nI 2)]) (rest := []) ⟨hx, hb, hml, hown, ht⟩ (c_M_up_2 l dC dI cI cZ cL ss) (va_cwS 2 ht (good_S m_471 m_472 m_7 m_473) rfl rfl rfl (by decide +kernel) ⟨Nat.le_of_ble_eq_true rfl, Nat.le_of_ble_eq_true rfl⟩) (wt_preS hK hN (hP.sub [] rfl)) rfl rfl hl.1 rfl (lv_room (Nat.le_of_ble_eq_true rfl)) dM_sound_22 ⟨Nat.le_of_ble_eq_true rfl, Nat.le_of_ble_eq_true rfl⟩) ?_
        refine lv_if_eq (tgt := 39) hx hb dM_sound_25 (by decide) (fun c_4 => ?_) (fun c_4 => ?_)
        · skip
          refine lv_iconst (v := nI 0) hx hb dM_sound_39 (by decide) ?_
          exact W.zret (v := nI 0) hx hb hr rfl (fun t ht hW => ⟨_, rfl, rfl, ht⟩) (fun q h => by cases h) dM_sound_40
        · skip
          refine lv_iload hx hb dM_sound_28 (lv_at hl 4 rfl) ?_
          refine lv_sipush (v := nI 9999) hx hb dM_sound_30 (by decide) ?_
          refine wt_roi (va_runS (As := [.int c0, .int (nI 9999)]) (rest := []) ⟨hx, hb, hml, hown, ht⟩ (c_M_up_9999 l dC dI cI cZ cL c0) (va_cwS 2 ht (good_S m_471 m_472 m_7 m_473) rfl rfl rfl (by decide +kernel) ⟨Nat.le_of_ble_eq_true rfl, Nat.le_of_ble_eq_true rfl⟩) (wt_preS hK hN (hP.sub [] rfl)) rfl rfl hl.1 rfl (lv_room (Nat.le_of_ble_eq_true rfl)) dM_sound_33 ⟨Nat.le_of_ble_eq_true rfl, Nat.le_of_ble_eq_true rfl⟩) ?_
          refine lv_if_ne (tgt := 41) hx hb dM_sound_36 (by decide) (fun c_5 => ?_) (fun c_5 => ?_)
          · exact absurd hbad (by rw [show wt_rng tt fr = 1 from (wt_r1b c_1 c_2 (by omega)).symm.trans wt_nI1]; simp [c_3, c_4, c_5])
          · skip
            refine lv_iconst (v := nI 0) hx hb dM_sound_39 (by decide) ?_
            exact W.zret (v := nI 0) hx hb hr rfl (fun t ht hW => ⟨_, rfl, rfl, ht⟩) (fun q h => by cases h) dM_sound_40

set_option maxHeartbeats 4000000 in
set_option maxRecDepth 100000 in
theorem c_M_sound_1 (l : Launch) (dC : Nat → ClassId) (dI : Nat → Nat → Nat) (cI cZ cL : ClassId) (q : Nat → Nat) (sz0 : Nat) (kn : Nat → Bool) (co : Nat → Int32) (bo : Nat → Int32) (mn : Nat) (wd : Nat → Nat) (zs : Nat → Nat) (fp : Nat → Int32) (ho : Nat → Int32) (lv : Nat → Int32) (fr : Nat) (so : Nat → Int32) (ea : Nat → Int32) (dn : Nat → Int32) (cd : Nat → Int32) (nx : Nat → Int32) (nd : Nat → Int32) (nc : Nat → Int32) (al : Int32) (wo : Int32) (wh : Int32) (tt : Nat) (pp : Nat) (ss : Nat) (c0 : Int32) (htt : tt < fr) (hfr : fr ≤ 15) (hpp : pp < 4) (hss : ss < 3) (hc0 : ¬ wt_rng c0 10000 = 0) : Met l yM_sound (Cond.code yM_sound cM_sound 5 (some .boolean) :: tb) ({ frames := 1, cells := 0, slots := 0, locals := 21 }) (va_Pc [.ref (q 0), .int (nI tt), .int (nI pp), .int (nI ss), .int c0] (wt_rw (dC, dI) vwCl [(cI, .int), (cZ, .boolean), (cL, .long)] (wM cI cZ cL q kn co bo mn wd zs fp ho lv fr so ea dn cd nx nd nc al wo wh) sz0)) (va_Qi (fun r (_ : Unit) => r = (nI 1)) (wt_B (dC, dI) vwCl (va_A (wM cI cZ cL q kn co bo mn wd zs fp ho lv fr so ea dn cd nx nd nc al wo wh) sz0) (wM cI cZ cL q kn co bo mn wd zs fp ho lv fr (upd so (12 * tt + 3 * pp + ss) c0) ea dn cd nx nd nc al wo wh)) (va_A (wM cI cZ cL q kn co bo mn wd zs fp ho lv fr so ea dn cd nx nd nc al wo wh) sz0)) 0 0 (va_A (wM cI cZ cL q kn co bo mn wd zs fp ho lv fr so ea dn cd nx nd nc al wo wh) sz0) := by
  refine Met.ofW (cc := cM_sound) (maxL := 5) (ret := (some .boolean)) (by decide) rfl ?_
  intro p e s m args below meth c s₁ B hml hv
  obtain ⟨rfl, hsz, hP, hK, hN, hD0⟩ := hv
  have hx := B.exec
  have hb := B.bytes
  have hr := B.returns
  have hts := atoms_spec (ws := (Cond.code yM_sound cM_sound 5 (some .boolean) :: tb)) B.pre
  have ht : ∀ w ∈ tb, w.before _ s = true := fun w h => hts w (List.mem_cons_of_mem _ h)
  have hown : s.vm.findClass RM = some m.cls := findClass_of_methodNamed B.named
  have hlocks := B.notSynchronized
  subst hsz
  have hD := hD0.self (sz := s.heap.size)
  generalize hAe : va_A (wM cI cZ cL q kn co bo mn wd zs fp ho lv fr so ea dn cd nx nd nc al wo wh) s.heap.size = A at hD ⊢
  have hA : ∀ q : Nat, s.heap.size ≤ q → A q := fun q h => by rw [← hAe]; exact Or.inr h
  clear hAe hD0
  have hS : va_S A s.heap s.heap [] := va_S.rf
  have hl := lv_entry ([.ref (q 0), .int (nI tt), .int (nI pp), .int (nI ss), .int c0]) (n := 5) (Nat.le_of_ble_eq_true rfl)
  rw [lg_entry_eq]
  generalize (lg_sl ([.ref (q 0), .int (nI tt), .int (nI pp), .int (nI ss), .int c0]) ++ List.replicate (5 - (lg_sl ([.ref (q 0), .int (nI tt), .int (nI pp), .int (nI ss), .int c0])).length) Slot.unset).toArray = ls at hl ⊢
  have hl : lv_has ls 5 [(0, .ref (q 0)), (1, .int (nI tt)), (2, .int (nI pp)), (3, .int (nI ss)), (4, .int c0)] := hl
  refine lv_iload_n hx hb dM_sound_0 rfl (lv_at hl 1 rfl) ?_
  refine wt_if_lt (tgt := 39) hx hb dM_sound_1 (by decide) (by omega) ?_
  refine lv_iload_n hx hb dM_sound_4 rfl (lv_at hl 1 rfl) ?_
  refine lv_aload_n hx hb dM_sound_5 rfl (lv_at hl 0 rfl) ?_
  refine va_get (D := (dC, dI)) (ci := 5) (v := .int (nI fr)) (C := RM) (T := TM) (N := 20) hx hb ht inM hown hK hP 0 rfl rfl 9 (by decide) (ht _ m_403) (fun _ h9 => h9) rfl dM_sound_6 ?_
  refine wt_icmp_ge (tgt := 39) hx hb dM_sound_9 (by decide) (by omega) (by omega) (fun c_2 => ?_) (fun c_2 => ?_)
  · exact absurd c_2 (by omega)
  · skip
    refine lv_iload_n hx hb dM_sound_12 rfl (lv_at hl 2 rfl) ?_
    refine lv_iconst (v := nI 3) hx hb dM_sound_13 (by decide) ?_
    refine wt_roi (va_runS (As := [.int (nI pp), .int (nI 3)]) (rest := []) ⟨hx, hb, hml, hown, ht⟩ (c_M_up_3 l dC dI cI cZ cL (nI pp)) (va_cwS 2 ht (good_S m_471 m_472 m_7 m_473) rfl rfl rfl (by decide +kernel) ⟨Nat.le_of_ble_eq_true rfl, Nat.le_of_ble_eq_true rfl⟩) (wt_preS hK hN (hP.sub [] rfl)) rfl rfl hl.1 rfl (lv_room (Nat.le_of_ble_eq_true rfl)) dM_sound_14 ⟨Nat.le_of_ble_eq_true rfl, Nat.le_of_ble_eq_true rfl⟩) ?_
    refine lv_if_eq (tgt := 39) hx hb dM_sound_17 (by decide) (fun c_3 => ?_) (fun c_3 => ?_)
    · exact absurd c_3 (wt_rn hpp (by decide))
    · skip
      refine lv_iload_n hx hb dM_sound_20 rfl (lv_at hl 3 rfl) ?_
      refine lv_iconst (v := nI 2) hx hb dM_sound_21 (by decide) ?_
      refine wt_roi (va_runS (As := [.int (nI ss), .int (nI 2)]) (rest := []) ⟨hx, hb, hml, hown, ht⟩ (c_M_up_2 l dC dI cI cZ cL (nI ss)) (va_cwS 2 ht (good_S m_471 m_472 m_7 m_473) rfl rfl rfl (by decide +kernel) ⟨Nat.le_of_ble_eq_true rfl, Nat.le_of_ble_eq_true rfl⟩) (wt_preS hK hN (hP.sub [] rfl)) rfl rfl hl.1 rfl (lv_room (Nat.le_of_ble_eq_true rfl)) dM_sound_22 ⟨Nat.le_of_ble_eq_true rfl, Nat.le_of_ble_eq_true rfl⟩) ?_
      refine lv_if_eq (tgt := 39) hx hb dM_sound_25 (by decide) (fun c_4 => ?_) (fun c_4 => ?_)
      · exact absurd c_4 (wt_rn hss (by decide))
      · skip
        refine lv_iload hx hb dM_sound_28 (lv_at hl 4 rfl) ?_
        refine lv_sipush (v := nI 9999) hx hb dM_sound_30 (by decide) ?_
        refine wt_roi (va_runS (As := [.int c0, .int (nI 9999)]) (rest := []) ⟨hx, hb, hml, hown, ht⟩ (c_M_up_9999 l dC dI cI cZ cL c0) (va_cwS 2 ht (good_S m_471 m_472 m_7 m_473) rfl rfl rfl (by decide +kernel) ⟨Nat.le_of_ble_eq_true rfl, Nat.le_of_ble_eq_true rfl⟩) (wt_preS hK hN (hP.sub [] rfl)) rfl rfl hl.1 rfl (lv_room (Nat.le_of_ble_eq_true rfl)) dM_sound_33 ⟨Nat.le_of_ble_eq_true rfl, Nat.le_of_ble_eq_true rfl⟩) ?_
        refine lv_if_ne (tgt := 41) hx hb dM_sound_36 (by decide) (fun c_5 => ?_) (fun c_5 => ?_)
        · skip
          refine lv_aload_n hx hb dM_sound_41 rfl (lv_at hl 0 rfl) ?_
          refine va_get (D := (dC, dI)) (ci := 5) (v := .ref (q 9)) (C := RM) (T := TM) (N := 20) hx hb ht inM hown hK hP 0 rfl rfl 10 (by decide) (ht _ m_404) (fun _ h9 => h9) rfl dM_sound_42 ?_
          refine lv_bipush (v := nI 12) hx hb dM_sound_45 (by decide) ?_
          refine lv_iload_n hx hb dM_sound_47 rfl (lv_at hl 1 rfl) ?_
          refine wt_imul hx hb dM_sound_48 ?_
          refine lv_iconst (v := nI 3) hx hb dM_sound_49 (by decide) ?_
          refine lv_iload_n hx hb dM_sound_50 rfl (lv_at hl 2 rfl) ?_
          refine wt_imul hx hb dM_sound_51 ?_
          refine wt_iadd hx hb dM_sound_52 ?_
          refine lv_iload_n hx hb dM_sound_53 rfl (lv_at hl 3 rfl) ?_
          refine wt_iadd hx hb dM_sound_54 ?_
          refine lv_iload hx hb dM_sound_55 (lv_at hl 4 rfl) ?_
          refine wt_iast hx hb hK hP hD hS 9 0 rfl rfl (k := 12 * tt + 3 * pp + ss) (by omega) (by decide) dM_sound_57 (fun H locs hP hD hS => ?_)
          have hP : va_P (dC, dI) vwCl (wM cI cZ cL q kn co bo mn wd zs fp ho lv fr (upd so (12 * tt + 3 * pp + ss) c0) ea dn cd nx nd nc al wo wh) H := hP
          have hD : va_D A (wM cI cZ cL q kn co bo mn wd zs fp ho lv fr (upd so (12 * tt + 3 * pp + ss) c0) ea dn cd nx nd nc al wo wh) := hD
          refine lv_iconst (v := nI 1) hx hb dM_sound_58 (by decide) ?_
          have hP9 : va_P (dC, dI) vwCl (wM cI cZ cL q kn co bo mn wd zs fp ho lv fr (upd so (12 * tt + 3 * pp + ss) c0) ea dn cd nx nd nc al wo wh) H := by exact hP
          have hD9 : va_D A (wM cI cZ cL q kn co bo mn wd zs fp ho lv fr (upd so (12 * tt + 3 * pp + ss) c0) ea dn cd nx nd nc al wo wh) := by exact hD
          exact W.zret (v := nI 1) hx hb hr rfl (fun t ht hW => ⟨⟨_, (), rfl, rfl, by rw [ht]; exact hP9, hD9⟩, hS.F ht⟩) hS.2.2 dM_sound_59
        · exact absurd c_5 hc0

set_option maxHeartbeats 4000000 in
set_option maxRecDepth 100000 in
theorem c_M_say_0 (l : Launch) (dC : Nat → ClassId) (dI : Nat → Nat → Nat) (cI cZ cL : ClassId) (q : Nat → Nat) (kn : Nat → Bool) (co : Nat → Int32) (bo : Nat → Int32) (mn : Nat) (wd : Nat → Nat) (zs : Nat → Nat) (fp : Nat → Int32) (ho : Nat → Int32) (lv : Nat → Int32) (fr : Nat) (so : Nat → Int32) (ea : Nat → Int32) (dn : Nat → Int32) (cd : Nat → Int32) (nx : Nat → Int32) (nd : Nat → Int32) (nc : Nat → Int32) (al : Int32) (wo : Int32) (wh : Int32) (ww : Int32) (pp : Int32) (qq : Int32) (rr : Int32) (hbad : wt_gd ww pp qq rr = false) (hmn : mn ≤ 8) : Met l yM_say (Cond.code yM_say cM_say 7 (some .int) :: tb) ({ frames := 1, cells := 0, slots := 0, locals := 21 }) (va_Pc [.ref (q 0), .int ww, .int pp, .int qq, .int rr] (wt_ro (dC, dI) vwCl [(cI, .int), (cZ, .boolean), (cL, .long)] (wM cI cZ cL q kn co bo mn wd zs fp ho lv fr so ea dn cd nx nd nc al wo wh))) (vp_Si (fun r => r = (-1))) 0 0 (fun _ => False) := by
  refine Met.ofW (cc := cM_say) (maxL := 7) (ret := (some .int)) (by decide) rfl ?_
  intro p e s m args below meth c s₁ B hml hv
  obtain ⟨rfl, hP, hK, hN⟩ := hv
  have hx := B.exec
  have hb := B.bytes
  have hr := B.returns
  have hts := atoms_spec (ws := (Cond.code yM_say cM_say 7 (some .int) :: tb)) B.pre
  have ht : ∀ w ∈ tb, w.before _ s = true := fun w h => hts w (List.mem_cons_of_mem _ h)
  have hown : s.vm.findClass RM = some m.cls := findClass_of_methodNamed B.named
  have hlocks := B.notSynchronized
  have hl := lv_entry ([.ref (q 0), .int ww, .int pp, .int qq, .int rr]) (n := 7) (Nat.le_of_ble_eq_true rfl)
  rw [lg_entry_eq]
  generalize (lg_sl ([.ref (q 0), .int ww, .int pp, .int qq, .int rr]) ++ List.replicate (7 - (lg_sl ([.ref (q 0), .int ww, .int pp, .int qq, .int rr])).length) Slot.unset).toArray = ls at hl ⊢
  have hl : lv_has ls 7 [(0, .ref (q 0)), (1, .int ww), (2, .int pp), (3, .int qq), (4, .int rr)] := hl
  refine lv_iload_n hx hb dM_say_0 rfl (lv_at hl 1 rfl) ?_
  refine lv_iconst (v := nI 3) hx hb dM_say_1 (by decide) ?_
  refine wt_roi (va_runS (As := [.int ww, .int (nI 3)]) (rest := []) ⟨hx, hb, hml, hown, ht⟩ (c_M_up_3 l dC dI cI cZ cL ww) (va_cwS 2 ht (good_S m_471 m_472 m_7 m_473) rfl rfl rfl (by decide +kernel) ⟨Nat.le_of_ble_eq_true rfl, Nat.le_of_ble_eq_true rfl⟩) (wt_preS hK hN (hP.sub [] rfl)) rfl rfl hl.1 rfl (lv_room (Nat.le_of_ble_eq_true rfl)) dM_say_2 ⟨Nat.le_of_ble_eq_true rfl, Nat.le_of_ble_eq_true rfl⟩) ?_
  refine lv_if_eq (tgt := 53) hx hb dM_say_5 (by decide) (fun c_1 => ?_) (fun c_1 => ?_)
  · skip
    refine lv_iconst (v := nI 0) hx hb dM_say_53 (by decide) ?_
    refine lv_istore (lv' := [(5, .int (nI 0)), (0, .ref (q 0)), (1, .int ww), (2, .int pp), (3, .int qq), (4, .int rr)]) hx hb dM_say_54 hl (by decide) rfl (fun ls hl => ?_)
    refine lv_iload hx hb dM_say_56 (lv_at hl 0 rfl) ?_
    refine wt_if_eq (tgt := 70) hx hb dM_say_58 (by decide) (by omega) (fun c_2 => ?_) (fun c_2 => ?_)
    · skip
      refine lv_iconst (v := (-1)) hx hb dM_say_70 (by decide) ?_
      exact W.iret (v := (-1)) hx hb hr (fun t ht hW => ⟨_, rfl, rfl, ht⟩) (fun q h => by cases h) dM_say_71
    · exact absurd c_2 (by decide)
  · skip
    refine lv_iload_n hx hb dM_say_8 rfl (lv_at hl 2 rfl) ?_
    refine lv_iconst (v := nI 3) hx hb dM_say_9 (by decide) ?_
    refine wt_roi (va_runS (As := [.int pp, .int (nI 3)]) (rest := []) ⟨hx, hb, hml, hown, ht⟩ (c_M_up_3 l dC dI cI cZ cL pp) (va_cwS 2 ht (good_S m_471 m_472 m_7 m_473) rfl rfl rfl (by decide +kernel) ⟨Nat.le_of_ble_eq_true rfl, Nat.le_of_ble_eq_true rfl⟩) (wt_preS hK hN (hP.sub [] rfl)) rfl rfl hl.1 rfl (lv_room (Nat.le_of_ble_eq_true rfl)) dM_say_10 ⟨Nat.le_of_ble_eq_true rfl, Nat.le_of_ble_eq_true rfl⟩) ?_
    refine lv_if_eq (tgt := 53) hx hb dM_say_13 (by decide) (fun c_3 => ?_) (fun c_3 => ?_)
    · skip
      refine lv_iconst (v := nI 0) hx hb dM_say_53 (by decide) ?_
      refine lv_istore (lv' := [(5, .int (nI 0)), (0, .ref (q 0)), (1, .int ww), (2, .int pp), (3, .int qq), (4, .int rr)]) hx hb dM_say_54 hl (by decide) rfl (fun ls hl => ?_)
      refine lv_iload hx hb dM_say_56 (lv_at hl 0 rfl) ?_
      refine wt_if_eq (tgt := 70) hx hb dM_say_58 (by decide) (by omega) (fun c_4 => ?_) (fun c_4 => ?_)
      · skip
        refine lv_iconst (v := (-1)) hx hb dM_say_70 (by decide) ?_
        exact W.iret (v := (-1)) hx hb hr (fun t ht hW => ⟨_, rfl, rfl, ht⟩) (fun q h => by cases h) dM_say_71
      · exact absurd c_4 (by decide)
    · skip
      refine lv_iload_n hx hb dM_say_16 rfl (lv_at hl 3 rfl) ?_
      refine lv_iconst (v := (-1)) hx hb dM_say_17 (by decide) ?_
      refine lv_icmp_eq (tgt := 29) hx hb dM_say_18 (by decide) (fun c_5 => ?_) (fun c_5 => ?_)
      · skip
        refine lv_iload hx hb dM_say_29 (lv_at hl 4 rfl) ?_
        refine lv_iconst (v := (-1)) hx hb dM_say_31 (by decide) ?_
        refine lv_icmp_eq (tgt := 49) hx hb dM_say_32 (by decide) (fun c_6 => ?_) (fun c_6 => ?_)
        · first | exact absurd c_1 c_3 | exact absurd c_1 c_5 | exact absurd c_1 c_6 | exact absurd c_3 c_1 | exact absurd c_3 c_5 | exact absurd c_3 c_6 | exact absurd c_5 c_1 | exact absurd c_5 c_3 | exact absurd c_5 c_6 | exact absurd c_6 c_1 | exact absurd c_6 c_3 | exact absurd c_6 c_5 | exact absurd hbad (by simp [wt_gd, c_1, c_3, c_5, c_6])
        · skip
          refine lv_iload hx hb dM_say_35 (lv_at hl 4 rfl) ?_
          refine lv_iconst (v := nI 3) hx hb dM_say_37 (by decide) ?_
          refine wt_roi (va_runS (As := [.int rr, .int (nI 3)]) (rest := []) ⟨hx, hb, hml, hown, ht⟩ (c_M_up_3 l dC dI cI cZ cL rr) (va_cwS 2 ht (good_S m_471 m_472 m_7 m_473) rfl rfl rfl (by decide +kernel) ⟨Nat.le_of_ble_eq_true rfl, Nat.le_of_ble_eq_true rfl⟩) (wt_preS hK hN (hP.sub [] rfl)) rfl rfl hl.1 rfl (lv_room (Nat.le_of_ble_eq_true rfl)) dM_say_38 ⟨Nat.le_of_ble_eq_true rfl, Nat.le_of_ble_eq_true rfl⟩) ?_
          refine lv_if_eq (tgt := 53) hx hb dM_say_41 (by decide) (fun c_7 => ?_) (fun c_7 => ?_)
          · skip
            refine lv_iconst (v := nI 0) hx hb dM_say_53 (by decide) ?_
            refine lv_istore (lv' := [(5, .int (nI 0)), (0, .ref (q 0)), (1, .int ww), (2, .int pp), (3, .int qq), (4, .int rr)]) hx hb dM_say_54 hl (by decide) rfl (fun ls hl => ?_)
            refine lv_iload hx hb dM_say_56 (lv_at hl 0 rfl) ?_
            refine wt_if_eq (tgt := 70) hx hb dM_say_58 (by decide) (by omega) (fun c_8 => ?_) (fun c_8 => ?_)
            · skip
              refine lv_iconst (v := (-1)) hx hb dM_say_70 (by decide) ?_
              exact W.iret (v := (-1)) hx hb hr (fun t ht hW => ⟨_, rfl, rfl, ht⟩) (fun q h => by cases h) dM_say_71
            · exact absurd c_8 (by decide)
          · skip
            refine lv_iload_n hx hb dM_say_44 rfl (lv_at hl 3 rfl) ?_
            refine lv_iconst (v := (-1)) hx hb dM_say_45 (by decide) ?_
            refine lv_icmp_eq (tgt := 53) hx hb dM_say_46 (by decide) (fun c_9 => ?_) (fun c_9 => ?_)
            · skip
              refine lv_iconst (v := nI 0) hx hb dM_say_53 (by decide) ?_
              refine lv_istore (lv' := [(5, .int (nI 0)), (0, .ref (q 0)), (1, .int ww), (2, .int pp), (3, .int qq), (4, .int rr)]) hx hb dM_say_54 hl (by decide) rfl (fun ls hl => ?_)
              refine lv_iload hx hb dM_say_56 (lv_at hl 0 rfl) ?_
              refine wt_if_eq (tgt := 70) hx hb dM_say_58 (by decide) (by omega) (fun c_10 => ?_) (fun c_10 => ?_)
              · skip
                refine lv_iconst (v := (-1)) hx hb dM_say_70 (by decide) ?_
                exact W.iret (v := (-1)) hx hb hr (fun t ht hW => ⟨_, rfl, rfl, ht⟩) (fun q h => by cases h) dM_say_71
              · exact absurd c_10 (by decide)
            · first | exact absurd c_1 c_3 | exact absurd c_1 c_5 | exact absurd c_1 c_6 | exact absurd c_1 c_7 | exact absurd c_1 c_9 | exact absurd c_3 c_1 | exact absurd c_3 c_5 | exact absurd c_3 c_6 | exact absurd c_3 c_7 | exact absurd c_3 c_9 | exact absurd c_5 c_1 | exact absurd c_5 c_3 | exact absurd c_5 c_6 | exact absurd c_5 c_7 | exact absurd c_5 c_9 | exact absurd c_6 c_1 | exact absurd c_6 c_3 | exact absurd c_6 c_5 | exact absurd c_6 c_7 | exact absurd c_6 c_9 | exact absurd c_7 c_1 | exact absurd c_7 c_3 | exact absurd c_7 c_5 | exact absurd c_7 c_6 | exact absurd c_7 c_9 | exact absurd c_9 c_1 | exact absurd c_9 c_3 | exact absurd c_9 c_5 | exact absurd c_9 c_6 | exact absurd c_9 c_7 | exact absurd hbad (by simp [wt_gd, c_1, c_3, c_5, c_6, c_7, c_9])
      · skip
        refine lv_iload_n hx hb dM_say_21 rfl (lv_at hl 3 rfl) ?_
        refine lv_iconst (v := nI 3) hx hb dM_say_22 (by decide) ?_
        refine wt_roi (va_runS (As := [.int qq, .int (nI 3)]) (rest := []) ⟨hx, hb, hml, hown, ht⟩ (c_M_up_3 l dC dI cI cZ cL qq) (va_cwS 2 ht (good_S m_471 m_472 m_7 m_473) rfl rfl rfl (by decide +kernel) ⟨Nat.le_of_ble_eq_true rfl, Nat.le_of_ble_eq_true rfl⟩) (wt_preS hK hN (hP.sub [] rfl)) rfl rfl hl.1 rfl (lv_room (Nat.le_of_ble_eq_true rfl)) dM_say_23 ⟨Nat.le_of_ble_eq_true rfl, Nat.le_of_ble_eq_true rfl⟩) ?_
        refine lv_if_eq (tgt := 53) hx hb dM_say_26 (by decide) (fun c_11 => ?_) (fun c_11 => ?_)
        · skip
          refine lv_iconst (v := nI 0) hx hb dM_say_53 (by decide) ?_
          refine lv_istore (lv' := [(5, .int (nI 0)), (0, .ref (q 0)), (1, .int ww), (2, .int pp), (3, .int qq), (4, .int rr)]) hx hb dM_say_54 hl (by decide) rfl (fun ls hl => ?_)
          refine lv_iload hx hb dM_say_56 (lv_at hl 0 rfl) ?_
          refine wt_if_eq (tgt := 70) hx hb dM_say_58 (by decide) (by omega) (fun c_12 => ?_) (fun c_12 => ?_)
          · skip
            refine lv_iconst (v := (-1)) hx hb dM_say_70 (by decide) ?_
            exact W.iret (v := (-1)) hx hb hr (fun t ht hW => ⟨_, rfl, rfl, ht⟩) (fun q h => by cases h) dM_say_71
          · exact absurd c_12 (by decide)
        · skip
          refine lv_iload hx hb dM_say_29 (lv_at hl 4 rfl) ?_
          refine lv_iconst (v := (-1)) hx hb dM_say_31 (by decide) ?_
          refine lv_icmp_eq (tgt := 49) hx hb dM_say_32 (by decide) (fun c_13 => ?_) (fun c_13 => ?_)
          · first | exact absurd c_1 c_3 | exact absurd c_1 c_5 | exact absurd c_1 c_11 | exact absurd c_1 c_13 | exact absurd c_3 c_1 | exact absurd c_3 c_5 | exact absurd c_3 c_11 | exact absurd c_3 c_13 | exact absurd c_5 c_1 | exact absurd c_5 c_3 | exact absurd c_5 c_11 | exact absurd c_5 c_13 | exact absurd c_11 c_1 | exact absurd c_11 c_3 | exact absurd c_11 c_5 | exact absurd c_11 c_13 | exact absurd c_13 c_1 | exact absurd c_13 c_3 | exact absurd c_13 c_5 | exact absurd c_13 c_11 | exact absurd hbad (by simp [wt_gd, c_1, c_3, c_5, c_11, c_13])
          · skip
            refine lv_iload hx hb dM_say_35 (lv_at hl 4 rfl) ?_
            refine lv_iconst (v := nI 3) hx hb dM_say_37 (by decide) ?_
            refine wt_roi (va_runS (As := [.int rr, .int (nI 3)]) (rest := []) ⟨hx, hb, hml, hown, ht⟩ (c_M_up_3 l dC dI cI cZ cL rr) (va_cwS 2 ht (good_S m_471 m_472 m_7 m_473) rfl rfl rfl (by decide +kernel) ⟨Nat.le_of_ble_eq_true rfl, Nat.le_of_ble_eq_true rfl⟩) (wt_preS hK hN (hP.sub [] rfl)) rfl rfl hl.1 rfl (lv_room (Nat.le_of_ble_eq_true rfl)) dM_say_38 ⟨Nat.le_of_ble_eq_true rfl, Nat.le_of_ble_eq_true rfl⟩) ?_
            refine lv_if_eq (tgt := 53) hx hb dM_say_41 (by decide) (fun c_14 => ?_) (fun c_14 => ?_)
            · skip
              refine lv_iconst (v := nI 0) hx hb dM_say_53 (by decide) ?_
              refine lv_istore (lv' := [(5, .int (nI 0)), (0, .ref (q 0)), (1, .int ww), (2, .int pp), (3, .int qq), (4, .int rr)]) hx hb dM_say_54 hl (by decide) rfl (fun ls hl => ?_)
              refine lv_iload hx hb dM_say_56 (lv_at hl 0 rfl) ?_
              refine wt_if_eq (tgt := 70) hx hb dM_say_58 (by decide) (by omega) (fun c_15 => ?_) (fun c_15 => ?_)
              · skip
                refine lv_iconst (v := (-1)) hx hb dM_say_70 (by decide) ?_
                exact W.iret (v := (-1)) hx hb hr (fun t ht hW => ⟨_, rfl, rfl, ht⟩) (fun q h => by cases h) dM_say_71
              · exact absurd c_15 (by decide)
            · skip
              refine lv_iload_n hx hb dM_say_44 rfl (lv_at hl 3 rfl) ?_
              refine lv_iconst (v := (-1)) hx hb dM_say_45 (by decide) ?_
              refine lv_icmp_eq (tgt := 53) hx hb dM_say_46 (by decide) (fun c_16 => ?_) (fun c_16 => ?_)
              · skip
                refine lv_iconst (v := nI 0) hx hb dM_say_53 (by decide) ?_
                refine lv_istore (lv' := [(5, .int (nI 0)), (0, .ref (q 0)), (1, .int ww), (2, .int pp), (3, .int qq), (4, .int rr)]) hx hb dM_say_54 hl (by decide) rfl (fun ls hl => ?_)
                refine lv_iload hx hb dM_say_56 (lv_at hl 0 rfl) ?_
                refine wt_if_eq (tgt := 70) hx hb dM_say_58 (by decide) (by omega) (fun c_17 => ?_) (fun c_17 => ?_)
                · skip
                  refine lv_iconst (v := (-1)) hx hb dM_say_70 (by decide) ?_
                  exact W.iret (v := (-1)) hx hb hr (fun t ht hW => ⟨_, rfl, rfl, ht⟩) (fun q h => by cases h) dM_say_71
                · exact absurd c_17 (by decide)
              · first | exact absurd c_1 c_3 | exact absurd c_1 c_5 | exact absurd c_1 c_11 | exact absurd c_1 c_13 | exact absurd c_1 c_14 | exact absurd c_1 c_16 | exact absurd c_3 c_1 | exact absurd c_3 c_5 | exact absurd c_3 c_11 | exact absurd c_3 c_13 | exact absurd c_3 c_14 | exact absurd c_3 c_16 | exact absurd c_5 c_1 | exact absurd c_5 c_3 | exact absurd c_5 c_11 | exact absurd c_5 c_13 | exact absurd c_5 c_14 | exact absurd c_5 c_16 | exact absurd c_11 c_1 | exact absurd c_11 c_3 | exact absurd c_11 c_5 | exact absurd c_11 c_13 | exact absurd c_11 c_14 | exact absurd c_11 c_16 | exact absurd c_13 c_1 | exact absurd c_13 c_3 | exact absurd c_13 c_5 | exact absurd c_13 c_11 | exact absurd c_13 c_14 | exact absurd c_13 c_16 | exact absurd c_14 c_1 | exact absurd c_14 c_3 | exact absurd c_14 c_5 | exact absurd c_14 c_11 | exact absurd c_14 c_13 | exact absurd c_14 c_16 | exact absurd c_16 c_1 | exact absurd c_16 c_3 | exact absurd c_16 c_5 | exact absurd c_16 c_11 | exact absurd c_16 c_13 | exact absurd c_16 c_14 | exact absurd hbad (by simp [wt_gd, c_1, c_3, c_5, c_11, c_13, c_14, c_16])

set_option maxHeartbeats 4000000 in
set_option maxRecDepth 100000 in
theorem c_M_say_1f (l : Launch) (dC : Nat → ClassId) (dI : Nat → Nat → Nat) (cI cZ cL : ClassId) (q : Nat → Nat) (kn : Nat → Bool) (co : Nat → Int32) (bo : Nat → Int32) (mn : Nat) (wd : Nat → Nat) (zs : Nat → Nat) (fp : Nat → Int32) (ho : Nat → Int32) (lv : Nat → Int32) (fr : Nat) (so : Nat → Int32) (ea : Nat → Int32) (dn : Nat → Int32) (cd : Nat → Int32) (nx : Nat → Int32) (nd : Nat → Int32) (nc : Nat → Int32) (al : Int32) (wo : Int32) (wh : Int32) (ww : Nat) (pp : Nat) (hww : ww < 4) (hpp : pp < 4) (hmn : mn = 8) : Met l yM_say (Cond.code yM_say cM_say 7 (some .int) :: tb) ({ frames := 1, cells := 0, slots := 0, locals := 21 }) (va_Pc [.ref (q 0), .int (nI ww), .int (nI pp), .int (-1), .int (-1)] (wt_ro (dC, dI) vwCl [(cI, .int), (cZ, .boolean), (cL, .long)] (wM cI cZ cL q kn co bo mn wd zs fp ho lv fr so ea dn cd nx nd nc al wo wh))) (vp_Si (fun r => r = (-1))) 0 0 (fun _ => False) := by
  refine Met.ofW (cc := cM_say) (maxL := 7) (ret := (some .int)) (by decide) rfl ?_
  intro p e s m args below meth c s₁ B hml hv
  obtain ⟨rfl, hP, hK, hN⟩ := hv
  have hx := B.exec
  have hb := B.bytes
  have hr := B.returns
  have hts := atoms_spec (ws := (Cond.code yM_say cM_say 7 (some .int) :: tb)) B.pre
  have ht : ∀ w ∈ tb, w.before _ s = true := fun w h => hts w (List.mem_cons_of_mem _ h)
  have hown : s.vm.findClass RM = some m.cls := findClass_of_methodNamed B.named
  have hlocks := B.notSynchronized
  have hl := lv_entry ([.ref (q 0), .int (nI ww), .int (nI pp), .int (-1), .int (-1)]) (n := 7) (Nat.le_of_ble_eq_true rfl)
  rw [lg_entry_eq]
  generalize (lg_sl ([.ref (q 0), .int (nI ww), .int (nI pp), .int (-1), .int (-1)]) ++ List.replicate (7 - (lg_sl ([.ref (q 0), .int (nI ww), .int (nI pp), .int (-1), .int (-1)])).length) Slot.unset).toArray = ls at hl ⊢
  have hl : lv_has ls 7 [(0, .ref (q 0)), (1, .int (nI ww)), (2, .int (nI pp)), (3, .int (-1)), (4, .int (-1))] := hl
  refine lv_iload_n hx hb dM_say_0 rfl (lv_at hl 1 rfl) ?_
  refine lv_iconst (v := nI 3) hx hb dM_say_1 (by decide) ?_
  refine wt_roi (va_runS (As := [.int (nI ww), .int (nI 3)]) (rest := []) ⟨hx, hb, hml, hown, ht⟩ (c_M_up_3 l dC dI cI cZ cL (nI ww)) (va_cwS 2 ht (good_S m_471 m_472 m_7 m_473) rfl rfl rfl (by decide +kernel) ⟨Nat.le_of_ble_eq_true rfl, Nat.le_of_ble_eq_true rfl⟩) (wt_preS hK hN (hP.sub [] rfl)) rfl rfl hl.1 rfl (lv_room (Nat.le_of_ble_eq_true rfl)) dM_say_2 ⟨Nat.le_of_ble_eq_true rfl, Nat.le_of_ble_eq_true rfl⟩) ?_
  refine lv_if_eq (tgt := 53) hx hb dM_say_5 (by decide) (fun c_1 => ?_) (fun c_1 => ?_)
  · exact absurd c_1 (wt_rn hww (by decide))
  · skip
    refine lv_iload_n hx hb dM_say_8 rfl (lv_at hl 2 rfl) ?_
    refine lv_iconst (v := nI 3) hx hb dM_say_9 (by decide) ?_
    refine wt_roi (va_runS (As := [.int (nI pp), .int (nI 3)]) (rest := []) ⟨hx, hb, hml, hown, ht⟩ (c_M_up_3 l dC dI cI cZ cL (nI pp)) (va_cwS 2 ht (good_S m_471 m_472 m_7 m_473) rfl rfl rfl (by decide +kernel) ⟨Nat.le_of_ble_eq_true rfl, Nat.le_of_ble_eq_true rfl⟩) (wt_preS hK hN (hP.sub [] rfl)) rfl rfl hl.1 rfl (lv_room (Nat.le_of_ble_eq_true rfl)) dM_say_10 ⟨Nat.le_of_ble_eq_true rfl, Nat.le_of_ble_eq_true rfl⟩) ?_
    refine lv_if_eq (tgt := 53) hx hb dM_say_13 (by decide) (fun c_2 => ?_) (fun c_2 => ?_)
    · exact absurd c_2 (wt_rn hpp (by decide))
    · skip
      refine lv_iload_n hx hb dM_say_16 rfl (lv_at hl 3 rfl) ?_
      refine lv_iconst (v := (-1)) hx hb dM_say_17 (by decide) ?_
      refine lv_icmp_eq (tgt := 29) hx hb dM_say_18 (by decide) (fun c_3 => ?_) (fun c_3 => ?_)
      · skip
        refine lv_iload hx hb dM_say_29 (lv_at hl 4 rfl) ?_
        refine lv_iconst (v := (-1)) hx hb dM_say_31 (by decide) ?_
        refine lv_icmp_eq (tgt := 49) hx hb dM_say_32 (by decide) (fun c_4 => ?_) (fun c_4 => ?_)
        · skip
          refine lv_iconst (v := nI 1) hx hb dM_say_49 (by decide) ?_
          refine lv_goto (tgt := 54) hx hb dM_say_50 (by decide) ?_
          refine lv_istore (lv' := [(5, .int (nI 1)), (0, .ref (q 0)), (1, .int (nI ww)), (2, .int (nI pp)), (3, .int (-1)), (4, .int (-1))]) hx hb dM_say_54 hl (by decide) rfl (fun ls hl => ?_)
          refine lv_iload hx hb dM_say_56 (lv_at hl 0 rfl) ?_
          refine wt_if_eq (tgt := 70) hx hb dM_say_58 (by decide) (by omega) (fun c_5 => ?_) (fun c_5 => ?_)
          · exact absurd c_5 (by decide)
          · skip
            refine lv_aload_n hx hb dM_say_61 rfl (lv_at hl 1 rfl) ?_
            refine va_get (D := (dC, dI)) (ci := 5) (v := .int (nI mn)) (C := RM) (T := TM) (N := 20) hx hb ht inM hown hK hP 0 rfl rfl 3 (by decide) (ht _ m_397) (fun _ h9 => h9) rfl dM_say_62 ?_
            refine lv_bipush (v := nI 8) hx hb dM_say_65 (by decide) ?_
            refine wt_icmp_ne (tgt := 72) hx hb dM_say_67 (by decide) (by omega) (by omega) (fun c_6 => ?_) (fun c_6 => ?_)
            · exact absurd hmn c_6
            · skip
              refine lv_iconst (v := (-1)) hx hb dM_say_70 (by decide) ?_
              exact W.iret (v := (-1)) hx hb hr (fun t ht hW => ⟨_, rfl, rfl, ht⟩) (fun q h => by cases h) dM_say_71
        · exact absurd rfl c_4
      · exact absurd rfl c_3

set_option maxHeartbeats 4000000 in
set_option maxRecDepth 100000 in
theorem c_M_say_1d (l : Launch) (dC : Nat → ClassId) (dI : Nat → Nat → Nat) (cI cZ cL : ClassId) (q : Nat → Nat) (sz0 : Nat) (kn : Nat → Bool) (co : Nat → Int32) (bo : Nat → Int32) (mn : Nat) (wd : Nat → Nat) (zs : Nat → Nat) (fp : Nat → Int32) (ho : Nat → Int32) (lv : Nat → Int32) (fr : Nat) (so : Nat → Int32) (ea : Nat → Int32) (dn : Nat → Int32) (cd : Nat → Int32) (nx : Nat → Int32) (nd : Nat → Int32) (nc : Nat → Int32) (al : Int32) (wo : Int32) (wh : Int32) (ww : Nat) (pp : Nat) (hww : ww < 4) (hpp : pp < 4) (hmn : mn ≤ 7) (hzs : ∀ k, zs k ≤ 3) (hwd : ∀ j, wd j < 4) (hdu : wt_any (fun k => wt_du1 (va_up wd mn ww) (va_up zs mn 1) (upd (upd (upd fp (3 * mn) (nI pp)) (3 * mn + 1) ((-1))) (3 * mn + 2) ((-1))) mn ww k) mn 0 = true) : Met l yM_say (Cond.code yM_say cM_say 7 (some .int) :: tb) ({ frames := 1, cells := 0, slots := 0, locals := 25 }) (va_Pc [.ref (q 0), .int (nI ww), .int (nI pp), .int (-1), .int (-1)] (wt_rw (dC, dI) vwCl [(cI, .int), (cZ, .boolean), (cL, .long)] (wM cI cZ cL q kn co bo mn wd zs fp ho lv fr so ea dn cd nx nd nc al wo wh) sz0)) (va_Qi (fun r (_ : Unit) => r = (-1)) (wt_B (dC, dI) vwCl (va_A (wM cI cZ cL q kn co bo mn wd zs fp ho lv fr so ea dn cd nx nd nc al wo wh) sz0) (wM cI cZ cL q kn co bo mn (va_up wd mn ww) (va_up zs mn 1) (upd (upd (upd fp (3 * mn) (nI pp)) (3 * mn + 1) ((-1))) (3 * mn + 2) ((-1))) ho lv fr so ea dn cd nx nd nc al wo wh)) (va_A (wM cI cZ cL q kn co bo mn wd zs fp ho lv fr so ea dn cd nx nd nc al wo wh) sz0)) 0 0 (va_A (wM cI cZ cL q kn co bo mn wd zs fp ho lv fr so ea dn cd nx nd nc al wo wh) sz0) := by
  refine Met.ofW (cc := cM_say) (maxL := 7) (ret := (some .int)) (by decide) rfl ?_
  intro p e s m args below meth c s₁ B hml hv
  obtain ⟨rfl, hsz, hP, hK, hN, hD0⟩ := hv
  have hx := B.exec
  have hb := B.bytes
  have hr := B.returns
  have hts := atoms_spec (ws := (Cond.code yM_say cM_say 7 (some .int) :: tb)) B.pre
  have ht : ∀ w ∈ tb, w.before _ s = true := fun w h => hts w (List.mem_cons_of_mem _ h)
  have hown : s.vm.findClass RM = some m.cls := findClass_of_methodNamed B.named
  have hlocks := B.notSynchronized
  subst hsz
  have hD := hD0.self (sz := s.heap.size)
  generalize hAe : va_A (wM cI cZ cL q kn co bo mn wd zs fp ho lv fr so ea dn cd nx nd nc al wo wh) s.heap.size = A at hD ⊢
  have hA : ∀ q : Nat, s.heap.size ≤ q → A q := fun q h => by rw [← hAe]; exact Or.inr h
  clear hAe hD0
  have hS : va_S A s.heap s.heap [] := va_S.rf
  have hl := lv_entry ([.ref (q 0), .int (nI ww), .int (nI pp), .int (-1), .int (-1)]) (n := 7) (Nat.le_of_ble_eq_true rfl)
  rw [lg_entry_eq]
  generalize (lg_sl ([.ref (q 0), .int (nI ww), .int (nI pp), .int (-1), .int (-1)]) ++ List.replicate (7 - (lg_sl ([.ref (q 0), .int (nI ww), .int (nI pp), .int (-1), .int (-1)])).length) Slot.unset).toArray = ls at hl ⊢
  have hl : lv_has ls 7 [(0, .ref (q 0)), (1, .int (nI ww)), (2, .int (nI pp)), (3, .int (-1)), (4, .int (-1))] := hl
  have hz1 : ∀ j, va_up zs mn 1 j ≤ 3 := zs_up hzs (by decide)
  have hw1 : ∀ j, va_up wd mn ww j < 2 ^ 31 := fun j => by have := wd_up (m := mn) hwd hww j; omega
  refine lv_iload_n hx hb dM_say_0 rfl (lv_at hl 1 rfl) ?_
  refine lv_iconst (v := nI 3) hx hb dM_say_1 (by decide) ?_
  refine wt_roi (va_runS (As := [.int (nI ww), .int (nI 3)]) (rest := []) ⟨hx, hb, hml, hown, ht⟩ (c_M_up_3 l dC dI cI cZ cL (nI ww)) (va_cwS 2 ht (good_S m_471 m_472 m_7 m_473) rfl rfl rfl (by decide +kernel) ⟨Nat.le_of_ble_eq_true rfl, Nat.le_of_ble_eq_true rfl⟩) (wt_preS hK hN (hP.sub [] rfl)) rfl rfl hl.1 rfl (lv_room (Nat.le_of_ble_eq_true rfl)) dM_say_2 ⟨Nat.le_of_ble_eq_true rfl, Nat.le_of_ble_eq_true rfl⟩) ?_
  refine lv_if_eq (tgt := 53) hx hb dM_say_5 (by decide) (fun c_1 => ?_) (fun c_1 => ?_)
  · exact absurd c_1 (wt_rn hww (by decide))
  · skip
    refine lv_iload_n hx hb dM_say_8 rfl (lv_at hl 2 rfl) ?_
    refine lv_iconst (v := nI 3) hx hb dM_say_9 (by decide) ?_
    refine wt_roi (va_runS (As := [.int (nI pp), .int (nI 3)]) (rest := []) ⟨hx, hb, hml, hown, ht⟩ (c_M_up_3 l dC dI cI cZ cL (nI pp)) (va_cwS 2 ht (good_S m_471 m_472 m_7 m_473) rfl rfl rfl (by decide +kernel) ⟨Nat.le_of_ble_eq_true rfl, Nat.le_of_ble_eq_true rfl⟩) (wt_preS hK hN (hP.sub [] rfl)) rfl rfl hl.1 rfl (lv_room (Nat.le_of_ble_eq_true rfl)) dM_say_10 ⟨Nat.le_of_ble_eq_true rfl, Nat.le_of_ble_eq_true rfl⟩) ?_
    refine lv_if_eq (tgt := 53) hx hb dM_say_13 (by decide) (fun c_2 => ?_) (fun c_2 => ?_)
    · exact absurd c_2 (wt_rn hpp (by decide))
    · skip
      refine lv_iload_n hx hb dM_say_16 rfl (lv_at hl 3 rfl) ?_
      refine lv_iconst (v := (-1)) hx hb dM_say_17 (by decide) ?_
      refine lv_icmp_eq (tgt := 29) hx hb dM_say_18 (by decide) (fun c_3 => ?_) (fun c_3 => ?_)
      · skip
        refine lv_iload hx hb dM_say_29 (lv_at hl 4 rfl) ?_
        refine lv_iconst (v := (-1)) hx hb dM_say_31 (by decide) ?_
        refine lv_icmp_eq (tgt := 49) hx hb dM_say_32 (by decide) (fun c_4 => ?_) (fun c_4 => ?_)
        · skip
          refine lv_iconst (v := nI 1) hx hb dM_say_49 (by decide) ?_
          refine lv_goto (tgt := 54) hx hb dM_say_50 (by decide) ?_
          refine lv_istore (lv' := [(5, .int (nI 1)), (0, .ref (q 0)), (1, .int (nI ww)), (2, .int (nI pp)), (3, .int (-1)), (4, .int (-1))]) hx hb dM_say_54 hl (by decide) rfl (fun ls hl => ?_)
          refine lv_iload hx hb dM_say_56 (lv_at hl 0 rfl) ?_
          refine wt_if_eq (tgt := 70) hx hb dM_say_58 (by decide) (by first | omega | exact hw1 _ | (have := hz1 kx; have := hz1 mn; omega)) (fun c_5 => ?_) (fun c_5 => ?_)
          · exact absurd c_5 (by decide)
          · skip
            refine lv_aload_n hx hb dM_say_61 rfl (lv_at hl 1 rfl) ?_
            refine va_get (D := (dC, dI)) (ci := 5) (v := .int (nI mn)) (C := RM) (T := TM) (N := 20) hx hb ht inM hown hK hP 0 rfl rfl 3 (by decide) (ht _ m_397) (fun _ h9 => h9) rfl dM_say_62 ?_
            refine lv_bipush (v := nI 8) hx hb dM_say_65 (by decide) ?_
            refine wt_icmp_ne (tgt := 72) hx hb dM_say_67 (by decide) (by first | omega | exact hw1 _ | (have := hz1 kx; have := hz1 mn; omega)) (by first | omega | exact hw1 _ | (have := hz1 kx; have := hz1 mn; omega)) (fun c_6 => ?_) (fun c_6 => ?_)
            · skip
              refine lv_aload_n hx hb dM_say_72 rfl (lv_at hl 1 rfl) ?_
              refine va_get (D := (dC, dI)) (ci := 5) (v := .ref (q 4)) (C := RM) (T := TM) (N := 20) hx hb ht inM hown hK hP 0 rfl rfl 4 (by decide) (ht _ m_398) (fun _ h9 => h9) rfl dM_say_73 ?_
              refine lv_aload_n hx hb dM_say_76 rfl (lv_at hl 1 rfl) ?_
              refine va_get (D := (dC, dI)) (ci := 5) (v := .int (nI mn)) (C := RM) (T := TM) (N := 20) hx hb ht inM hown hK hP 0 rfl rfl 3 (by decide) (ht _ m_397) (fun _ h9 => h9) rfl dM_say_77 ?_
              refine lv_iload_n hx hb dM_say_80 rfl (lv_at hl 2 rfl) ?_
              refine wt_iastN hx hb hK hP hD hS 4 0 rfl rfl (k := mn) (by first | omega | exact hw1 _ | (have := hz1 kx; have := hz1 mn; omega)) (by decide) dM_say_81 (fun H locs hP hD hS => ?_)
              have hP : va_P (dC, dI) vwCl (wM cI cZ cL q kn co bo mn (va_up wd mn ww) zs fp ho lv fr so ea dn cd nx nd nc al wo wh) H := hP
              have hD : va_D A (wM cI cZ cL q kn co bo mn (va_up wd mn ww) zs fp ho lv fr so ea dn cd nx nd nc al wo wh) := hD
              refine lv_aload_n hx hb dM_say_82 rfl (lv_at hl 1 rfl) ?_
              refine va_get (D := (dC, dI)) (ci := 5) (v := .ref (q 5)) (C := RM) (T := TM) (N := 20) hx hb ht inM hown hK hP 0 rfl rfl 5 (by decide) (ht _ m_399) (fun _ h9 => h9) rfl dM_say_83 ?_
              refine lv_aload_n hx hb dM_say_86 rfl (lv_at hl 1 rfl) ?_
              refine va_get (D := (dC, dI)) (ci := 5) (v := .int (nI mn)) (C := RM) (T := TM) (N := 20) hx hb ht inM hown hK hP 0 rfl rfl 3 (by decide) (ht _ m_397) (fun _ h9 => h9) rfl dM_say_87 ?_
              refine lv_iload_n hx hb dM_say_90 rfl (lv_at hl 4 rfl) ?_
              refine lv_iconst (v := (-1)) hx hb dM_say_91 (by decide) ?_
              refine lv_icmp_ne (tgt := 99) hx hb dM_say_92 (by decide) (fun c_7 => ?_) (fun c_7 => ?_)
              · exact absurd rfl c_7
              · skip
                refine lv_iconst (v := nI 1) hx hb dM_say_95 (by decide) ?_
                refine lv_goto (tgt := 110) hx hb dM_say_96 (by decide) ?_
                refine wt_iastN hx hb hK hP hD hS 5 0 rfl rfl (k := mn) (by first | omega | exact hw1 _ | (have := hz1 kx; have := hz1 mn; omega)) (by decide) dM_say_110 (fun H locs hP hD hS => ?_)
                have hP : va_P (dC, dI) vwCl (wM cI cZ cL q kn co bo mn (va_up wd mn ww) (va_up zs mn 1) fp ho lv fr so ea dn cd nx nd nc al wo wh) H := hP
                have hD : va_D A (wM cI cZ cL q kn co bo mn (va_up wd mn ww) (va_up zs mn 1) fp ho lv fr so ea dn cd nx nd nc al wo wh) := hD
                refine lv_aload_n hx hb dM_say_111 rfl (lv_at hl 1 rfl) ?_
                refine va_get (D := (dC, dI)) (ci := 5) (v := .ref (q 6)) (C := RM) (T := TM) (N := 20) hx hb ht inM hown hK hP 0 rfl rfl 6 (by decide) (ht _ m_400) (fun _ h9 => h9) rfl dM_say_112 ?_
                refine lv_iconst (v := nI 3) hx hb dM_say_115 (by decide) ?_
                refine lv_aload_n hx hb dM_say_116 rfl (lv_at hl 1 rfl) ?_
                refine va_get (D := (dC, dI)) (ci := 5) (v := .int (nI mn)) (C := RM) (T := TM) (N := 20) hx hb ht inM hown hK hP 0 rfl rfl 3 (by decide) (ht _ m_397) (fun _ h9 => h9) rfl dM_say_117 ?_
                refine wt_imul hx hb dM_say_120 ?_
                refine lv_iload_n hx hb dM_say_121 rfl (lv_at hl 3 rfl) ?_
                refine wt_iast hx hb hK hP hD hS 6 0 rfl rfl (k := 3 * mn) (by first | omega | exact hw1 _ | (have := hz1 kx; have := hz1 mn; omega)) (by decide) dM_say_122 (fun H locs hP hD hS => ?_)
                have hP : va_P (dC, dI) vwCl (wM cI cZ cL q kn co bo mn (va_up wd mn ww) (va_up zs mn 1) (upd fp (3 * mn) (nI pp)) ho lv fr so ea dn cd nx nd nc al wo wh) H := hP
                have hD : va_D A (wM cI cZ cL q kn co bo mn (va_up wd mn ww) (va_up zs mn 1) (upd fp (3 * mn) (nI pp)) ho lv fr so ea dn cd nx nd nc al wo wh) := hD
                refine lv_aload_n hx hb dM_say_123 rfl (lv_at hl 1 rfl) ?_
                refine va_get (D := (dC, dI)) (ci := 5) (v := .ref (q 6)) (C := RM) (T := TM) (N := 20) hx hb ht inM hown hK hP 0 rfl rfl 6 (by decide) (ht _ m_400) (fun _ h9 => h9) rfl dM_say_124 ?_
                refine lv_iconst (v := nI 3) hx hb dM_say_127 (by decide) ?_
                refine lv_aload_n hx hb dM_say_128 rfl (lv_at hl 1 rfl) ?_
                refine va_get (D := (dC, dI)) (ci := 5) (v := .int (nI mn)) (C := RM) (T := TM) (N := 20) hx hb ht inM hown hK hP 0 rfl rfl 3 (by decide) (ht _ m_397) (fun _ h9 => h9) rfl dM_say_129 ?_
                refine wt_imul hx hb dM_say_132 ?_
                refine lv_iconst (v := nI 1) hx hb dM_say_133 (by decide) ?_
                refine wt_iadd hx hb dM_say_134 ?_
                refine lv_iload_n hx hb dM_say_135 rfl (lv_at hl 4 rfl) ?_
                refine wt_iast hx hb hK hP hD hS 6 0 rfl rfl (k := 3 * mn + 1) (by first | omega | exact hw1 _ | (have := hz1 kx; have := hz1 mn; omega)) (by decide) dM_say_136 (fun H locs hP hD hS => ?_)
                have hP : va_P (dC, dI) vwCl (wM cI cZ cL q kn co bo mn (va_up wd mn ww) (va_up zs mn 1) (upd (upd fp (3 * mn) (nI pp)) (3 * mn + 1) (-1)) ho lv fr so ea dn cd nx nd nc al wo wh) H := hP
                have hD : va_D A (wM cI cZ cL q kn co bo mn (va_up wd mn ww) (va_up zs mn 1) (upd (upd fp (3 * mn) (nI pp)) (3 * mn + 1) (-1)) ho lv fr so ea dn cd nx nd nc al wo wh) := hD
                refine lv_aload_n hx hb dM_say_137 rfl (lv_at hl 1 rfl) ?_
                refine va_get (D := (dC, dI)) (ci := 5) (v := .ref (q 6)) (C := RM) (T := TM) (N := 20) hx hb ht inM hown hK hP 0 rfl rfl 6 (by decide) (ht _ m_400) (fun _ h9 => h9) rfl dM_say_138 ?_
                refine lv_iconst (v := nI 3) hx hb dM_say_141 (by decide) ?_
                refine lv_aload_n hx hb dM_say_142 rfl (lv_at hl 1 rfl) ?_
                refine va_get (D := (dC, dI)) (ci := 5) (v := .int (nI mn)) (C := RM) (T := TM) (N := 20) hx hb ht inM hown hK hP 0 rfl rfl 3 (by decide) (ht _ m_397) (fun _ h9 => h9) rfl dM_say_143 ?_
                refine wt_imul hx hb dM_say_146 ?_
                refine lv_iconst (v := nI 2) hx hb dM_say_147 (by decide) ?_
                refine wt_iadd hx hb dM_say_148 ?_
                refine lv_iload hx hb dM_say_149 (lv_at hl 5 rfl) ?_
                refine wt_iast hx hb hK hP hD hS 6 0 rfl rfl (k := 3 * mn + 2) (by first | omega | exact hw1 _ | (have := hz1 kx; have := hz1 mn; omega)) (by decide) dM_say_151 (fun H locs hP hD hS => ?_)
                have hP : va_P (dC, dI) vwCl (wM cI cZ cL q kn co bo mn (va_up wd mn ww) (va_up zs mn 1) (upd (upd (upd fp (3 * mn) (nI pp)) (3 * mn + 1) (-1)) (3 * mn + 2) (-1)) ho lv fr so ea dn cd nx nd nc al wo wh) H := hP
                have hD : va_D A (wM cI cZ cL q kn co bo mn (va_up wd mn ww) (va_up zs mn 1) (upd (upd (upd fp (3 * mn) (nI pp)) (3 * mn + 1) (-1)) (3 * mn + 2) (-1)) ho lv fr so ea dn cd nx nd nc al wo wh) := hD
                refine lv_iconst (v := nI 0) hx hb dM_say_152 (by decide) ?_
                refine lv_istore (lv' := [(6, .int (nI 0)), (5, .int (nI 1)), (0, .ref (q 0)), (1, .int (nI ww)), (2, .int (nI pp)), (3, .int (-1)), (4, .int (-1))]) hx hb dM_say_153 hl (by decide) rfl (fun ls hl => ?_)
                have LP155 : ∀ (r : Nat) (kx : Nat) (hkx : kx + r = mn) (hE : wt_any (fun k => wt_du1 (va_up wd mn ww) (va_up zs mn 1) (upd (upd (upd fp (3 * mn) (nI pp)) (3 * mn + 1) ((-1))) (3 * mn + 2) ((-1))) mn ww k) r kx = true) (H : Heap) (locs : List Loc) (hP : va_P (dC, dI) vwCl (wM cI cZ cL q kn co bo mn (va_up wd mn ww) (va_up zs mn 1) (upd (upd (upd fp (3 * mn) (nI pp)) (3 * mn + 1) (-1)) (3 * mn + 2) (-1)) ho lv fr so ea dn cd nx nd nc al wo wh) H) (hD : va_D A (wM cI cZ cL q kn co bo mn (va_up wd mn ww) (va_up zs mn 1) (upd (upd (upd fp (3 * mn) (nI pp)) (3 * mn + 1) (-1)) (3 * mn + 2) (-1)) ho lv fr so ea dn cd nx nd nc al wo wh)) (hS : va_S A s.heap H locs) (ls : Array Slot) (hl : lv_has ls 7 [(0, .ref (q 0)), (1, .int (nI ww)), (2, .int (nI pp)), (3, .int (-1)), (4, .int (-1)), (6, .int (nI kx))]), W p l e (headSpec (Cond.code yM_say cM_say 7 (some .int) :: tb) ({ frames := 1, cells := 0, slots := 0, locals := 25 })).room s m ([.ref (q 0), .int (nI ww), .int (nI pp), .int (-1), .int (-1)] : List Value).toArray below meth c H locs 0 0 (MQ below (va_Qi (fun r (_ : Unit) => r = (-1)) (wt_B (dC, dI) vwCl A (wM cI cZ cL q kn co bo mn (va_up wd mn ww) (va_up zs mn 1) (upd (upd (upd fp (3 * mn) (nI pp)) (3 * mn + 1) ((-1))) (3 * mn + 2) ((-1))) ho lv fr so ea dn cd nx nd nc al wo wh)) A) ([.ref (q 0), .int (nI ww), .int (nI pp), .int (-1), .int (-1)] : List Value).toArray s 0 0 A) (F0 m 155 ls []) := by
                  intro r
                  induction r with
                  | zero =>
                    intro kx hkx hE H locs hP hD hS ls hl
                    have hl : lv_has ls 7 [(0, .ref (q 0)), (1, .int (nI ww)), (2, .int (nI pp)), (3, .int (-1)), (4, .int (-1)), (6, .int (nI kx))] := hl
                    refine lv_iload hx hb dM_say_155 (lv_at hl 5 rfl) ?_
                    refine lv_aload_n hx hb dM_say_157 rfl (lv_at hl 0 rfl) ?_
                    refine va_get (D := (dC, dI)) (ci := 5) (v := .int (nI mn)) (C := RM) (T := TM) (N := 20) hx hb ht inM hown hK hP 0 rfl rfl 3 (by decide) (ht _ m_397) (fun _ h9 => h9) rfl dM_say_158 ?_
                    refine wt_icmp_ge (tgt := 222) hx hb dM_say_161 (by decide) (by first | omega | exact hw1 _ | (have := hz1 kx; have := hz1 mn; omega)) (by first | omega | exact hw1 _ | (have := hz1 kx; have := hz1 mn; omega)) (fun c_8 => ?_) (fun c_8 => ?_)
                    · exact absurd (show false = true from hE) (by decide)
                    · first | exact absurd c_8 (by omega) | exact absurd c_8 (by decide) | exact absurd (by decide) c_8
                  | succ r ih155 =>
                    intro kx hkx hE H locs hP hD hS ls hl
                    have hl : lv_has ls 7 [(0, .ref (q 0)), (1, .int (nI ww)), (2, .int (nI pp)), (3, .int (-1)), (4, .int (-1)), (6, .int (nI kx))] := hl
                    refine lv_iload hx hb dM_say_155 (lv_at hl 5 rfl) ?_
                    refine lv_aload_n hx hb dM_say_157 rfl (lv_at hl 0 rfl) ?_
                    refine va_get (D := (dC, dI)) (ci := 5) (v := .int (nI mn)) (C := RM) (T := TM) (N := 20) hx hb ht inM hown hK hP 0 rfl rfl 3 (by decide) (ht _ m_397) (fun _ h9 => h9) rfl dM_say_158 ?_
                    refine wt_icmp_ge (tgt := 222) hx hb dM_say_161 (by decide) (by first | omega | exact hw1 _ | (have := hz1 kx; have := hz1 mn; omega)) (by first | omega | exact hw1 _ | (have := hz1 kx; have := hz1 mn; omega)) (fun c_9 => ?_) (fun c_9 => ?_)
                    · first | exact absurd c_9 (by omega) | exact absurd c_9 (by decide) | exact absurd (by decide) c_9
                    · skip
                      refine lv_aload_n hx hb dM_say_164 rfl (lv_at hl 0 rfl) ?_
                      refine va_get (D := (dC, dI)) (ci := 5) (v := .ref (q 4)) (C := RM) (T := TM) (N := 20) hx hb ht inM hown hK hP 0 rfl rfl 4 (by decide) (ht _ m_398) (fun _ h9 => h9) rfl dM_say_165 ?_
                      refine lv_iload hx hb dM_say_168 (lv_at hl 5 rfl) ?_
                      refine wt_ialdN hx hb hK hP 4 0 rfl rfl (k := kx) (by first | omega | exact hw1 _ | (have := hz1 kx; have := hz1 mn; omega)) (by decide) dM_say_170 ?_
                      refine lv_iload_n hx hb dM_say_171 rfl (lv_at hl 1 rfl) ?_
                      refine wt_icmp_ne (tgt := 216) hx hb dM_say_172 (by decide) (by first | omega | exact hw1 _ | (have := hz1 kx; have := hz1 mn; omega)) (by first | omega | exact hw1 _ | (have := hz1 kx; have := hz1 mn; omega)) (fun c_10 => ?_) (fun c_10 => ?_)
                      · skip
                        refine lv_iinc (v := nI (kx + 1)) (lv' := [(6, .int (nI (kx + 1))), (0, .ref (q 0)), (1, .int (nI ww)), (2, .int (nI pp)), (3, .int (-1)), (4, .int (-1))]) hx hb dM_say_216 hl (k := 5) rfl (wt_inc1 kx) (by decide) rfl (fun ls hl => ?_)
                        refine lv_goto (tgt := 155) hx hb dM_say_219 (by decide) ?_
                        exact ih155 (kx + 1) (by omega) (wt_any_s hE (by simp [wt_du1, c_10])) _ _ hP hD hS ls (lv_sub hl [1, 2, 3, 4, 5, 0] rfl)
                      · skip
                        refine lv_aload_n hx hb dM_say_175 rfl (lv_at hl 0 rfl) ?_
                        refine va_get (D := (dC, dI)) (ci := 5) (v := .ref (q 5)) (C := RM) (T := TM) (N := 20) hx hb ht inM hown hK hP 0 rfl rfl 5 (by decide) (ht _ m_399) (fun _ h9 => h9) rfl dM_say_176 ?_
                        refine lv_iload hx hb dM_say_179 (lv_at hl 5 rfl) ?_
                        refine wt_ialdN hx hb hK hP 5 0 rfl rfl (k := kx) (by first | omega | exact hw1 _ | (have := hz1 kx; have := hz1 mn; omega)) (by decide) dM_say_181 ?_
                        refine lv_aload_n hx hb dM_say_182 rfl (lv_at hl 0 rfl) ?_
                        refine va_get (D := (dC, dI)) (ci := 5) (v := .ref (q 5)) (C := RM) (T := TM) (N := 20) hx hb ht inM hown hK hP 0 rfl rfl 5 (by decide) (ht _ m_399) (fun _ h9 => h9) rfl dM_say_183 ?_
                        refine lv_aload_n hx hb dM_say_186 rfl (lv_at hl 0 rfl) ?_
                        refine va_get (D := (dC, dI)) (ci := 5) (v := .int (nI mn)) (C := RM) (T := TM) (N := 20) hx hb ht inM hown hK hP 0 rfl rfl 3 (by decide) (ht _ m_397) (fun _ h9 => h9) rfl dM_say_187 ?_
                        refine wt_ialdN hx hb hK hP 5 0 rfl rfl (k := mn) (by first | omega | exact hw1 _ | (have := hz1 kx; have := hz1 mn; omega)) (by decide) dM_say_190 ?_
                        refine wt_icmp_ne (tgt := 216) hx hb dM_say_191 (by decide) (by first | omega | exact hw1 _ | (have := hz1 kx; have := hz1 mn; omega)) (by first | omega | exact hw1 _ | (have := hz1 kx; have := hz1 mn; omega)) (fun c_11 => ?_) (fun c_11 => ?_)
                        · skip
                          refine lv_iinc (v := nI (kx + 1)) (lv' := [(6, .int (nI (kx + 1))), (0, .ref (q 0)), (1, .int (nI ww)), (2, .int (nI pp)), (3, .int (-1)), (4, .int (-1))]) hx hb dM_say_216 hl (k := 5) rfl (wt_inc1 kx) (by decide) rfl (fun ls hl => ?_)
                          refine lv_goto (tgt := 155) hx hb dM_say_219 (by decide) ?_
                          exact ih155 (kx + 1) (by omega) (wt_any_s hE (by simp [wt_du1, c_11])) _ _ hP hD hS ls (lv_sub hl [1, 2, 3, 4, 5, 0] rfl)
                        · skip
                          refine lv_aload_n hx hb dM_say_194 rfl (lv_at hl 0 rfl) ?_
                          refine lv_iload hx hb dM_say_195 (lv_at hl 5 rfl) ?_
                          refine lv_aload_n hx hb dM_say_197 rfl (lv_at hl 0 rfl) ?_
                          refine va_get (D := (dC, dI)) (ci := 5) (v := .int (nI mn)) (C := RM) (T := TM) (N := 20) hx hb ht inM hown hK hP 0 rfl rfl 3 (by decide) (ht _ m_397) (fun _ h9 => h9) rfl dM_say_198 ?_
                          refine lv_aload_n hx hb dM_say_201 rfl (lv_at hl 0 rfl) ?_
                          refine va_get (D := (dC, dI)) (ci := 5) (v := .ref (q 5)) (C := RM) (T := TM) (N := 20) hx hb ht inM hown hK hP 0 rfl rfl 5 (by decide) (ht _ m_399) (fun _ h9 => h9) rfl dM_say_202 ?_
                          refine lv_iload hx hb dM_say_205 (lv_at hl 5 rfl) ?_
                          refine wt_ialdN hx hb hK hP 5 0 rfl rfl (k := kx) (by first | omega | exact hw1 _ | (have := hz1 kx; have := hz1 mn; omega)) (by decide) dM_say_207 ?_
                          refine wt_roi (va_runV (As := [.int (nI kx), .int (nI mn), .int (nI ((va_up zs mn 1) kx))]) (rest := []) ⟨hx, hb, hml, hown, ht⟩ (c_M_begins l dC dI cI cZ cL q kn co bo mn (va_up wd mn ww) (va_up zs mn 1) (upd (upd (upd fp (3 * mn) (nI pp)) (3 * mn + 1) (-1)) (3 * mn + 2) (-1)) ho lv fr so ea dn cd nx nd nc al wo wh kx mn ((va_up zs mn 1) kx) (by omega) (by omega) (hz1 kx) hz1) (cwV 3 ht (good_V m_463 m_465 ms_12 m_7 m_466) rfl rfl rfl (by decide +kernel) ⟨Nat.le_of_ble_eq_true rfl, Nat.le_of_ble_eq_true rfl⟩) (wt_preV hK hN hP (va_recv hK hP (ci := 5) (q0 := 0) rfl rfl)) rfl rfl hl.1 rfl (lv_room (Nat.le_of_ble_eq_true rfl)) dM_say_208 ⟨Nat.le_of_ble_eq_true rfl, Nat.le_of_ble_eq_true rfl⟩) ?_
                          refine wt_bif_eq (tgt := 216) hx hb dM_say_211 (by decide) (fun c_12 => ?_) (fun c_12 => ?_)
                          · skip
                            refine lv_iinc (v := nI (kx + 1)) (lv' := [(6, .int (nI (kx + 1))), (0, .ref (q 0)), (1, .int (nI ww)), (2, .int (nI pp)), (3, .int (-1)), (4, .int (-1))]) hx hb dM_say_216 hl (k := 5) rfl (wt_inc1 kx) (by decide) rfl (fun ls hl => ?_)
                            refine lv_goto (tgt := 155) hx hb dM_say_219 (by decide) ?_
                            exact ih155 (kx + 1) (by omega) (wt_any_s hE (by simp [wt_du1, c_12])) _ _ hP hD hS ls (lv_sub hl [1, 2, 3, 4, 5, 0] rfl)
                          · skip
                            refine lv_iconst (v := (-1)) hx hb dM_say_214 (by decide) ?_
                            have hP9 : va_P (dC, dI) vwCl (wM cI cZ cL q kn co bo mn (va_up wd mn ww) (va_up zs mn 1) (upd (upd (upd fp (3 * mn) (nI pp)) (3 * mn + 1) ((-1))) (3 * mn + 2) ((-1))) ho lv fr so ea dn cd nx nd nc al wo wh) H := by exact hP
                            have hD9 : va_D A (wM cI cZ cL q kn co bo mn (va_up wd mn ww) (va_up zs mn 1) (upd (upd (upd fp (3 * mn) (nI pp)) (3 * mn + 1) ((-1))) (3 * mn + 2) ((-1))) ho lv fr so ea dn cd nx nd nc al wo wh) := by exact hD
                            exact W.iret (v := (-1)) hx hb hr (fun t ht hW => ⟨⟨_, (), rfl, rfl, by rw [ht]; exact hP9, hD9⟩, hS.F ht⟩) hS.2.2 dM_say_215
                exact LP155 mn 0 (Nat.zero_add mn) hdu _ _ hP hD hS ls (lv_sub hl [2, 3, 4, 5, 6, 0] rfl)
            · exact absurd c_6 (by omega)
        · exact absurd rfl c_4
      · exact absurd rfl c_3

set_option maxHeartbeats 4000000 in
set_option maxRecDepth 100000 in
theorem c_M_say_1a (l : Launch) (dC : Nat → ClassId) (dI : Nat → Nat → Nat) (cI cZ cL : ClassId) (q : Nat → Nat) (sz0 : Nat) (kn : Nat → Bool) (co : Nat → Int32) (bo : Nat → Int32) (mn : Nat) (wd : Nat → Nat) (zs : Nat → Nat) (fp : Nat → Int32) (ho : Nat → Int32) (lv : Nat → Int32) (fr : Nat) (so : Nat → Int32) (ea : Nat → Int32) (dn : Nat → Int32) (cd : Nat → Int32) (nx : Nat → Int32) (nd : Nat → Int32) (nc : Nat → Int32) (al : Int32) (wo : Int32) (wh : Int32) (ww : Nat) (pp : Nat) (hww : ww < 4) (hpp : pp < 4) (hmn : mn ≤ 7) (hzs : ∀ k, zs k ≤ 3) (hwd : ∀ j, wd j < 4) (hdu : wt_any (fun k => wt_du1 (va_up wd mn ww) (va_up zs mn 1) (upd (upd (upd fp (3 * mn) (nI pp)) (3 * mn + 1) ((-1))) (3 * mn + 2) ((-1))) mn ww k) mn 0 = false) : Met l yM_say (Cond.code yM_say cM_say 7 (some .int) :: tb) ({ frames := 3, cells := 0, slots := 0, locals := 72 }) (va_Pc [.ref (q 0), .int (nI ww), .int (nI pp), .int (-1), .int (-1)] (wt_rw (dC, dI) vwCl [(cI, .int), (cZ, .boolean), (cL, .long)] (wM cI cZ cL q kn co bo mn wd zs fp ho lv fr so ea dn cd nx nd nc al wo wh) sz0)) (va_Qi (fun r (_ : Unit) => r = (nI (wt_nod (va_up zs mn 1) (upd (upd (upd fp (3 * mn) (nI pp)) (3 * mn + 1) ((-1))) (3 * mn + 2) ((-1))) (mn + 1)))) (wt_B (dC, dI) vwCl (va_A (wM cI cZ cL q kn co bo mn wd zs fp ho lv fr so ea dn cd nx nd nc al wo wh) sz0) (wM cI cZ cL q kn co bo (mn + 1) (va_up wd mn ww) (va_up zs mn 1) (upd (upd (upd fp (3 * mn) (nI pp)) (3 * mn + 1) ((-1))) (3 * mn + 2) ((-1))) ho lv fr so ea dn cd nx nd nc al wo wh)) (va_A (wM cI cZ cL q kn co bo mn wd zs fp ho lv fr so ea dn cd nx nd nc al wo wh) sz0)) 0 0 (va_A (wM cI cZ cL q kn co bo mn wd zs fp ho lv fr so ea dn cd nx nd nc al wo wh) sz0) := by
  refine Met.ofW (cc := cM_say) (maxL := 7) (ret := (some .int)) (by decide) rfl ?_
  intro p e s m args below meth c s₁ B hml hv
  obtain ⟨rfl, hsz, hP, hK, hN, hD0⟩ := hv
  have hx := B.exec
  have hb := B.bytes
  have hr := B.returns
  have hts := atoms_spec (ws := (Cond.code yM_say cM_say 7 (some .int) :: tb)) B.pre
  have ht : ∀ w ∈ tb, w.before _ s = true := fun w h => hts w (List.mem_cons_of_mem _ h)
  have hown : s.vm.findClass RM = some m.cls := findClass_of_methodNamed B.named
  have hlocks := B.notSynchronized
  subst hsz
  have hD := hD0.self (sz := s.heap.size)
  generalize hAe : va_A (wM cI cZ cL q kn co bo mn wd zs fp ho lv fr so ea dn cd nx nd nc al wo wh) s.heap.size = A at hD ⊢
  have hA : ∀ q : Nat, s.heap.size ≤ q → A q := fun q h => by rw [← hAe]; exact Or.inr h
  clear hAe hD0
  have hS : va_S A s.heap s.heap [] := va_S.rf
  have hl := lv_entry ([.ref (q 0), .int (nI ww), .int (nI pp), .int (-1), .int (-1)]) (n := 7) (Nat.le_of_ble_eq_true rfl)
  rw [lg_entry_eq]
  generalize (lg_sl ([.ref (q 0), .int (nI ww), .int (nI pp), .int (-1), .int (-1)]) ++ List.replicate (7 - (lg_sl ([.ref (q 0), .int (nI ww), .int (nI pp), .int (-1), .int (-1)])).length) Slot.unset).toArray = ls at hl ⊢
  have hl : lv_has ls 7 [(0, .ref (q 0)), (1, .int (nI ww)), (2, .int (nI pp)), (3, .int (-1)), (4, .int (-1))] := hl
  have hz1 : ∀ j, va_up zs mn 1 j ≤ 3 := zs_up hzs (by decide)
  have hw1 : ∀ j, va_up wd mn ww j < 2 ^ 31 := fun j => by have := wd_up (m := mn) hwd hww j; omega
  refine lv_iload_n hx hb dM_say_0 rfl (lv_at hl 1 rfl) ?_
  refine lv_iconst (v := nI 3) hx hb dM_say_1 (by decide) ?_
  refine wt_roi (va_runS (As := [.int (nI ww), .int (nI 3)]) (rest := []) ⟨hx, hb, hml, hown, ht⟩ (c_M_up_3 l dC dI cI cZ cL (nI ww)) (va_cwS 2 ht (good_S m_471 m_472 m_7 m_473) rfl rfl rfl (by decide +kernel) ⟨Nat.le_of_ble_eq_true rfl, Nat.le_of_ble_eq_true rfl⟩) (wt_preS hK hN (hP.sub [] rfl)) rfl rfl hl.1 rfl (lv_room (Nat.le_of_ble_eq_true rfl)) dM_say_2 ⟨Nat.le_of_ble_eq_true rfl, Nat.le_of_ble_eq_true rfl⟩) ?_
  refine lv_if_eq (tgt := 53) hx hb dM_say_5 (by decide) (fun c_1 => ?_) (fun c_1 => ?_)
  · exact absurd c_1 (wt_rn hww (by decide))
  · skip
    refine lv_iload_n hx hb dM_say_8 rfl (lv_at hl 2 rfl) ?_
    refine lv_iconst (v := nI 3) hx hb dM_say_9 (by decide) ?_
    refine wt_roi (va_runS (As := [.int (nI pp), .int (nI 3)]) (rest := []) ⟨hx, hb, hml, hown, ht⟩ (c_M_up_3 l dC dI cI cZ cL (nI pp)) (va_cwS 2 ht (good_S m_471 m_472 m_7 m_473) rfl rfl rfl (by decide +kernel) ⟨Nat.le_of_ble_eq_true rfl, Nat.le_of_ble_eq_true rfl⟩) (wt_preS hK hN (hP.sub [] rfl)) rfl rfl hl.1 rfl (lv_room (Nat.le_of_ble_eq_true rfl)) dM_say_10 ⟨Nat.le_of_ble_eq_true rfl, Nat.le_of_ble_eq_true rfl⟩) ?_
    refine lv_if_eq (tgt := 53) hx hb dM_say_13 (by decide) (fun c_2 => ?_) (fun c_2 => ?_)
    · exact absurd c_2 (wt_rn hpp (by decide))
    · skip
      refine lv_iload_n hx hb dM_say_16 rfl (lv_at hl 3 rfl) ?_
      refine lv_iconst (v := (-1)) hx hb dM_say_17 (by decide) ?_
      refine lv_icmp_eq (tgt := 29) hx hb dM_say_18 (by decide) (fun c_3 => ?_) (fun c_3 => ?_)
      · skip
        refine lv_iload hx hb dM_say_29 (lv_at hl 4 rfl) ?_
        refine lv_iconst (v := (-1)) hx hb dM_say_31 (by decide) ?_
        refine lv_icmp_eq (tgt := 49) hx hb dM_say_32 (by decide) (fun c_4 => ?_) (fun c_4 => ?_)
        · skip
          refine lv_iconst (v := nI 1) hx hb dM_say_49 (by decide) ?_
          refine lv_goto (tgt := 54) hx hb dM_say_50 (by decide) ?_
          refine lv_istore (lv' := [(5, .int (nI 1)), (0, .ref (q 0)), (1, .int (nI ww)), (2, .int (nI pp)), (3, .int (-1)), (4, .int (-1))]) hx hb dM_say_54 hl (by decide) rfl (fun ls hl => ?_)
          refine lv_iload hx hb dM_say_56 (lv_at hl 0 rfl) ?_
          refine wt_if_eq (tgt := 70) hx hb dM_say_58 (by decide) (by first | omega | exact hw1 _ | (have := hz1 kx; have := hz1 mn; omega)) (fun c_5 => ?_) (fun c_5 => ?_)
          · exact absurd c_5 (by decide)
          · skip
            refine lv_aload_n hx hb dM_say_61 rfl (lv_at hl 1 rfl) ?_
            refine va_get (D := (dC, dI)) (ci := 5) (v := .int (nI mn)) (C := RM) (T := TM) (N := 20) hx hb ht inM hown hK hP 0 rfl rfl 3 (by decide) (ht _ m_397) (fun _ h9 => h9) rfl dM_say_62 ?_
            refine lv_bipush (v := nI 8) hx hb dM_say_65 (by decide) ?_
            refine wt_icmp_ne (tgt := 72) hx hb dM_say_67 (by decide) (by first | omega | exact hw1 _ | (have := hz1 kx; have := hz1 mn; omega)) (by first | omega | exact hw1 _ | (have := hz1 kx; have := hz1 mn; omega)) (fun c_6 => ?_) (fun c_6 => ?_)
            · skip
              refine lv_aload_n hx hb dM_say_72 rfl (lv_at hl 1 rfl) ?_
              refine va_get (D := (dC, dI)) (ci := 5) (v := .ref (q 4)) (C := RM) (T := TM) (N := 20) hx hb ht inM hown hK hP 0 rfl rfl 4 (by decide) (ht _ m_398) (fun _ h9 => h9) rfl dM_say_73 ?_
              refine lv_aload_n hx hb dM_say_76 rfl (lv_at hl 1 rfl) ?_
              refine va_get (D := (dC, dI)) (ci := 5) (v := .int (nI mn)) (C := RM) (T := TM) (N := 20) hx hb ht inM hown hK hP 0 rfl rfl 3 (by decide) (ht _ m_397) (fun _ h9 => h9) rfl dM_say_77 ?_
              refine lv_iload_n hx hb dM_say_80 rfl (lv_at hl 2 rfl) ?_
              refine wt_iastN hx hb hK hP hD hS 4 0 rfl rfl (k := mn) (by first | omega | exact hw1 _ | (have := hz1 kx; have := hz1 mn; omega)) (by decide) dM_say_81 (fun H locs hP hD hS => ?_)
              have hP : va_P (dC, dI) vwCl (wM cI cZ cL q kn co bo mn (va_up wd mn ww) zs fp ho lv fr so ea dn cd nx nd nc al wo wh) H := hP
              have hD : va_D A (wM cI cZ cL q kn co bo mn (va_up wd mn ww) zs fp ho lv fr so ea dn cd nx nd nc al wo wh) := hD
              refine lv_aload_n hx hb dM_say_82 rfl (lv_at hl 1 rfl) ?_
              refine va_get (D := (dC, dI)) (ci := 5) (v := .ref (q 5)) (C := RM) (T := TM) (N := 20) hx hb ht inM hown hK hP 0 rfl rfl 5 (by decide) (ht _ m_399) (fun _ h9 => h9) rfl dM_say_83 ?_
              refine lv_aload_n hx hb dM_say_86 rfl (lv_at hl 1 rfl) ?_
              refine va_get (D := (dC, dI)) (ci := 5) (v := .int (nI mn)) (C := RM) (T := TM) (N := 20) hx hb ht inM hown hK hP 0 rfl rfl 3 (by decide) (ht _ m_397) (fun _ h9 => h9) rfl dM_say_87 ?_
              refine lv_iload_n hx hb dM_say_90 rfl (lv_at hl 4 rfl) ?_
              refine lv_iconst (v := (-1)) hx hb dM_say_91 (by decide) ?_
              refine lv_icmp_ne (tgt := 99) hx hb dM_say_92 (by decide) (fun c_7 => ?_) (fun c_7 => ?_)
              · exact absurd rfl c_7
              · skip
                refine lv_iconst (v := nI 1) hx hb dM_say_95 (by decide) ?_
                refine lv_goto (tgt := 110) hx hb dM_say_96 (by decide) ?_
                refine wt_iastN hx hb hK hP hD hS 5 0 rfl rfl (k := mn) (by first | omega | exact hw1 _ | (have := hz1 kx; have := hz1 mn; omega)) (by decide) dM_say_110 (fun H locs hP hD hS => ?_)
                have hP : va_P (dC, dI) vwCl (wM cI cZ cL q kn co bo mn (va_up wd mn ww) (va_up zs mn 1) fp ho lv fr so ea dn cd nx nd nc al wo wh) H := hP
                have hD : va_D A (wM cI cZ cL q kn co bo mn (va_up wd mn ww) (va_up zs mn 1) fp ho lv fr so ea dn cd nx nd nc al wo wh) := hD
                refine lv_aload_n hx hb dM_say_111 rfl (lv_at hl 1 rfl) ?_
                refine va_get (D := (dC, dI)) (ci := 5) (v := .ref (q 6)) (C := RM) (T := TM) (N := 20) hx hb ht inM hown hK hP 0 rfl rfl 6 (by decide) (ht _ m_400) (fun _ h9 => h9) rfl dM_say_112 ?_
                refine lv_iconst (v := nI 3) hx hb dM_say_115 (by decide) ?_
                refine lv_aload_n hx hb dM_say_116 rfl (lv_at hl 1 rfl) ?_
                refine va_get (D := (dC, dI)) (ci := 5) (v := .int (nI mn)) (C := RM) (T := TM) (N := 20) hx hb ht inM hown hK hP 0 rfl rfl 3 (by decide) (ht _ m_397) (fun _ h9 => h9) rfl dM_say_117 ?_
                refine wt_imul hx hb dM_say_120 ?_
                refine lv_iload_n hx hb dM_say_121 rfl (lv_at hl 3 rfl) ?_
                refine wt_iast hx hb hK hP hD hS 6 0 rfl rfl (k := 3 * mn) (by first | omega | exact hw1 _ | (have := hz1 kx; have := hz1 mn; omega)) (by decide) dM_say_122 (fun H locs hP hD hS => ?_)
                have hP : va_P (dC, dI) vwCl (wM cI cZ cL q kn co bo mn (va_up wd mn ww) (va_up zs mn 1) (upd fp (3 * mn) (nI pp)) ho lv fr so ea dn cd nx nd nc al wo wh) H := hP
                have hD : va_D A (wM cI cZ cL q kn co bo mn (va_up wd mn ww) (va_up zs mn 1) (upd fp (3 * mn) (nI pp)) ho lv fr so ea dn cd nx nd nc al wo wh) := hD
                refine lv_aload_n hx hb dM_say_123 rfl (lv_at hl 1 rfl) ?_
                refine va_get (D := (dC, dI)) (ci := 5) (v := .ref (q 6)) (C := RM) (T := TM) (N := 20) hx hb ht inM hown hK hP 0 rfl rfl 6 (by decide) (ht _ m_400) (fun _ h9 => h9) rfl dM_say_124 ?_
                refine lv_iconst (v := nI 3) hx hb dM_say_127 (by decide) ?_
                refine lv_aload_n hx hb dM_say_128 rfl (lv_at hl 1 rfl) ?_
                refine va_get (D := (dC, dI)) (ci := 5) (v := .int (nI mn)) (C := RM) (T := TM) (N := 20) hx hb ht inM hown hK hP 0 rfl rfl 3 (by decide) (ht _ m_397) (fun _ h9 => h9) rfl dM_say_129 ?_
                refine wt_imul hx hb dM_say_132 ?_
                refine lv_iconst (v := nI 1) hx hb dM_say_133 (by decide) ?_
                refine wt_iadd hx hb dM_say_134 ?_
                refine lv_iload_n hx hb dM_say_135 rfl (lv_at hl 4 rfl) ?_
                refine wt_iast hx hb hK hP hD hS 6 0 rfl rfl (k := 3 * mn + 1) (by first | omega | exact hw1 _ | (have := hz1 kx; have := hz1 mn; omega)) (by decide) dM_say_136 (fun H locs hP hD hS => ?_)
                have hP : va_P (dC, dI) vwCl (wM cI cZ cL q kn co bo mn (va_up wd mn ww) (va_up zs mn 1) (upd (upd fp (3 * mn) (nI pp)) (3 * mn + 1) (-1)) ho lv fr so ea dn cd nx nd nc al wo wh) H := hP
                have hD : va_D A (wM cI cZ cL q kn co bo mn (va_up wd mn ww) (va_up zs mn 1) (upd (upd fp (3 * mn) (nI pp)) (3 * mn + 1) (-1)) ho lv fr so ea dn cd nx nd nc al wo wh) := hD
                refine lv_aload_n hx hb dM_say_137 rfl (lv_at hl 1 rfl) ?_
                refine va_get (D := (dC, dI)) (ci := 5) (v := .ref (q 6)) (C := RM) (T := TM) (N := 20) hx hb ht inM hown hK hP 0 rfl rfl 6 (by decide) (ht _ m_400) (fun _ h9 => h9) rfl dM_say_138 ?_
                refine lv_iconst (v := nI 3) hx hb dM_say_141 (by decide) ?_
                refine lv_aload_n hx hb dM_say_142 rfl (lv_at hl 1 rfl) ?_
                refine va_get (D := (dC, dI)) (ci := 5) (v := .int (nI mn)) (C := RM) (T := TM) (N := 20) hx hb ht inM hown hK hP 0 rfl rfl 3 (by decide) (ht _ m_397) (fun _ h9 => h9) rfl dM_say_143 ?_
                refine wt_imul hx hb dM_say_146 ?_
                refine lv_iconst (v := nI 2) hx hb dM_say_147 (by decide) ?_
                refine wt_iadd hx hb dM_say_148 ?_
                refine lv_iload hx hb dM_say_149 (lv_at hl 5 rfl) ?_
                refine wt_iast hx hb hK hP hD hS 6 0 rfl rfl (k := 3 * mn + 2) (by first | omega | exact hw1 _ | (have := hz1 kx; have := hz1 mn; omega)) (by decide) dM_say_151 (fun H locs hP hD hS => ?_)
                have hP : va_P (dC, dI) vwCl (wM cI cZ cL q kn co bo mn (va_up wd mn ww) (va_up zs mn 1) (upd (upd (upd fp (3 * mn) (nI pp)) (3 * mn + 1) (-1)) (3 * mn + 2) (-1)) ho lv fr so ea dn cd nx nd nc al wo wh) H := hP
                have hD : va_D A (wM cI cZ cL q kn co bo mn (va_up wd mn ww) (va_up zs mn 1) (upd (upd (upd fp (3 * mn) (nI pp)) (3 * mn + 1) (-1)) (3 * mn + 2) (-1)) ho lv fr so ea dn cd nx nd nc al wo wh) := hD
                refine lv_iconst (v := nI 0) hx hb dM_say_152 (by decide) ?_
                refine lv_istore (lv' := [(6, .int (nI 0)), (5, .int (nI 1)), (0, .ref (q 0)), (1, .int (nI ww)), (2, .int (nI pp)), (3, .int (-1)), (4, .int (-1))]) hx hb dM_say_153 hl (by decide) rfl (fun ls hl => ?_)
                have LP155 : ∀ (r : Nat) (kx : Nat) (hkx : kx + r = mn) (hE : wt_any (fun k => wt_du1 (va_up wd mn ww) (va_up zs mn 1) (upd (upd (upd fp (3 * mn) (nI pp)) (3 * mn + 1) ((-1))) (3 * mn + 2) ((-1))) mn ww k) r kx = false) (H : Heap) (locs : List Loc) (hP : va_P (dC, dI) vwCl (wM cI cZ cL q kn co bo mn (va_up wd mn ww) (va_up zs mn 1) (upd (upd (upd fp (3 * mn) (nI pp)) (3 * mn + 1) (-1)) (3 * mn + 2) (-1)) ho lv fr so ea dn cd nx nd nc al wo wh) H) (hD : va_D A (wM cI cZ cL q kn co bo mn (va_up wd mn ww) (va_up zs mn 1) (upd (upd (upd fp (3 * mn) (nI pp)) (3 * mn + 1) (-1)) (3 * mn + 2) (-1)) ho lv fr so ea dn cd nx nd nc al wo wh)) (hS : va_S A s.heap H locs) (ls : Array Slot) (hl : lv_has ls 7 [(0, .ref (q 0)), (1, .int (nI ww)), (2, .int (nI pp)), (3, .int (-1)), (4, .int (-1)), (6, .int (nI kx))]), W p l e (headSpec (Cond.code yM_say cM_say 7 (some .int) :: tb) ({ frames := 3, cells := 0, slots := 0, locals := 72 })).room s m ([.ref (q 0), .int (nI ww), .int (nI pp), .int (-1), .int (-1)] : List Value).toArray below meth c H locs 0 0 (MQ below (va_Qi (fun r (_ : Unit) => r = (nI (wt_nod (va_up zs mn 1) (upd (upd (upd fp (3 * mn) (nI pp)) (3 * mn + 1) ((-1))) (3 * mn + 2) ((-1))) (mn + 1)))) (wt_B (dC, dI) vwCl A (wM cI cZ cL q kn co bo (mn + 1) (va_up wd mn ww) (va_up zs mn 1) (upd (upd (upd fp (3 * mn) (nI pp)) (3 * mn + 1) ((-1))) (3 * mn + 2) ((-1))) ho lv fr so ea dn cd nx nd nc al wo wh)) A) ([.ref (q 0), .int (nI ww), .int (nI pp), .int (-1), .int (-1)] : List Value).toArray s 0 0 A) (F0 m 155 ls []) := by
                  intro r
                  induction r with
                  | zero =>
                    intro kx hkx hE H locs hP hD hS ls hl
                    have hl : lv_has ls 7 [(0, .ref (q 0)), (1, .int (nI ww)), (2, .int (nI pp)), (3, .int (-1)), (4, .int (-1)), (6, .int (nI kx))] := hl
                    refine lv_iload hx hb dM_say_155 (lv_at hl 5 rfl) ?_
                    refine lv_aload_n hx hb dM_say_157 rfl (lv_at hl 0 rfl) ?_
                    refine va_get (D := (dC, dI)) (ci := 5) (v := .int (nI mn)) (C := RM) (T := TM) (N := 20) hx hb ht inM hown hK hP 0 rfl rfl 3 (by decide) (ht _ m_397) (fun _ h9 => h9) rfl dM_say_158 ?_
                    refine wt_icmp_ge (tgt := 222) hx hb dM_say_161 (by decide) (by first | omega | exact hw1 _ | (have := hz1 kx; have := hz1 mn; omega)) (by first | omega | exact hw1 _ | (have := hz1 kx; have := hz1 mn; omega)) (fun c_8 => ?_) (fun c_8 => ?_)
                    · skip
                      refine lv_aload_n hx hb dM_say_222 rfl (lv_at hl 0 rfl) ?_
                      refine lv_dup hx hb dM_say_223 rfl ?_
                      refine va_get (D := (dC, dI)) (ci := 5) (v := .int (nI mn)) (C := RM) (T := TM) (N := 20) hx hb ht inM hown hK hP 0 rfl rfl 3 (by decide) (ht _ m_397) (fun _ h9 => h9) rfl dM_say_224 ?_
                      refine lv_iconst (v := nI 1) hx hb dM_say_227 (by decide) ?_
                      refine wt_iadd hx hb dM_say_228 ?_
                      refine va_put (D := (dC, dI)) (ci := 5) (v := .int (nI (mn + 1))) (ty := .int) (C := RM) (T := TM) (N := 20) hx hb ht inM tyM tyM_ok nmM hown hK hP hD hS 0 rfl rfl 3 (by decide) (ht _ m_397) (fun _ h9 => h9) rfl (by decide +kernel) rfl rfl (Nat.le_of_ble_eq_true rfl) dM_say_229 (fun H locs hP hD hS => ?_)
                      have hP : va_P (dC, dI) vwCl (wM cI cZ cL q kn co bo (mn + 1) (va_up wd mn ww) (va_up zs mn 1) (upd (upd (upd fp (3 * mn) (nI pp)) (3 * mn + 1) (-1)) (3 * mn + 2) (-1)) ho lv fr so ea dn cd nx nd nc al wo wh) H := hP
                      have hD : va_D A (wM cI cZ cL q kn co bo (mn + 1) (va_up wd mn ww) (va_up zs mn 1) (upd (upd (upd fp (3 * mn) (nI pp)) (3 * mn + 1) (-1)) (3 * mn + 2) (-1)) ho lv fr so ea dn cd nx nd nc al wo wh) := hD
                      refine lv_aload_n hx hb dM_say_232 rfl (lv_at hl 0 rfl) ?_
                      refine wt_roi (va_runV (As := []) (rest := []) ⟨hx, hb, hml, hown, ht⟩ (c_M_nodes l dC dI cI cZ cL q kn co bo (mn + 1) (va_up wd mn ww) (va_up zs mn 1) (upd (upd (upd fp (3 * mn) (nI pp)) (3 * mn + 1) (-1)) (3 * mn + 2) (-1)) ho lv fr so ea dn cd nx nd nc al wo wh (by omega) hz1) (cwV 0 ht (good_V m_474 m_456 m_457 m_7 m_458) rfl rfl rfl (by decide +kernel) ⟨Nat.le_of_ble_eq_true rfl, Nat.le_of_ble_eq_true rfl⟩) (wt_preV hK hN hP (va_recv hK hP (ci := 5) (q0 := 0) rfl rfl)) rfl rfl hl.1 rfl (lv_room (Nat.le_of_ble_eq_true rfl)) dM_say_233 ⟨Nat.le_of_ble_eq_true rfl, Nat.le_of_ble_eq_true rfl⟩) ?_
                      have hP9 : va_P (dC, dI) vwCl (wM cI cZ cL q kn co bo (mn + 1) (va_up wd mn ww) (va_up zs mn 1) (upd (upd (upd fp (3 * mn) (nI pp)) (3 * mn + 1) ((-1))) (3 * mn + 2) ((-1))) ho lv fr so ea dn cd nx nd nc al wo wh) H := by exact hP
                      have hD9 : va_D A (wM cI cZ cL q kn co bo (mn + 1) (va_up wd mn ww) (va_up zs mn 1) (upd (upd (upd fp (3 * mn) (nI pp)) (3 * mn + 1) ((-1))) (3 * mn + 2) ((-1))) ho lv fr so ea dn cd nx nd nc al wo wh) := by exact hD
                      exact W.iret (v := nI (wt_nod (va_up zs mn 1) (upd (upd (upd fp (3 * mn) (nI pp)) (3 * mn + 1) (-1)) (3 * mn + 2) (-1)) (mn + 1))) hx hb hr (fun t ht hW => ⟨⟨_, (), rfl, rfl, by rw [ht]; exact hP9, hD9⟩, hS.F ht⟩) hS.2.2 dM_say_236
                    · first | exact absurd c_8 (by omega) | exact absurd c_8 (by decide) | exact absurd (by decide) c_8
                  | succ r ih155 =>
                    intro kx hkx hE H locs hP hD hS ls hl
                    have hl : lv_has ls 7 [(0, .ref (q 0)), (1, .int (nI ww)), (2, .int (nI pp)), (3, .int (-1)), (4, .int (-1)), (6, .int (nI kx))] := hl
                    refine lv_iload hx hb dM_say_155 (lv_at hl 5 rfl) ?_
                    refine lv_aload_n hx hb dM_say_157 rfl (lv_at hl 0 rfl) ?_
                    refine va_get (D := (dC, dI)) (ci := 5) (v := .int (nI mn)) (C := RM) (T := TM) (N := 20) hx hb ht inM hown hK hP 0 rfl rfl 3 (by decide) (ht _ m_397) (fun _ h9 => h9) rfl dM_say_158 ?_
                    refine wt_icmp_ge (tgt := 222) hx hb dM_say_161 (by decide) (by first | omega | exact hw1 _ | (have := hz1 kx; have := hz1 mn; omega)) (by first | omega | exact hw1 _ | (have := hz1 kx; have := hz1 mn; omega)) (fun c_9 => ?_) (fun c_9 => ?_)
                    · first | exact absurd c_9 (by omega) | exact absurd c_9 (by decide) | exact absurd (by decide) c_9
                    · skip
                      refine lv_aload_n hx hb dM_say_164 rfl (lv_at hl 0 rfl) ?_
                      refine va_get (D := (dC, dI)) (ci := 5) (v := .ref (q 4)) (C := RM) (T := TM) (N := 20) hx hb ht inM hown hK hP 0 rfl rfl 4 (by decide) (ht _ m_398) (fun _ h9 => h9) rfl dM_say_165 ?_
                      refine lv_iload hx hb dM_say_168 (lv_at hl 5 rfl) ?_
                      refine wt_ialdN hx hb hK hP 4 0 rfl rfl (k := kx) (by first | omega | exact hw1 _ | (have := hz1 kx; have := hz1 mn; omega)) (by decide) dM_say_170 ?_
                      refine lv_iload_n hx hb dM_say_171 rfl (lv_at hl 1 rfl) ?_
                      refine wt_icmp_ne (tgt := 216) hx hb dM_say_172 (by decide) (by first | omega | exact hw1 _ | (have := hz1 kx; have := hz1 mn; omega)) (by first | omega | exact hw1 _ | (have := hz1 kx; have := hz1 mn; omega)) (fun c_10 => ?_) (fun c_10 => ?_)
                      · skip
                        refine lv_iinc (v := nI (kx + 1)) (lv' := [(6, .int (nI (kx + 1))), (0, .ref (q 0)), (1, .int (nI ww)), (2, .int (nI pp)), (3, .int (-1)), (4, .int (-1))]) hx hb dM_say_216 hl (k := 5) rfl (wt_inc1 kx) (by decide) rfl (fun ls hl => ?_)
                        refine lv_goto (tgt := 155) hx hb dM_say_219 (by decide) ?_
                        exact ih155 (kx + 1) (by omega) ((wt_any_n hE).1) _ _ hP hD hS ls (lv_sub hl [1, 2, 3, 4, 5, 0] rfl)
                      · skip
                        refine lv_aload_n hx hb dM_say_175 rfl (lv_at hl 0 rfl) ?_
                        refine va_get (D := (dC, dI)) (ci := 5) (v := .ref (q 5)) (C := RM) (T := TM) (N := 20) hx hb ht inM hown hK hP 0 rfl rfl 5 (by decide) (ht _ m_399) (fun _ h9 => h9) rfl dM_say_176 ?_
                        refine lv_iload hx hb dM_say_179 (lv_at hl 5 rfl) ?_
                        refine wt_ialdN hx hb hK hP 5 0 rfl rfl (k := kx) (by first | omega | exact hw1 _ | (have := hz1 kx; have := hz1 mn; omega)) (by decide) dM_say_181 ?_
                        refine lv_aload_n hx hb dM_say_182 rfl (lv_at hl 0 rfl) ?_
                        refine va_get (D := (dC, dI)) (ci := 5) (v := .ref (q 5)) (C := RM) (T := TM) (N := 20) hx hb ht inM hown hK hP 0 rfl rfl 5 (by decide) (ht _ m_399) (fun _ h9 => h9) rfl dM_say_183 ?_
                        refine lv_aload_n hx hb dM_say_186 rfl (lv_at hl 0 rfl) ?_
                        refine va_get (D := (dC, dI)) (ci := 5) (v := .int (nI mn)) (C := RM) (T := TM) (N := 20) hx hb ht inM hown hK hP 0 rfl rfl 3 (by decide) (ht _ m_397) (fun _ h9 => h9) rfl dM_say_187 ?_
                        refine wt_ialdN hx hb hK hP 5 0 rfl rfl (k := mn) (by first | omega | exact hw1 _ | (have := hz1 kx; have := hz1 mn; omega)) (by decide) dM_say_190 ?_
                        refine wt_icmp_ne (tgt := 216) hx hb dM_say_191 (by decide) (by first | omega | exact hw1 _ | (have := hz1 kx; have := hz1 mn; omega)) (by first | omega | exact hw1 _ | (have := hz1 kx; have := hz1 mn; omega)) (fun c_11 => ?_) (fun c_11 => ?_)
                        · skip
                          refine lv_iinc (v := nI (kx + 1)) (lv' := [(6, .int (nI (kx + 1))), (0, .ref (q 0)), (1, .int (nI ww)), (2, .int (nI pp)), (3, .int (-1)), (4, .int (-1))]) hx hb dM_say_216 hl (k := 5) rfl (wt_inc1 kx) (by decide) rfl (fun ls hl => ?_)
                          refine lv_goto (tgt := 155) hx hb dM_say_219 (by decide) ?_
                          exact ih155 (kx + 1) (by omega) ((wt_any_n hE).1) _ _ hP hD hS ls (lv_sub hl [1, 2, 3, 4, 5, 0] rfl)
                        · skip
                          refine lv_aload_n hx hb dM_say_194 rfl (lv_at hl 0 rfl) ?_
                          refine lv_iload hx hb dM_say_195 (lv_at hl 5 rfl) ?_
                          refine lv_aload_n hx hb dM_say_197 rfl (lv_at hl 0 rfl) ?_
                          refine va_get (D := (dC, dI)) (ci := 5) (v := .int (nI mn)) (C := RM) (T := TM) (N := 20) hx hb ht inM hown hK hP 0 rfl rfl 3 (by decide) (ht _ m_397) (fun _ h9 => h9) rfl dM_say_198 ?_
                          refine lv_aload_n hx hb dM_say_201 rfl (lv_at hl 0 rfl) ?_
                          refine va_get (D := (dC, dI)) (ci := 5) (v := .ref (q 5)) (C := RM) (T := TM) (N := 20) hx hb ht inM hown hK hP 0 rfl rfl 5 (by decide) (ht _ m_399) (fun _ h9 => h9) rfl dM_say_202 ?_
                          refine lv_iload hx hb dM_say_205 (lv_at hl 5 rfl) ?_
                          refine wt_ialdN hx hb hK hP 5 0 rfl rfl (k := kx) (by first | omega | exact hw1 _ | (have := hz1 kx; have := hz1 mn; omega)) (by decide) dM_say_207 ?_
                          refine wt_roi (va_runV (As := [.int (nI kx), .int (nI mn), .int (nI ((va_up zs mn 1) kx))]) (rest := []) ⟨hx, hb, hml, hown, ht⟩ (c_M_begins l dC dI cI cZ cL q kn co bo mn (va_up wd mn ww) (va_up zs mn 1) (upd (upd (upd fp (3 * mn) (nI pp)) (3 * mn + 1) (-1)) (3 * mn + 2) (-1)) ho lv fr so ea dn cd nx nd nc al wo wh kx mn ((va_up zs mn 1) kx) (by omega) (by omega) (hz1 kx) hz1) (cwV 3 ht (good_V m_463 m_465 ms_12 m_7 m_466) rfl rfl rfl (by decide +kernel) ⟨Nat.le_of_ble_eq_true rfl, Nat.le_of_ble_eq_true rfl⟩) (wt_preV hK hN hP (va_recv hK hP (ci := 5) (q0 := 0) rfl rfl)) rfl rfl hl.1 rfl (lv_room (Nat.le_of_ble_eq_true rfl)) dM_say_208 ⟨Nat.le_of_ble_eq_true rfl, Nat.le_of_ble_eq_true rfl⟩) ?_
                          refine wt_bif_eq (tgt := 216) hx hb dM_say_211 (by decide) (fun c_12 => ?_) (fun c_12 => ?_)
                          · skip
                            refine lv_iinc (v := nI (kx + 1)) (lv' := [(6, .int (nI (kx + 1))), (0, .ref (q 0)), (1, .int (nI ww)), (2, .int (nI pp)), (3, .int (-1)), (4, .int (-1))]) hx hb dM_say_216 hl (k := 5) rfl (wt_inc1 kx) (by decide) rfl (fun ls hl => ?_)
                            refine lv_goto (tgt := 155) hx hb dM_say_219 (by decide) ?_
                            exact ih155 (kx + 1) (by omega) ((wt_any_n hE).1) _ _ hP hD hS ls (lv_sub hl [1, 2, 3, 4, 5, 0] rfl)
                          · exact absurd (wt_any_n hE).2 (by show ¬ wt_du1 _ _ _ _ _ _ = false; unfold wt_du1; rw [decide_eq_true c_10, decide_eq_true c_11, c_12]; decide)
                exact LP155 mn 0 (Nat.zero_add mn) hdu _ _ hP hD hS ls (lv_sub hl [2, 3, 4, 5, 6, 0] rfl)
            · exact absurd c_6 (by omega)
        · exact absurd rfl c_4
      · exact absurd rfl c_3

set_option maxHeartbeats 4000000 in
set_option maxRecDepth 100000 in
theorem c_M_say_2f (l : Launch) (dC : Nat → ClassId) (dI : Nat → Nat → Nat) (cI cZ cL : ClassId) (q : Nat → Nat) (kn : Nat → Bool) (co : Nat → Int32) (bo : Nat → Int32) (mn : Nat) (wd : Nat → Nat) (zs : Nat → Nat) (fp : Nat → Int32) (ho : Nat → Int32) (lv : Nat → Int32) (fr : Nat) (so : Nat → Int32) (ea : Nat → Int32) (dn : Nat → Int32) (cd : Nat → Int32) (nx : Nat → Int32) (nd : Nat → Int32) (nc : Nat → Int32) (al : Int32) (wo : Int32) (wh : Int32) (ww : Nat) (pp : Nat) (qq : Nat) (hww : ww < 4) (hpp : pp < 4) (hqq : qq < 4) (hmn : mn = 8) : Met l yM_say (Cond.code yM_say cM_say 7 (some .int) :: tb) ({ frames := 1, cells := 0, slots := 0, locals := 21 }) (va_Pc [.ref (q 0), .int (nI ww), .int (nI pp), .int (nI qq), .int (-1)] (wt_ro (dC, dI) vwCl [(cI, .int), (cZ, .boolean), (cL, .long)] (wM cI cZ cL q kn co bo mn wd zs fp ho lv fr so ea dn cd nx nd nc al wo wh))) (vp_Si (fun r => r = (-1))) 0 0 (fun _ => False) := by
  refine Met.ofW (cc := cM_say) (maxL := 7) (ret := (some .int)) (by decide) rfl ?_
  intro p e s m args below meth c s₁ B hml hv
  obtain ⟨rfl, hP, hK, hN⟩ := hv
  have hx := B.exec
  have hb := B.bytes
  have hr := B.returns
  have hts := atoms_spec (ws := (Cond.code yM_say cM_say 7 (some .int) :: tb)) B.pre
  have ht : ∀ w ∈ tb, w.before _ s = true := fun w h => hts w (List.mem_cons_of_mem _ h)
  have hown : s.vm.findClass RM = some m.cls := findClass_of_methodNamed B.named
  have hlocks := B.notSynchronized
  have hl := lv_entry ([.ref (q 0), .int (nI ww), .int (nI pp), .int (nI qq), .int (-1)]) (n := 7) (Nat.le_of_ble_eq_true rfl)
  rw [lg_entry_eq]
  generalize (lg_sl ([.ref (q 0), .int (nI ww), .int (nI pp), .int (nI qq), .int (-1)]) ++ List.replicate (7 - (lg_sl ([.ref (q 0), .int (nI ww), .int (nI pp), .int (nI qq), .int (-1)])).length) Slot.unset).toArray = ls at hl ⊢
  have hl : lv_has ls 7 [(0, .ref (q 0)), (1, .int (nI ww)), (2, .int (nI pp)), (3, .int (nI qq)), (4, .int (-1))] := hl
  refine lv_iload_n hx hb dM_say_0 rfl (lv_at hl 1 rfl) ?_
  refine lv_iconst (v := nI 3) hx hb dM_say_1 (by decide) ?_
  refine wt_roi (va_runS (As := [.int (nI ww), .int (nI 3)]) (rest := []) ⟨hx, hb, hml, hown, ht⟩ (c_M_up_3 l dC dI cI cZ cL (nI ww)) (va_cwS 2 ht (good_S m_471 m_472 m_7 m_473) rfl rfl rfl (by decide +kernel) ⟨Nat.le_of_ble_eq_true rfl, Nat.le_of_ble_eq_true rfl⟩) (wt_preS hK hN (hP.sub [] rfl)) rfl rfl hl.1 rfl (lv_room (Nat.le_of_ble_eq_true rfl)) dM_say_2 ⟨Nat.le_of_ble_eq_true rfl, Nat.le_of_ble_eq_true rfl⟩) ?_
  refine lv_if_eq (tgt := 53) hx hb dM_say_5 (by decide) (fun c_1 => ?_) (fun c_1 => ?_)
  · exact absurd c_1 (wt_rn hww (by decide))
  · skip
    refine lv_iload_n hx hb dM_say_8 rfl (lv_at hl 2 rfl) ?_
    refine lv_iconst (v := nI 3) hx hb dM_say_9 (by decide) ?_
    refine wt_roi (va_runS (As := [.int (nI pp), .int (nI 3)]) (rest := []) ⟨hx, hb, hml, hown, ht⟩ (c_M_up_3 l dC dI cI cZ cL (nI pp)) (va_cwS 2 ht (good_S m_471 m_472 m_7 m_473) rfl rfl rfl (by decide +kernel) ⟨Nat.le_of_ble_eq_true rfl, Nat.le_of_ble_eq_true rfl⟩) (wt_preS hK hN (hP.sub [] rfl)) rfl rfl hl.1 rfl (lv_room (Nat.le_of_ble_eq_true rfl)) dM_say_10 ⟨Nat.le_of_ble_eq_true rfl, Nat.le_of_ble_eq_true rfl⟩) ?_
    refine lv_if_eq (tgt := 53) hx hb dM_say_13 (by decide) (fun c_2 => ?_) (fun c_2 => ?_)
    · exact absurd c_2 (wt_rn hpp (by decide))
    · skip
      refine lv_iload_n hx hb dM_say_16 rfl (lv_at hl 3 rfl) ?_
      refine lv_iconst (v := (-1)) hx hb dM_say_17 (by decide) ?_
      refine lv_icmp_eq (tgt := 29) hx hb dM_say_18 (by decide) (fun c_3 => ?_) (fun c_3 => ?_)
      · exact absurd c_3 (wt_nI_nem1 (by omega))
      · skip
        refine lv_iload_n hx hb dM_say_21 rfl (lv_at hl 3 rfl) ?_
        refine lv_iconst (v := nI 3) hx hb dM_say_22 (by decide) ?_
        refine wt_roi (va_runS (As := [.int (nI qq), .int (nI 3)]) (rest := []) ⟨hx, hb, hml, hown, ht⟩ (c_M_up_3 l dC dI cI cZ cL (nI qq)) (va_cwS 2 ht (good_S m_471 m_472 m_7 m_473) rfl rfl rfl (by decide +kernel) ⟨Nat.le_of_ble_eq_true rfl, Nat.le_of_ble_eq_true rfl⟩) (wt_preS hK hN (hP.sub [] rfl)) rfl rfl hl.1 rfl (lv_room (Nat.le_of_ble_eq_true rfl)) dM_say_23 ⟨Nat.le_of_ble_eq_true rfl, Nat.le_of_ble_eq_true rfl⟩) ?_
        refine lv_if_eq (tgt := 53) hx hb dM_say_26 (by decide) (fun c_4 => ?_) (fun c_4 => ?_)
        · exact absurd c_4 (wt_rn hqq (by decide))
        · skip
          refine lv_iload hx hb dM_say_29 (lv_at hl 4 rfl) ?_
          refine lv_iconst (v := (-1)) hx hb dM_say_31 (by decide) ?_
          refine lv_icmp_eq (tgt := 49) hx hb dM_say_32 (by decide) (fun c_5 => ?_) (fun c_5 => ?_)
          · skip
            refine lv_iconst (v := nI 1) hx hb dM_say_49 (by decide) ?_
            refine lv_goto (tgt := 54) hx hb dM_say_50 (by decide) ?_
            refine lv_istore (lv' := [(5, .int (nI 1)), (0, .ref (q 0)), (1, .int (nI ww)), (2, .int (nI pp)), (3, .int (nI qq)), (4, .int (-1))]) hx hb dM_say_54 hl (by decide) rfl (fun ls hl => ?_)
            refine lv_iload hx hb dM_say_56 (lv_at hl 0 rfl) ?_
            refine wt_if_eq (tgt := 70) hx hb dM_say_58 (by decide) (by omega) (fun c_6 => ?_) (fun c_6 => ?_)
            · exact absurd c_6 (by decide)
            · skip
              refine lv_aload_n hx hb dM_say_61 rfl (lv_at hl 1 rfl) ?_
              refine va_get (D := (dC, dI)) (ci := 5) (v := .int (nI mn)) (C := RM) (T := TM) (N := 20) hx hb ht inM hown hK hP 0 rfl rfl 3 (by decide) (ht _ m_397) (fun _ h9 => h9) rfl dM_say_62 ?_
              refine lv_bipush (v := nI 8) hx hb dM_say_65 (by decide) ?_
              refine wt_icmp_ne (tgt := 72) hx hb dM_say_67 (by decide) (by omega) (by omega) (fun c_7 => ?_) (fun c_7 => ?_)
              · exact absurd hmn c_7
              · skip
                refine lv_iconst (v := (-1)) hx hb dM_say_70 (by decide) ?_
                exact W.iret (v := (-1)) hx hb hr (fun t ht hW => ⟨_, rfl, rfl, ht⟩) (fun q h => by cases h) dM_say_71
          · exact absurd rfl c_5

set_option maxHeartbeats 4000000 in
set_option maxRecDepth 100000 in
theorem c_M_say_2d (l : Launch) (dC : Nat → ClassId) (dI : Nat → Nat → Nat) (cI cZ cL : ClassId) (q : Nat → Nat) (sz0 : Nat) (kn : Nat → Bool) (co : Nat → Int32) (bo : Nat → Int32) (mn : Nat) (wd : Nat → Nat) (zs : Nat → Nat) (fp : Nat → Int32) (ho : Nat → Int32) (lv : Nat → Int32) (fr : Nat) (so : Nat → Int32) (ea : Nat → Int32) (dn : Nat → Int32) (cd : Nat → Int32) (nx : Nat → Int32) (nd : Nat → Int32) (nc : Nat → Int32) (al : Int32) (wo : Int32) (wh : Int32) (ww : Nat) (pp : Nat) (qq : Nat) (hww : ww < 4) (hpp : pp < 4) (hqq : qq < 4) (hmn : mn ≤ 7) (hzs : ∀ k, zs k ≤ 3) (hwd : ∀ j, wd j < 4) (hdu : wt_any (fun k => wt_du1 (va_up wd mn ww) (va_up zs mn 2) (upd (upd (upd fp (3 * mn) (nI pp)) (3 * mn + 1) (nI qq)) (3 * mn + 2) ((-1))) mn ww k) mn 0 = true) : Met l yM_say (Cond.code yM_say cM_say 7 (some .int) :: tb) ({ frames := 1, cells := 0, slots := 0, locals := 25 }) (va_Pc [.ref (q 0), .int (nI ww), .int (nI pp), .int (nI qq), .int (-1)] (wt_rw (dC, dI) vwCl [(cI, .int), (cZ, .boolean), (cL, .long)] (wM cI cZ cL q kn co bo mn wd zs fp ho lv fr so ea dn cd nx nd nc al wo wh) sz0)) (va_Qi (fun r (_ : Unit) => r = (-1)) (wt_B (dC, dI) vwCl (va_A (wM cI cZ cL q kn co bo mn wd zs fp ho lv fr so ea dn cd nx nd nc al wo wh) sz0) (wM cI cZ cL q kn co bo mn (va_up wd mn ww) (va_up zs mn 2) (upd (upd (upd fp (3 * mn) (nI pp)) (3 * mn + 1) (nI qq)) (3 * mn + 2) ((-1))) ho lv fr so ea dn cd nx nd nc al wo wh)) (va_A (wM cI cZ cL q kn co bo mn wd zs fp ho lv fr so ea dn cd nx nd nc al wo wh) sz0)) 0 0 (va_A (wM cI cZ cL q kn co bo mn wd zs fp ho lv fr so ea dn cd nx nd nc al wo wh) sz0) := by
  refine Met.ofW (cc := cM_say) (maxL := 7) (ret := (some .int)) (by decide) rfl ?_
  intro p e s m args below meth c s₁ B hml hv
  obtain ⟨rfl, hsz, hP, hK, hN, hD0⟩ := hv
  have hx := B.exec
  have hb := B.bytes
  have hr := B.returns
  have hts := atoms_spec (ws := (Cond.code yM_say cM_say 7 (some .int) :: tb)) B.pre
  have ht : ∀ w ∈ tb, w.before _ s = true := fun w h => hts w (List.mem_cons_of_mem _ h)
  have hown : s.vm.findClass RM = some m.cls := findClass_of_methodNamed B.named
  have hlocks := B.notSynchronized
  subst hsz
  have hD := hD0.self (sz := s.heap.size)
  generalize hAe : va_A (wM cI cZ cL q kn co bo mn wd zs fp ho lv fr so ea dn cd nx nd nc al wo wh) s.heap.size = A at hD ⊢
  have hA : ∀ q : Nat, s.heap.size ≤ q → A q := fun q h => by rw [← hAe]; exact Or.inr h
  clear hAe hD0
  have hS : va_S A s.heap s.heap [] := va_S.rf
  have hl := lv_entry ([.ref (q 0), .int (nI ww), .int (nI pp), .int (nI qq), .int (-1)]) (n := 7) (Nat.le_of_ble_eq_true rfl)
  rw [lg_entry_eq]
  generalize (lg_sl ([.ref (q 0), .int (nI ww), .int (nI pp), .int (nI qq), .int (-1)]) ++ List.replicate (7 - (lg_sl ([.ref (q 0), .int (nI ww), .int (nI pp), .int (nI qq), .int (-1)])).length) Slot.unset).toArray = ls at hl ⊢
  have hl : lv_has ls 7 [(0, .ref (q 0)), (1, .int (nI ww)), (2, .int (nI pp)), (3, .int (nI qq)), (4, .int (-1))] := hl
  have hz1 : ∀ j, va_up zs mn 2 j ≤ 3 := zs_up hzs (by decide)
  have hw1 : ∀ j, va_up wd mn ww j < 2 ^ 31 := fun j => by have := wd_up (m := mn) hwd hww j; omega
  refine lv_iload_n hx hb dM_say_0 rfl (lv_at hl 1 rfl) ?_
  refine lv_iconst (v := nI 3) hx hb dM_say_1 (by decide) ?_
  refine wt_roi (va_runS (As := [.int (nI ww), .int (nI 3)]) (rest := []) ⟨hx, hb, hml, hown, ht⟩ (c_M_up_3 l dC dI cI cZ cL (nI ww)) (va_cwS 2 ht (good_S m_471 m_472 m_7 m_473) rfl rfl rfl (by decide +kernel) ⟨Nat.le_of_ble_eq_true rfl, Nat.le_of_ble_eq_true rfl⟩) (wt_preS hK hN (hP.sub [] rfl)) rfl rfl hl.1 rfl (lv_room (Nat.le_of_ble_eq_true rfl)) dM_say_2 ⟨Nat.le_of_ble_eq_true rfl, Nat.le_of_ble_eq_true rfl⟩) ?_
  refine lv_if_eq (tgt := 53) hx hb dM_say_5 (by decide) (fun c_1 => ?_) (fun c_1 => ?_)
  · exact absurd c_1 (wt_rn hww (by decide))
  · skip
    refine lv_iload_n hx hb dM_say_8 rfl (lv_at hl 2 rfl) ?_
    refine lv_iconst (v := nI 3) hx hb dM_say_9 (by decide) ?_
    refine wt_roi (va_runS (As := [.int (nI pp), .int (nI 3)]) (rest := []) ⟨hx, hb, hml, hown, ht⟩ (c_M_up_3 l dC dI cI cZ cL (nI pp)) (va_cwS 2 ht (good_S m_471 m_472 m_7 m_473) rfl rfl rfl (by decide +kernel) ⟨Nat.le_of_ble_eq_true rfl, Nat.le_of_ble_eq_true rfl⟩) (wt_preS hK hN (hP.sub [] rfl)) rfl rfl hl.1 rfl (lv_room (Nat.le_of_ble_eq_true rfl)) dM_say_10 ⟨Nat.le_of_ble_eq_true rfl, Nat.le_of_ble_eq_true rfl⟩) ?_
    refine lv_if_eq (tgt := 53) hx hb dM_say_13 (by decide) (fun c_2 => ?_) (fun c_2 => ?_)
    · exact absurd c_2 (wt_rn hpp (by decide))
    · skip
      refine lv_iload_n hx hb dM_say_16 rfl (lv_at hl 3 rfl) ?_
      refine lv_iconst (v := (-1)) hx hb dM_say_17 (by decide) ?_
      refine lv_icmp_eq (tgt := 29) hx hb dM_say_18 (by decide) (fun c_3 => ?_) (fun c_3 => ?_)
      · exact absurd c_3 (wt_nI_nem1 (by first | omega | exact hw1 _ | (have := hz1 kx; have := hz1 mn; omega)))
      · skip
        refine lv_iload_n hx hb dM_say_21 rfl (lv_at hl 3 rfl) ?_
        refine lv_iconst (v := nI 3) hx hb dM_say_22 (by decide) ?_
        refine wt_roi (va_runS (As := [.int (nI qq), .int (nI 3)]) (rest := []) ⟨hx, hb, hml, hown, ht⟩ (c_M_up_3 l dC dI cI cZ cL (nI qq)) (va_cwS 2 ht (good_S m_471 m_472 m_7 m_473) rfl rfl rfl (by decide +kernel) ⟨Nat.le_of_ble_eq_true rfl, Nat.le_of_ble_eq_true rfl⟩) (wt_preS hK hN (hP.sub [] rfl)) rfl rfl hl.1 rfl (lv_room (Nat.le_of_ble_eq_true rfl)) dM_say_23 ⟨Nat.le_of_ble_eq_true rfl, Nat.le_of_ble_eq_true rfl⟩) ?_
        refine lv_if_eq (tgt := 53) hx hb dM_say_26 (by decide) (fun c_4 => ?_) (fun c_4 => ?_)
        · exact absurd c_4 (wt_rn hqq (by decide))
        · skip
          refine lv_iload hx hb dM_say_29 (lv_at hl 4 rfl) ?_
          refine lv_iconst (v := (-1)) hx hb dM_say_31 (by decide) ?_
          refine lv_icmp_eq (tgt := 49) hx hb dM_say_32 (by decide) (fun c_5 => ?_) (fun c_5 => ?_)
          · skip
            refine lv_iconst (v := nI 1) hx hb dM_say_49 (by decide) ?_
            refine lv_goto (tgt := 54) hx hb dM_say_50 (by decide) ?_
            refine lv_istore (lv' := [(5, .int (nI 1)), (0, .ref (q 0)), (1, .int (nI ww)), (2, .int (nI pp)), (3, .int (nI qq)), (4, .int (-1))]) hx hb dM_say_54 hl (by decide) rfl (fun ls hl => ?_)
            refine lv_iload hx hb dM_say_56 (lv_at hl 0 rfl) ?_
            refine wt_if_eq (tgt := 70) hx hb dM_say_58 (by decide) (by first | omega | exact hw1 _ | (have := hz1 kx; have := hz1 mn; omega)) (fun c_6 => ?_) (fun c_6 => ?_)
            · exact absurd c_6 (by decide)
            · skip
              refine lv_aload_n hx hb dM_say_61 rfl (lv_at hl 1 rfl) ?_
              refine va_get (D := (dC, dI)) (ci := 5) (v := .int (nI mn)) (C := RM) (T := TM) (N := 20) hx hb ht inM hown hK hP 0 rfl rfl 3 (by decide) (ht _ m_397) (fun _ h9 => h9) rfl dM_say_62 ?_
              refine lv_bipush (v := nI 8) hx hb dM_say_65 (by decide) ?_
              refine wt_icmp_ne (tgt := 72) hx hb dM_say_67 (by decide) (by first | omega | exact hw1 _ | (have := hz1 kx; have := hz1 mn; omega)) (by first | omega | exact hw1 _ | (have := hz1 kx; have := hz1 mn; omega)) (fun c_7 => ?_) (fun c_7 => ?_)
              · skip
                refine lv_aload_n hx hb dM_say_72 rfl (lv_at hl 1 rfl) ?_
                refine va_get (D := (dC, dI)) (ci := 5) (v := .ref (q 4)) (C := RM) (T := TM) (N := 20) hx hb ht inM hown hK hP 0 rfl rfl 4 (by decide) (ht _ m_398) (fun _ h9 => h9) rfl dM_say_73 ?_
                refine lv_aload_n hx hb dM_say_76 rfl (lv_at hl 1 rfl) ?_
                refine va_get (D := (dC, dI)) (ci := 5) (v := .int (nI mn)) (C := RM) (T := TM) (N := 20) hx hb ht inM hown hK hP 0 rfl rfl 3 (by decide) (ht _ m_397) (fun _ h9 => h9) rfl dM_say_77 ?_
                refine lv_iload_n hx hb dM_say_80 rfl (lv_at hl 2 rfl) ?_
                refine wt_iastN hx hb hK hP hD hS 4 0 rfl rfl (k := mn) (by first | omega | exact hw1 _ | (have := hz1 kx; have := hz1 mn; omega)) (by decide) dM_say_81 (fun H locs hP hD hS => ?_)
                have hP : va_P (dC, dI) vwCl (wM cI cZ cL q kn co bo mn (va_up wd mn ww) zs fp ho lv fr so ea dn cd nx nd nc al wo wh) H := hP
                have hD : va_D A (wM cI cZ cL q kn co bo mn (va_up wd mn ww) zs fp ho lv fr so ea dn cd nx nd nc al wo wh) := hD
                refine lv_aload_n hx hb dM_say_82 rfl (lv_at hl 1 rfl) ?_
                refine va_get (D := (dC, dI)) (ci := 5) (v := .ref (q 5)) (C := RM) (T := TM) (N := 20) hx hb ht inM hown hK hP 0 rfl rfl 5 (by decide) (ht _ m_399) (fun _ h9 => h9) rfl dM_say_83 ?_
                refine lv_aload_n hx hb dM_say_86 rfl (lv_at hl 1 rfl) ?_
                refine va_get (D := (dC, dI)) (ci := 5) (v := .int (nI mn)) (C := RM) (T := TM) (N := 20) hx hb ht inM hown hK hP 0 rfl rfl 3 (by decide) (ht _ m_397) (fun _ h9 => h9) rfl dM_say_87 ?_
                refine lv_iload_n hx hb dM_say_90 rfl (lv_at hl 4 rfl) ?_
                refine lv_iconst (v := (-1)) hx hb dM_say_91 (by decide) ?_
                refine lv_icmp_ne (tgt := 99) hx hb dM_say_92 (by decide) (fun c_8 => ?_) (fun c_8 => ?_)
                · skip
                  refine lv_iload hx hb dM_say_99 (lv_at hl 5 rfl) ?_
                  refine lv_iconst (v := (-1)) hx hb dM_say_101 (by decide) ?_
                  refine lv_icmp_ne (tgt := 109) hx hb dM_say_102 (by decide) (fun c_9 => ?_) (fun c_9 => ?_)
                  · exact absurd rfl c_9
                  · skip
                    refine lv_iconst (v := nI 2) hx hb dM_say_105 (by decide) ?_
                    refine lv_goto (tgt := 110) hx hb dM_say_106 (by decide) ?_
                    refine wt_iastN hx hb hK hP hD hS 5 0 rfl rfl (k := mn) (by first | omega | exact hw1 _ | (have := hz1 kx; have := hz1 mn; omega)) (by decide) dM_say_110 (fun H locs hP hD hS => ?_)
                    have hP : va_P (dC, dI) vwCl (wM cI cZ cL q kn co bo mn (va_up wd mn ww) (va_up zs mn 2) fp ho lv fr so ea dn cd nx nd nc al wo wh) H := hP
                    have hD : va_D A (wM cI cZ cL q kn co bo mn (va_up wd mn ww) (va_up zs mn 2) fp ho lv fr so ea dn cd nx nd nc al wo wh) := hD
                    refine lv_aload_n hx hb dM_say_111 rfl (lv_at hl 1 rfl) ?_
                    refine va_get (D := (dC, dI)) (ci := 5) (v := .ref (q 6)) (C := RM) (T := TM) (N := 20) hx hb ht inM hown hK hP 0 rfl rfl 6 (by decide) (ht _ m_400) (fun _ h9 => h9) rfl dM_say_112 ?_
                    refine lv_iconst (v := nI 3) hx hb dM_say_115 (by decide) ?_
                    refine lv_aload_n hx hb dM_say_116 rfl (lv_at hl 1 rfl) ?_
                    refine va_get (D := (dC, dI)) (ci := 5) (v := .int (nI mn)) (C := RM) (T := TM) (N := 20) hx hb ht inM hown hK hP 0 rfl rfl 3 (by decide) (ht _ m_397) (fun _ h9 => h9) rfl dM_say_117 ?_
                    refine wt_imul hx hb dM_say_120 ?_
                    refine lv_iload_n hx hb dM_say_121 rfl (lv_at hl 3 rfl) ?_
                    refine wt_iast hx hb hK hP hD hS 6 0 rfl rfl (k := 3 * mn) (by first | omega | exact hw1 _ | (have := hz1 kx; have := hz1 mn; omega)) (by decide) dM_say_122 (fun H locs hP hD hS => ?_)
                    have hP : va_P (dC, dI) vwCl (wM cI cZ cL q kn co bo mn (va_up wd mn ww) (va_up zs mn 2) (upd fp (3 * mn) (nI pp)) ho lv fr so ea dn cd nx nd nc al wo wh) H := hP
                    have hD : va_D A (wM cI cZ cL q kn co bo mn (va_up wd mn ww) (va_up zs mn 2) (upd fp (3 * mn) (nI pp)) ho lv fr so ea dn cd nx nd nc al wo wh) := hD
                    refine lv_aload_n hx hb dM_say_123 rfl (lv_at hl 1 rfl) ?_
                    refine va_get (D := (dC, dI)) (ci := 5) (v := .ref (q 6)) (C := RM) (T := TM) (N := 20) hx hb ht inM hown hK hP 0 rfl rfl 6 (by decide) (ht _ m_400) (fun _ h9 => h9) rfl dM_say_124 ?_
                    refine lv_iconst (v := nI 3) hx hb dM_say_127 (by decide) ?_
                    refine lv_aload_n hx hb dM_say_128 rfl (lv_at hl 1 rfl) ?_
                    refine va_get (D := (dC, dI)) (ci := 5) (v := .int (nI mn)) (C := RM) (T := TM) (N := 20) hx hb ht inM hown hK hP 0 rfl rfl 3 (by decide) (ht _ m_397) (fun _ h9 => h9) rfl dM_say_129 ?_
                    refine wt_imul hx hb dM_say_132 ?_
                    refine lv_iconst (v := nI 1) hx hb dM_say_133 (by decide) ?_
                    refine wt_iadd hx hb dM_say_134 ?_
                    refine lv_iload_n hx hb dM_say_135 rfl (lv_at hl 4 rfl) ?_
                    refine wt_iast hx hb hK hP hD hS 6 0 rfl rfl (k := 3 * mn + 1) (by first | omega | exact hw1 _ | (have := hz1 kx; have := hz1 mn; omega)) (by decide) dM_say_136 (fun H locs hP hD hS => ?_)
                    have hP : va_P (dC, dI) vwCl (wM cI cZ cL q kn co bo mn (va_up wd mn ww) (va_up zs mn 2) (upd (upd fp (3 * mn) (nI pp)) (3 * mn + 1) (nI qq)) ho lv fr so ea dn cd nx nd nc al wo wh) H := hP
                    have hD : va_D A (wM cI cZ cL q kn co bo mn (va_up wd mn ww) (va_up zs mn 2) (upd (upd fp (3 * mn) (nI pp)) (3 * mn + 1) (nI qq)) ho lv fr so ea dn cd nx nd nc al wo wh) := hD
                    refine lv_aload_n hx hb dM_say_137 rfl (lv_at hl 1 rfl) ?_
                    refine va_get (D := (dC, dI)) (ci := 5) (v := .ref (q 6)) (C := RM) (T := TM) (N := 20) hx hb ht inM hown hK hP 0 rfl rfl 6 (by decide) (ht _ m_400) (fun _ h9 => h9) rfl dM_say_138 ?_
                    refine lv_iconst (v := nI 3) hx hb dM_say_141 (by decide) ?_
                    refine lv_aload_n hx hb dM_say_142 rfl (lv_at hl 1 rfl) ?_
                    refine va_get (D := (dC, dI)) (ci := 5) (v := .int (nI mn)) (C := RM) (T := TM) (N := 20) hx hb ht inM hown hK hP 0 rfl rfl 3 (by decide) (ht _ m_397) (fun _ h9 => h9) rfl dM_say_143 ?_
                    refine wt_imul hx hb dM_say_146 ?_
                    refine lv_iconst (v := nI 2) hx hb dM_say_147 (by decide) ?_
                    refine wt_iadd hx hb dM_say_148 ?_
                    refine lv_iload hx hb dM_say_149 (lv_at hl 5 rfl) ?_
                    refine wt_iast hx hb hK hP hD hS 6 0 rfl rfl (k := 3 * mn + 2) (by first | omega | exact hw1 _ | (have := hz1 kx; have := hz1 mn; omega)) (by decide) dM_say_151 (fun H locs hP hD hS => ?_)
                    have hP : va_P (dC, dI) vwCl (wM cI cZ cL q kn co bo mn (va_up wd mn ww) (va_up zs mn 2) (upd (upd (upd fp (3 * mn) (nI pp)) (3 * mn + 1) (nI qq)) (3 * mn + 2) (-1)) ho lv fr so ea dn cd nx nd nc al wo wh) H := hP
                    have hD : va_D A (wM cI cZ cL q kn co bo mn (va_up wd mn ww) (va_up zs mn 2) (upd (upd (upd fp (3 * mn) (nI pp)) (3 * mn + 1) (nI qq)) (3 * mn + 2) (-1)) ho lv fr so ea dn cd nx nd nc al wo wh) := hD
                    refine lv_iconst (v := nI 0) hx hb dM_say_152 (by decide) ?_
                    refine lv_istore (lv' := [(6, .int (nI 0)), (5, .int (nI 1)), (0, .ref (q 0)), (1, .int (nI ww)), (2, .int (nI pp)), (3, .int (nI qq)), (4, .int (-1))]) hx hb dM_say_153 hl (by decide) rfl (fun ls hl => ?_)
                    have LP155 : ∀ (r : Nat) (kx : Nat) (hkx : kx + r = mn) (hE : wt_any (fun k => wt_du1 (va_up wd mn ww) (va_up zs mn 2) (upd (upd (upd fp (3 * mn) (nI pp)) (3 * mn + 1) (nI qq)) (3 * mn + 2) ((-1))) mn ww k) r kx = true) (H : Heap) (locs : List Loc) (hP : va_P (dC, dI) vwCl (wM cI cZ cL q kn co bo mn (va_up wd mn ww) (va_up zs mn 2) (upd (upd (upd fp (3 * mn) (nI pp)) (3 * mn + 1) (nI qq)) (3 * mn + 2) (-1)) ho lv fr so ea dn cd nx nd nc al wo wh) H) (hD : va_D A (wM cI cZ cL q kn co bo mn (va_up wd mn ww) (va_up zs mn 2) (upd (upd (upd fp (3 * mn) (nI pp)) (3 * mn + 1) (nI qq)) (3 * mn + 2) (-1)) ho lv fr so ea dn cd nx nd nc al wo wh)) (hS : va_S A s.heap H locs) (ls : Array Slot) (hl : lv_has ls 7 [(0, .ref (q 0)), (1, .int (nI ww)), (2, .int (nI pp)), (3, .int (nI qq)), (4, .int (-1)), (6, .int (nI kx))]), W p l e (headSpec (Cond.code yM_say cM_say 7 (some .int) :: tb) ({ frames := 1, cells := 0, slots := 0, locals := 25 })).room s m ([.ref (q 0), .int (nI ww), .int (nI pp), .int (nI qq), .int (-1)] : List Value).toArray below meth c H locs 0 0 (MQ below (va_Qi (fun r (_ : Unit) => r = (-1)) (wt_B (dC, dI) vwCl A (wM cI cZ cL q kn co bo mn (va_up wd mn ww) (va_up zs mn 2) (upd (upd (upd fp (3 * mn) (nI pp)) (3 * mn + 1) (nI qq)) (3 * mn + 2) ((-1))) ho lv fr so ea dn cd nx nd nc al wo wh)) A) ([.ref (q 0), .int (nI ww), .int (nI pp), .int (nI qq), .int (-1)] : List Value).toArray s 0 0 A) (F0 m 155 ls []) := by
                      intro r
                      induction r with
                      | zero =>
                        intro kx hkx hE H locs hP hD hS ls hl
                        have hl : lv_has ls 7 [(0, .ref (q 0)), (1, .int (nI ww)), (2, .int (nI pp)), (3, .int (nI qq)), (4, .int (-1)), (6, .int (nI kx))] := hl
                        refine lv_iload hx hb dM_say_155 (lv_at hl 5 rfl) ?_
                        refine lv_aload_n hx hb dM_say_157 rfl (lv_at hl 0 rfl) ?_
                        refine va_get (D := (dC, dI)) (ci := 5) (v := .int (nI mn)) (C := RM) (T := TM) (N := 20) hx hb ht inM hown hK hP 0 rfl rfl 3 (by decide) (ht _ m_397) (fun _ h9 => h9) rfl dM_say_158 ?_
                        refine wt_icmp_ge (tgt := 222) hx hb dM_say_161 (by decide) (by first | omega | exact hw1 _ | (have := hz1 kx; have := hz1 mn; omega)) (by first | omega | exact hw1 _ | (have := hz1 kx; have := hz1 mn; omega)) (fun c_10 => ?_) (fun c_10 => ?_)
                        · exact absurd (show false = true from hE) (by decide)
                        · first | exact absurd c_10 (by omega) | exact absurd c_10 (by decide) | exact absurd (by decide) c_10
                      | succ r ih155 =>
                        intro kx hkx hE H locs hP hD hS ls hl
                        have hl : lv_has ls 7 [(0, .ref (q 0)), (1, .int (nI ww)), (2, .int (nI pp)), (3, .int (nI qq)), (4, .int (-1)), (6, .int (nI kx))] := hl
                        refine lv_iload hx hb dM_say_155 (lv_at hl 5 rfl) ?_
                        refine lv_aload_n hx hb dM_say_157 rfl (lv_at hl 0 rfl) ?_
                        refine va_get (D := (dC, dI)) (ci := 5) (v := .int (nI mn)) (C := RM) (T := TM) (N := 20) hx hb ht inM hown hK hP 0 rfl rfl 3 (by decide) (ht _ m_397) (fun _ h9 => h9) rfl dM_say_158 ?_
                        refine wt_icmp_ge (tgt := 222) hx hb dM_say_161 (by decide) (by first | omega | exact hw1 _ | (have := hz1 kx; have := hz1 mn; omega)) (by first | omega | exact hw1 _ | (have := hz1 kx; have := hz1 mn; omega)) (fun c_11 => ?_) (fun c_11 => ?_)
                        · first | exact absurd c_11 (by omega) | exact absurd c_11 (by decide) | exact absurd (by decide) c_11
                        · skip
                          refine lv_aload_n hx hb dM_say_164 rfl (lv_at hl 0 rfl) ?_
                          refine va_get (D := (dC, dI)) (ci := 5) (v := .ref (q 4)) (C := RM) (T := TM) (N := 20) hx hb ht inM hown hK hP 0 rfl rfl 4 (by decide) (ht _ m_398) (fun _ h9 => h9) rfl dM_say_165 ?_
                          refine lv_iload hx hb dM_say_168 (lv_at hl 5 rfl) ?_
                          refine wt_ialdN hx hb hK hP 4 0 rfl rfl (k := kx) (by first | omega | exact hw1 _ | (have := hz1 kx; have := hz1 mn; omega)) (by decide) dM_say_170 ?_
                          refine lv_iload_n hx hb dM_say_171 rfl (lv_at hl 1 rfl) ?_
                          refine wt_icmp_ne (tgt := 216) hx hb dM_say_172 (by decide) (by first | omega | exact hw1 _ | (have := hz1 kx; have := hz1 mn; omega)) (by first | omega | exact hw1 _ | (have := hz1 kx; have := hz1 mn; omega)) (fun c_12 => ?_) (fun c_12 => ?_)
                          · skip
                            refine lv_iinc (v := nI (kx + 1)) (lv' := [(6, .int (nI (kx + 1))), (0, .ref (q 0)), (1, .int (nI ww)), (2, .int (nI pp)), (3, .int (nI qq)), (4, .int (-1))]) hx hb dM_say_216 hl (k := 5) rfl (wt_inc1 kx) (by decide) rfl (fun ls hl => ?_)
                            refine lv_goto (tgt := 155) hx hb dM_say_219 (by decide) ?_
                            exact ih155 (kx + 1) (by omega) (wt_any_s hE (by simp [wt_du1, c_12])) _ _ hP hD hS ls (lv_sub hl [1, 2, 3, 4, 5, 0] rfl)
                          · skip
                            refine lv_aload_n hx hb dM_say_175 rfl (lv_at hl 0 rfl) ?_
                            refine va_get (D := (dC, dI)) (ci := 5) (v := .ref (q 5)) (C := RM) (T := TM) (N := 20) hx hb ht inM hown hK hP 0 rfl rfl 5 (by decide) (ht _ m_399) (fun _ h9 => h9) rfl dM_say_176 ?_
                            refine lv_iload hx hb dM_say_179 (lv_at hl 5 rfl) ?_
                            refine wt_ialdN hx hb hK hP 5 0 rfl rfl (k := kx) (by first | omega | exact hw1 _ | (have := hz1 kx; have := hz1 mn; omega)) (by decide) dM_say_181 ?_
                            refine lv_aload_n hx hb dM_say_182 rfl (lv_at hl 0 rfl) ?_
                            refine va_get (D := (dC, dI)) (ci := 5) (v := .ref (q 5)) (C := RM) (T := TM) (N := 20) hx hb ht inM hown hK hP 0 rfl rfl 5 (by decide) (ht _ m_399) (fun _ h9 => h9) rfl dM_say_183 ?_
                            refine lv_aload_n hx hb dM_say_186 rfl (lv_at hl 0 rfl) ?_
                            refine va_get (D := (dC, dI)) (ci := 5) (v := .int (nI mn)) (C := RM) (T := TM) (N := 20) hx hb ht inM hown hK hP 0 rfl rfl 3 (by decide) (ht _ m_397) (fun _ h9 => h9) rfl dM_say_187 ?_
                            refine wt_ialdN hx hb hK hP 5 0 rfl rfl (k := mn) (by first | omega | exact hw1 _ | (have := hz1 kx; have := hz1 mn; omega)) (by decide) dM_say_190 ?_
                            refine wt_icmp_ne (tgt := 216) hx hb dM_say_191 (by decide) (by first | omega | exact hw1 _ | (have := hz1 kx; have := hz1 mn; omega)) (by first | omega | exact hw1 _ | (have := hz1 kx; have := hz1 mn; omega)) (fun c_13 => ?_) (fun c_13 => ?_)
                            · skip
                              refine lv_iinc (v := nI (kx + 1)) (lv' := [(6, .int (nI (kx + 1))), (0, .ref (q 0)), (1, .int (nI ww)), (2, .int (nI pp)), (3, .int (nI qq)), (4, .int (-1))]) hx hb dM_say_216 hl (k := 5) rfl (wt_inc1 kx) (by decide) rfl (fun ls hl => ?_)
                              refine lv_goto (tgt := 155) hx hb dM_say_219 (by decide) ?_
                              exact ih155 (kx + 1) (by omega) (wt_any_s hE (by simp [wt_du1, c_13])) _ _ hP hD hS ls (lv_sub hl [1, 2, 3, 4, 5, 0] rfl)
                            · skip
                              refine lv_aload_n hx hb dM_say_194 rfl (lv_at hl 0 rfl) ?_
                              refine lv_iload hx hb dM_say_195 (lv_at hl 5 rfl) ?_
                              refine lv_aload_n hx hb dM_say_197 rfl (lv_at hl 0 rfl) ?_
                              refine va_get (D := (dC, dI)) (ci := 5) (v := .int (nI mn)) (C := RM) (T := TM) (N := 20) hx hb ht inM hown hK hP 0 rfl rfl 3 (by decide) (ht _ m_397) (fun _ h9 => h9) rfl dM_say_198 ?_
                              refine lv_aload_n hx hb dM_say_201 rfl (lv_at hl 0 rfl) ?_
                              refine va_get (D := (dC, dI)) (ci := 5) (v := .ref (q 5)) (C := RM) (T := TM) (N := 20) hx hb ht inM hown hK hP 0 rfl rfl 5 (by decide) (ht _ m_399) (fun _ h9 => h9) rfl dM_say_202 ?_
                              refine lv_iload hx hb dM_say_205 (lv_at hl 5 rfl) ?_
                              refine wt_ialdN hx hb hK hP 5 0 rfl rfl (k := kx) (by first | omega | exact hw1 _ | (have := hz1 kx; have := hz1 mn; omega)) (by decide) dM_say_207 ?_
                              refine wt_roi (va_runV (As := [.int (nI kx), .int (nI mn), .int (nI ((va_up zs mn 2) kx))]) (rest := []) ⟨hx, hb, hml, hown, ht⟩ (c_M_begins l dC dI cI cZ cL q kn co bo mn (va_up wd mn ww) (va_up zs mn 2) (upd (upd (upd fp (3 * mn) (nI pp)) (3 * mn + 1) (nI qq)) (3 * mn + 2) (-1)) ho lv fr so ea dn cd nx nd nc al wo wh kx mn ((va_up zs mn 2) kx) (by omega) (by omega) (hz1 kx) hz1) (cwV 3 ht (good_V m_463 m_465 ms_12 m_7 m_466) rfl rfl rfl (by decide +kernel) ⟨Nat.le_of_ble_eq_true rfl, Nat.le_of_ble_eq_true rfl⟩) (wt_preV hK hN hP (va_recv hK hP (ci := 5) (q0 := 0) rfl rfl)) rfl rfl hl.1 rfl (lv_room (Nat.le_of_ble_eq_true rfl)) dM_say_208 ⟨Nat.le_of_ble_eq_true rfl, Nat.le_of_ble_eq_true rfl⟩) ?_
                              refine wt_bif_eq (tgt := 216) hx hb dM_say_211 (by decide) (fun c_14 => ?_) (fun c_14 => ?_)
                              · skip
                                refine lv_iinc (v := nI (kx + 1)) (lv' := [(6, .int (nI (kx + 1))), (0, .ref (q 0)), (1, .int (nI ww)), (2, .int (nI pp)), (3, .int (nI qq)), (4, .int (-1))]) hx hb dM_say_216 hl (k := 5) rfl (wt_inc1 kx) (by decide) rfl (fun ls hl => ?_)
                                refine lv_goto (tgt := 155) hx hb dM_say_219 (by decide) ?_
                                exact ih155 (kx + 1) (by omega) (wt_any_s hE (by simp [wt_du1, c_14])) _ _ hP hD hS ls (lv_sub hl [1, 2, 3, 4, 5, 0] rfl)
                              · skip
                                refine lv_iconst (v := (-1)) hx hb dM_say_214 (by decide) ?_
                                have hP9 : va_P (dC, dI) vwCl (wM cI cZ cL q kn co bo mn (va_up wd mn ww) (va_up zs mn 2) (upd (upd (upd fp (3 * mn) (nI pp)) (3 * mn + 1) (nI qq)) (3 * mn + 2) ((-1))) ho lv fr so ea dn cd nx nd nc al wo wh) H := by exact hP
                                have hD9 : va_D A (wM cI cZ cL q kn co bo mn (va_up wd mn ww) (va_up zs mn 2) (upd (upd (upd fp (3 * mn) (nI pp)) (3 * mn + 1) (nI qq)) (3 * mn + 2) ((-1))) ho lv fr so ea dn cd nx nd nc al wo wh) := by exact hD
                                exact W.iret (v := (-1)) hx hb hr (fun t ht hW => ⟨⟨_, (), rfl, rfl, by rw [ht]; exact hP9, hD9⟩, hS.F ht⟩) hS.2.2 dM_say_215
                    exact LP155 mn 0 (Nat.zero_add mn) hdu _ _ hP hD hS ls (lv_sub hl [2, 3, 4, 5, 6, 0] rfl)
                · exact absurd c_8 (wt_nI_nem1 (by first | omega | exact hw1 _ | (have := hz1 kx; have := hz1 mn; omega)))
              · exact absurd c_7 (by omega)
          · exact absurd rfl c_5

set_option maxHeartbeats 4000000 in
set_option maxRecDepth 100000 in
theorem c_M_say_2a (l : Launch) (dC : Nat → ClassId) (dI : Nat → Nat → Nat) (cI cZ cL : ClassId) (q : Nat → Nat) (sz0 : Nat) (kn : Nat → Bool) (co : Nat → Int32) (bo : Nat → Int32) (mn : Nat) (wd : Nat → Nat) (zs : Nat → Nat) (fp : Nat → Int32) (ho : Nat → Int32) (lv : Nat → Int32) (fr : Nat) (so : Nat → Int32) (ea : Nat → Int32) (dn : Nat → Int32) (cd : Nat → Int32) (nx : Nat → Int32) (nd : Nat → Int32) (nc : Nat → Int32) (al : Int32) (wo : Int32) (wh : Int32) (ww : Nat) (pp : Nat) (qq : Nat) (hww : ww < 4) (hpp : pp < 4) (hqq : qq < 4) (hmn : mn ≤ 7) (hzs : ∀ k, zs k ≤ 3) (hwd : ∀ j, wd j < 4) (hdu : wt_any (fun k => wt_du1 (va_up wd mn ww) (va_up zs mn 2) (upd (upd (upd fp (3 * mn) (nI pp)) (3 * mn + 1) (nI qq)) (3 * mn + 2) ((-1))) mn ww k) mn 0 = false) : Met l yM_say (Cond.code yM_say cM_say 7 (some .int) :: tb) ({ frames := 3, cells := 0, slots := 0, locals := 72 }) (va_Pc [.ref (q 0), .int (nI ww), .int (nI pp), .int (nI qq), .int (-1)] (wt_rw (dC, dI) vwCl [(cI, .int), (cZ, .boolean), (cL, .long)] (wM cI cZ cL q kn co bo mn wd zs fp ho lv fr so ea dn cd nx nd nc al wo wh) sz0)) (va_Qi (fun r (_ : Unit) => r = (nI (wt_nod (va_up zs mn 2) (upd (upd (upd fp (3 * mn) (nI pp)) (3 * mn + 1) (nI qq)) (3 * mn + 2) ((-1))) (mn + 1)))) (wt_B (dC, dI) vwCl (va_A (wM cI cZ cL q kn co bo mn wd zs fp ho lv fr so ea dn cd nx nd nc al wo wh) sz0) (wM cI cZ cL q kn co bo (mn + 1) (va_up wd mn ww) (va_up zs mn 2) (upd (upd (upd fp (3 * mn) (nI pp)) (3 * mn + 1) (nI qq)) (3 * mn + 2) ((-1))) ho lv fr so ea dn cd nx nd nc al wo wh)) (va_A (wM cI cZ cL q kn co bo mn wd zs fp ho lv fr so ea dn cd nx nd nc al wo wh) sz0)) 0 0 (va_A (wM cI cZ cL q kn co bo mn wd zs fp ho lv fr so ea dn cd nx nd nc al wo wh) sz0) := by
  refine Met.ofW (cc := cM_say) (maxL := 7) (ret := (some .int)) (by decide) rfl ?_
  intro p e s m args below meth c s₁ B hml hv
  obtain ⟨rfl, hsz, hP, hK, hN, hD0⟩ := hv
  have hx := B.exec
  have hb := B.bytes
  have hr := B.returns
  have hts := atoms_spec (ws := (Cond.code yM_say cM_say 7 (some .int) :: tb)) B.pre
  have ht : ∀ w ∈ tb, w.before _ s = true := fun w h => hts w (List.mem_cons_of_mem _ h)
  have hown : s.vm.findClass RM = some m.cls := findClass_of_methodNamed B.named
  have hlocks := B.notSynchronized
  subst hsz
  have hD := hD0.self (sz := s.heap.size)
  generalize hAe : va_A (wM cI cZ cL q kn co bo mn wd zs fp ho lv fr so ea dn cd nx nd nc al wo wh) s.heap.size = A at hD ⊢
  have hA : ∀ q : Nat, s.heap.size ≤ q → A q := fun q h => by rw [← hAe]; exact Or.inr h
  clear hAe hD0
  have hS : va_S A s.heap s.heap [] := va_S.rf
  have hl := lv_entry ([.ref (q 0), .int (nI ww), .int (nI pp), .int (nI qq), .int (-1)]) (n := 7) (Nat.le_of_ble_eq_true rfl)
  rw [lg_entry_eq]
  generalize (lg_sl ([.ref (q 0), .int (nI ww), .int (nI pp), .int (nI qq), .int (-1)]) ++ List.replicate (7 - (lg_sl ([.ref (q 0), .int (nI ww), .int (nI pp), .int (nI qq), .int (-1)])).length) Slot.unset).toArray = ls at hl ⊢
  have hl : lv_has ls 7 [(0, .ref (q 0)), (1, .int (nI ww)), (2, .int (nI pp)), (3, .int (nI qq)), (4, .int (-1))] := hl
  have hz1 : ∀ j, va_up zs mn 2 j ≤ 3 := zs_up hzs (by decide)
  have hw1 : ∀ j, va_up wd mn ww j < 2 ^ 31 := fun j => by have := wd_up (m := mn) hwd hww j; omega
  refine lv_iload_n hx hb dM_say_0 rfl (lv_at hl 1 rfl) ?_
  refine lv_iconst (v := nI 3) hx hb dM_say_1 (by decide) ?_
  refine wt_roi (va_runS (As := [.int (nI ww), .int (nI 3)]) (rest := []) ⟨hx, hb, hml, hown, ht⟩ (c_M_up_3 l dC dI cI cZ cL (nI ww)) (va_cwS 2 ht (good_S m_471 m_472 m_7 m_473) rfl rfl rfl (by decide +kernel) ⟨Nat.le_of_ble_eq_true rfl, Nat.le_of_ble_eq_true rfl⟩) (wt_preS hK hN (hP.sub [] rfl)) rfl rfl hl.1 rfl (lv_room (Nat.le_of_ble_eq_true rfl)) dM_say_2 ⟨Nat.le_of_ble_eq_true rfl, Nat.le_of_ble_eq_true rfl⟩) ?_
  refine lv_if_eq (tgt := 53) hx hb dM_say_5 (by decide) (fun c_1 => ?_) (fun c_1 => ?_)
  · exact absurd c_1 (wt_rn hww (by decide))
  · skip
    refine lv_iload_n hx hb dM_say_8 rfl (lv_at hl 2 rfl) ?_
    refine lv_iconst (v := nI 3) hx hb dM_say_9 (by decide) ?_
    refine wt_roi (va_runS (As := [.int (nI pp), .int (nI 3)]) (rest := []) ⟨hx, hb, hml, hown, ht⟩ (c_M_up_3 l dC dI cI cZ cL (nI pp)) (va_cwS 2 ht (good_S m_471 m_472 m_7 m_473) rfl rfl rfl (by decide +kernel) ⟨Nat.le_of_ble_eq_true rfl, Nat.le_of_ble_eq_true rfl⟩) (wt_preS hK hN (hP.sub [] rfl)) rfl rfl hl.1 rfl (lv_room (Nat.le_of_ble_eq_true rfl)) dM_say_10 ⟨Nat.le_of_ble_eq_true rfl, Nat.le_of_ble_eq_true rfl⟩) ?_
    refine lv_if_eq (tgt := 53) hx hb dM_say_13 (by decide) (fun c_2 => ?_) (fun c_2 => ?_)
    · exact absurd c_2 (wt_rn hpp (by decide))
    · skip
      refine lv_iload_n hx hb dM_say_16 rfl (lv_at hl 3 rfl) ?_
      refine lv_iconst (v := (-1)) hx hb dM_say_17 (by decide) ?_
      refine lv_icmp_eq (tgt := 29) hx hb dM_say_18 (by decide) (fun c_3 => ?_) (fun c_3 => ?_)
      · exact absurd c_3 (wt_nI_nem1 (by first | omega | exact hw1 _ | (have := hz1 kx; have := hz1 mn; omega)))
      · skip
        refine lv_iload_n hx hb dM_say_21 rfl (lv_at hl 3 rfl) ?_
        refine lv_iconst (v := nI 3) hx hb dM_say_22 (by decide) ?_
        refine wt_roi (va_runS (As := [.int (nI qq), .int (nI 3)]) (rest := []) ⟨hx, hb, hml, hown, ht⟩ (c_M_up_3 l dC dI cI cZ cL (nI qq)) (va_cwS 2 ht (good_S m_471 m_472 m_7 m_473) rfl rfl rfl (by decide +kernel) ⟨Nat.le_of_ble_eq_true rfl, Nat.le_of_ble_eq_true rfl⟩) (wt_preS hK hN (hP.sub [] rfl)) rfl rfl hl.1 rfl (lv_room (Nat.le_of_ble_eq_true rfl)) dM_say_23 ⟨Nat.le_of_ble_eq_true rfl, Nat.le_of_ble_eq_true rfl⟩) ?_
        refine lv_if_eq (tgt := 53) hx hb dM_say_26 (by decide) (fun c_4 => ?_) (fun c_4 => ?_)
        · exact absurd c_4 (wt_rn hqq (by decide))
        · skip
          refine lv_iload hx hb dM_say_29 (lv_at hl 4 rfl) ?_
          refine lv_iconst (v := (-1)) hx hb dM_say_31 (by decide) ?_
          refine lv_icmp_eq (tgt := 49) hx hb dM_say_32 (by decide) (fun c_5 => ?_) (fun c_5 => ?_)
          · skip
            refine lv_iconst (v := nI 1) hx hb dM_say_49 (by decide) ?_
            refine lv_goto (tgt := 54) hx hb dM_say_50 (by decide) ?_
            refine lv_istore (lv' := [(5, .int (nI 1)), (0, .ref (q 0)), (1, .int (nI ww)), (2, .int (nI pp)), (3, .int (nI qq)), (4, .int (-1))]) hx hb dM_say_54 hl (by decide) rfl (fun ls hl => ?_)
            refine lv_iload hx hb dM_say_56 (lv_at hl 0 rfl) ?_
            refine wt_if_eq (tgt := 70) hx hb dM_say_58 (by decide) (by first | omega | exact hw1 _ | (have := hz1 kx; have := hz1 mn; omega)) (fun c_6 => ?_) (fun c_6 => ?_)
            · exact absurd c_6 (by decide)
            · skip
              refine lv_aload_n hx hb dM_say_61 rfl (lv_at hl 1 rfl) ?_
              refine va_get (D := (dC, dI)) (ci := 5) (v := .int (nI mn)) (C := RM) (T := TM) (N := 20) hx hb ht inM hown hK hP 0 rfl rfl 3 (by decide) (ht _ m_397) (fun _ h9 => h9) rfl dM_say_62 ?_
              refine lv_bipush (v := nI 8) hx hb dM_say_65 (by decide) ?_
              refine wt_icmp_ne (tgt := 72) hx hb dM_say_67 (by decide) (by first | omega | exact hw1 _ | (have := hz1 kx; have := hz1 mn; omega)) (by first | omega | exact hw1 _ | (have := hz1 kx; have := hz1 mn; omega)) (fun c_7 => ?_) (fun c_7 => ?_)
              · skip
                refine lv_aload_n hx hb dM_say_72 rfl (lv_at hl 1 rfl) ?_
                refine va_get (D := (dC, dI)) (ci := 5) (v := .ref (q 4)) (C := RM) (T := TM) (N := 20) hx hb ht inM hown hK hP 0 rfl rfl 4 (by decide) (ht _ m_398) (fun _ h9 => h9) rfl dM_say_73 ?_
                refine lv_aload_n hx hb dM_say_76 rfl (lv_at hl 1 rfl) ?_
                refine va_get (D := (dC, dI)) (ci := 5) (v := .int (nI mn)) (C := RM) (T := TM) (N := 20) hx hb ht inM hown hK hP 0 rfl rfl 3 (by decide) (ht _ m_397) (fun _ h9 => h9) rfl dM_say_77 ?_
                refine lv_iload_n hx hb dM_say_80 rfl (lv_at hl 2 rfl) ?_
                refine wt_iastN hx hb hK hP hD hS 4 0 rfl rfl (k := mn) (by first | omega | exact hw1 _ | (have := hz1 kx; have := hz1 mn; omega)) (by decide) dM_say_81 (fun H locs hP hD hS => ?_)
                have hP : va_P (dC, dI) vwCl (wM cI cZ cL q kn co bo mn (va_up wd mn ww) zs fp ho lv fr so ea dn cd nx nd nc al wo wh) H := hP
                have hD : va_D A (wM cI cZ cL q kn co bo mn (va_up wd mn ww) zs fp ho lv fr so ea dn cd nx nd nc al wo wh) := hD
                refine lv_aload_n hx hb dM_say_82 rfl (lv_at hl 1 rfl) ?_
                refine va_get (D := (dC, dI)) (ci := 5) (v := .ref (q 5)) (C := RM) (T := TM) (N := 20) hx hb ht inM hown hK hP 0 rfl rfl 5 (by decide) (ht _ m_399) (fun _ h9 => h9) rfl dM_say_83 ?_
                refine lv_aload_n hx hb dM_say_86 rfl (lv_at hl 1 rfl) ?_
                refine va_get (D := (dC, dI)) (ci := 5) (v := .int (nI mn)) (C := RM) (T := TM) (N := 20) hx hb ht inM hown hK hP 0 rfl rfl 3 (by decide) (ht _ m_397) (fun _ h9 => h9) rfl dM_say_87 ?_
                refine lv_iload_n hx hb dM_say_90 rfl (lv_at hl 4 rfl) ?_
                refine lv_iconst (v := (-1)) hx hb dM_say_91 (by decide) ?_
                refine lv_icmp_ne (tgt := 99) hx hb dM_say_92 (by decide) (fun c_8 => ?_) (fun c_8 => ?_)
                · skip
                  refine lv_iload hx hb dM_say_99 (lv_at hl 5 rfl) ?_
                  refine lv_iconst (v := (-1)) hx hb dM_say_101 (by decide) ?_
                  refine lv_icmp_ne (tgt := 109) hx hb dM_say_102 (by decide) (fun c_9 => ?_) (fun c_9 => ?_)
                  · exact absurd rfl c_9
                  · skip
                    refine lv_iconst (v := nI 2) hx hb dM_say_105 (by decide) ?_
                    refine lv_goto (tgt := 110) hx hb dM_say_106 (by decide) ?_
                    refine wt_iastN hx hb hK hP hD hS 5 0 rfl rfl (k := mn) (by first | omega | exact hw1 _ | (have := hz1 kx; have := hz1 mn; omega)) (by decide) dM_say_110 (fun H locs hP hD hS => ?_)
                    have hP : va_P (dC, dI) vwCl (wM cI cZ cL q kn co bo mn (va_up wd mn ww) (va_up zs mn 2) fp ho lv fr so ea dn cd nx nd nc al wo wh) H := hP
                    have hD : va_D A (wM cI cZ cL q kn co bo mn (va_up wd mn ww) (va_up zs mn 2) fp ho lv fr so ea dn cd nx nd nc al wo wh) := hD
                    refine lv_aload_n hx hb dM_say_111 rfl (lv_at hl 1 rfl) ?_
                    refine va_get (D := (dC, dI)) (ci := 5) (v := .ref (q 6)) (C := RM) (T := TM) (N := 20) hx hb ht inM hown hK hP 0 rfl rfl 6 (by decide) (ht _ m_400) (fun _ h9 => h9) rfl dM_say_112 ?_
                    refine lv_iconst (v := nI 3) hx hb dM_say_115 (by decide) ?_
                    refine lv_aload_n hx hb dM_say_116 rfl (lv_at hl 1 rfl) ?_
                    refine va_get (D := (dC, dI)) (ci := 5) (v := .int (nI mn)) (C := RM) (T := TM) (N := 20) hx hb ht inM hown hK hP 0 rfl rfl 3 (by decide) (ht _ m_397) (fun _ h9 => h9) rfl dM_say_117 ?_
                    refine wt_imul hx hb dM_say_120 ?_
                    refine lv_iload_n hx hb dM_say_121 rfl (lv_at hl 3 rfl) ?_
                    refine wt_iast hx hb hK hP hD hS 6 0 rfl rfl (k := 3 * mn) (by first | omega | exact hw1 _ | (have := hz1 kx; have := hz1 mn; omega)) (by decide) dM_say_122 (fun H locs hP hD hS => ?_)
                    have hP : va_P (dC, dI) vwCl (wM cI cZ cL q kn co bo mn (va_up wd mn ww) (va_up zs mn 2) (upd fp (3 * mn) (nI pp)) ho lv fr so ea dn cd nx nd nc al wo wh) H := hP
                    have hD : va_D A (wM cI cZ cL q kn co bo mn (va_up wd mn ww) (va_up zs mn 2) (upd fp (3 * mn) (nI pp)) ho lv fr so ea dn cd nx nd nc al wo wh) := hD
                    refine lv_aload_n hx hb dM_say_123 rfl (lv_at hl 1 rfl) ?_
                    refine va_get (D := (dC, dI)) (ci := 5) (v := .ref (q 6)) (C := RM) (T := TM) (N := 20) hx hb ht inM hown hK hP 0 rfl rfl 6 (by decide) (ht _ m_400) (fun _ h9 => h9) rfl dM_say_124 ?_
                    refine lv_iconst (v := nI 3) hx hb dM_say_127 (by decide) ?_
                    refine lv_aload_n hx hb dM_say_128 rfl (lv_at hl 1 rfl) ?_
                    refine va_get (D := (dC, dI)) (ci := 5) (v := .int (nI mn)) (C := RM) (T := TM) (N := 20) hx hb ht inM hown hK hP 0 rfl rfl 3 (by decide) (ht _ m_397) (fun _ h9 => h9) rfl dM_say_129 ?_
                    refine wt_imul hx hb dM_say_132 ?_
                    refine lv_iconst (v := nI 1) hx hb dM_say_133 (by decide) ?_
                    refine wt_iadd hx hb dM_say_134 ?_
                    refine lv_iload_n hx hb dM_say_135 rfl (lv_at hl 4 rfl) ?_
                    refine wt_iast hx hb hK hP hD hS 6 0 rfl rfl (k := 3 * mn + 1) (by first | omega | exact hw1 _ | (have := hz1 kx; have := hz1 mn; omega)) (by decide) dM_say_136 (fun H locs hP hD hS => ?_)
                    have hP : va_P (dC, dI) vwCl (wM cI cZ cL q kn co bo mn (va_up wd mn ww) (va_up zs mn 2) (upd (upd fp (3 * mn) (nI pp)) (3 * mn + 1) (nI qq)) ho lv fr so ea dn cd nx nd nc al wo wh) H := hP
                    have hD : va_D A (wM cI cZ cL q kn co bo mn (va_up wd mn ww) (va_up zs mn 2) (upd (upd fp (3 * mn) (nI pp)) (3 * mn + 1) (nI qq)) ho lv fr so ea dn cd nx nd nc al wo wh) := hD
                    refine lv_aload_n hx hb dM_say_137 rfl (lv_at hl 1 rfl) ?_
                    refine va_get (D := (dC, dI)) (ci := 5) (v := .ref (q 6)) (C := RM) (T := TM) (N := 20) hx hb ht inM hown hK hP 0 rfl rfl 6 (by decide) (ht _ m_400) (fun _ h9 => h9) rfl dM_say_138 ?_
                    refine lv_iconst (v := nI 3) hx hb dM_say_141 (by decide) ?_
                    refine lv_aload_n hx hb dM_say_142 rfl (lv_at hl 1 rfl) ?_
                    refine va_get (D := (dC, dI)) (ci := 5) (v := .int (nI mn)) (C := RM) (T := TM) (N := 20) hx hb ht inM hown hK hP 0 rfl rfl 3 (by decide) (ht _ m_397) (fun _ h9 => h9) rfl dM_say_143 ?_
                    refine wt_imul hx hb dM_say_146 ?_
                    refine lv_iconst (v := nI 2) hx hb dM_say_147 (by decide) ?_
                    refine wt_iadd hx hb dM_say_148 ?_
                    refine lv_iload hx hb dM_say_149 (lv_at hl 5 rfl) ?_
                    refine wt_iast hx hb hK hP hD hS 6 0 rfl rfl (k := 3 * mn + 2) (by first | omega | exact hw1 _ | (have := hz1 kx; have := hz1 mn; omega)) (by decide) dM_say_151 (fun H locs hP hD hS => ?_)
                    have hP : va_P (dC, dI) vwCl (wM cI cZ cL q kn co bo mn (va_up wd mn ww) (va_up zs mn 2) (upd (upd (upd fp (3 * mn) (nI pp)) (3 * mn + 1) (nI qq)) (3 * mn + 2) (-1)) ho lv fr so ea dn cd nx nd nc al wo wh) H := hP
                    have hD : va_D A (wM cI cZ cL q kn co bo mn (va_up wd mn ww) (va_up zs mn 2) (upd (upd (upd fp (3 * mn) (nI pp)) (3 * mn + 1) (nI qq)) (3 * mn + 2) (-1)) ho lv fr so ea dn cd nx nd nc al wo wh) := hD
                    refine lv_iconst (v := nI 0) hx hb dM_say_152 (by decide) ?_
                    refine lv_istore (lv' := [(6, .int (nI 0)), (5, .int (nI 1)), (0, .ref (q 0)), (1, .int (nI ww)), (2, .int (nI pp)), (3, .int (nI qq)), (4, .int (-1))]) hx hb dM_say_153 hl (by decide) rfl (fun ls hl => ?_)
                    have LP155 : ∀ (r : Nat) (kx : Nat) (hkx : kx + r = mn) (hE : wt_any (fun k => wt_du1 (va_up wd mn ww) (va_up zs mn 2) (upd (upd (upd fp (3 * mn) (nI pp)) (3 * mn + 1) (nI qq)) (3 * mn + 2) ((-1))) mn ww k) r kx = false) (H : Heap) (locs : List Loc) (hP : va_P (dC, dI) vwCl (wM cI cZ cL q kn co bo mn (va_up wd mn ww) (va_up zs mn 2) (upd (upd (upd fp (3 * mn) (nI pp)) (3 * mn + 1) (nI qq)) (3 * mn + 2) (-1)) ho lv fr so ea dn cd nx nd nc al wo wh) H) (hD : va_D A (wM cI cZ cL q kn co bo mn (va_up wd mn ww) (va_up zs mn 2) (upd (upd (upd fp (3 * mn) (nI pp)) (3 * mn + 1) (nI qq)) (3 * mn + 2) (-1)) ho lv fr so ea dn cd nx nd nc al wo wh)) (hS : va_S A s.heap H locs) (ls : Array Slot) (hl : lv_has ls 7 [(0, .ref (q 0)), (1, .int (nI ww)), (2, .int (nI pp)), (3, .int (nI qq)), (4, .int (-1)), (6, .int (nI kx))]), W p l e (headSpec (Cond.code yM_say cM_say 7 (some .int) :: tb) ({ frames := 3, cells := 0, slots := 0, locals := 72 })).room s m ([.ref (q 0), .int (nI ww), .int (nI pp), .int (nI qq), .int (-1)] : List Value).toArray below meth c H locs 0 0 (MQ below (va_Qi (fun r (_ : Unit) => r = (nI (wt_nod (va_up zs mn 2) (upd (upd (upd fp (3 * mn) (nI pp)) (3 * mn + 1) (nI qq)) (3 * mn + 2) ((-1))) (mn + 1)))) (wt_B (dC, dI) vwCl A (wM cI cZ cL q kn co bo (mn + 1) (va_up wd mn ww) (va_up zs mn 2) (upd (upd (upd fp (3 * mn) (nI pp)) (3 * mn + 1) (nI qq)) (3 * mn + 2) ((-1))) ho lv fr so ea dn cd nx nd nc al wo wh)) A) ([.ref (q 0), .int (nI ww), .int (nI pp), .int (nI qq), .int (-1)] : List Value).toArray s 0 0 A) (F0 m 155 ls []) := by
                      intro r
                      induction r with
                      | zero =>
                        intro kx hkx hE H locs hP hD hS ls hl
                        have hl : lv_has ls 7 [(0, .ref (q 0)), (1, .int (nI ww)), (2, .int (nI pp)), (3, .int (nI qq)), (4, .int (-1)), (6, .int (nI kx))] := hl
                        refine lv_iload hx hb dM_say_155 (lv_at hl 5 rfl) ?_
                        refine lv_aload_n hx hb dM_say_157 rfl (lv_at hl 0 rfl) ?_
                        refine va_get (D := (dC, dI)) (ci := 5) (v := .int (nI mn)) (C := RM) (T := TM) (N := 20) hx hb ht inM hown hK hP 0 rfl rfl 3 (by decide) (ht _ m_397) (fun _ h9 => h9) rfl dM_say_158 ?_
                        refine wt_icmp_ge (tgt := 222) hx hb dM_say_161 (by decide) (by first | omega | exact hw1 _ | (have := hz1 kx; have := hz1 mn; omega)) (by first | omega | exact hw1 _ | (have := hz1 kx; have := hz1 mn; omega)) (fun c_10 => ?_) (fun c_10 => ?_)
                        · skip
                          refine lv_aload_n hx hb dM_say_222 rfl (lv_at hl 0 rfl) ?_
                          refine lv_dup hx hb dM_say_223 rfl ?_
                          refine va_get (D := (dC, dI)) (ci := 5) (v := .int (nI mn)) (C := RM) (T := TM) (N := 20) hx hb ht inM hown hK hP 0 rfl rfl 3 (by decide) (ht _ m_397) (fun _ h9 => h9) rfl dM_say_224 ?_
                          refine lv_iconst (v := nI 1) hx hb dM_say_227 (by decide) ?_
                          refine wt_iadd hx hb dM_say_228 ?_
                          refine va_put (D := (dC, dI)) (ci := 5) (v := .int (nI (mn + 1))) (ty := .int) (C := RM) (T := TM) (N := 20) hx hb ht inM tyM tyM_ok nmM hown hK hP hD hS 0 rfl rfl 3 (by decide) (ht _ m_397) (fun _ h9 => h9) rfl (by decide +kernel) rfl rfl (Nat.le_of_ble_eq_true rfl) dM_say_229 (fun H locs hP hD hS => ?_)
                          have hP : va_P (dC, dI) vwCl (wM cI cZ cL q kn co bo (mn + 1) (va_up wd mn ww) (va_up zs mn 2) (upd (upd (upd fp (3 * mn) (nI pp)) (3 * mn + 1) (nI qq)) (3 * mn + 2) (-1)) ho lv fr so ea dn cd nx nd nc al wo wh) H := hP
                          have hD : va_D A (wM cI cZ cL q kn co bo (mn + 1) (va_up wd mn ww) (va_up zs mn 2) (upd (upd (upd fp (3 * mn) (nI pp)) (3 * mn + 1) (nI qq)) (3 * mn + 2) (-1)) ho lv fr so ea dn cd nx nd nc al wo wh) := hD
                          refine lv_aload_n hx hb dM_say_232 rfl (lv_at hl 0 rfl) ?_
                          refine wt_roi (va_runV (As := []) (rest := []) ⟨hx, hb, hml, hown, ht⟩ (c_M_nodes l dC dI cI cZ cL q kn co bo (mn + 1) (va_up wd mn ww) (va_up zs mn 2) (upd (upd (upd fp (3 * mn) (nI pp)) (3 * mn + 1) (nI qq)) (3 * mn + 2) (-1)) ho lv fr so ea dn cd nx nd nc al wo wh (by omega) hz1) (cwV 0 ht (good_V m_474 m_456 m_457 m_7 m_458) rfl rfl rfl (by decide +kernel) ⟨Nat.le_of_ble_eq_true rfl, Nat.le_of_ble_eq_true rfl⟩) (wt_preV hK hN hP (va_recv hK hP (ci := 5) (q0 := 0) rfl rfl)) rfl rfl hl.1 rfl (lv_room (Nat.le_of_ble_eq_true rfl)) dM_say_233 ⟨Nat.le_of_ble_eq_true rfl, Nat.le_of_ble_eq_true rfl⟩) ?_
                          have hP9 : va_P (dC, dI) vwCl (wM cI cZ cL q kn co bo (mn + 1) (va_up wd mn ww) (va_up zs mn 2) (upd (upd (upd fp (3 * mn) (nI pp)) (3 * mn + 1) (nI qq)) (3 * mn + 2) ((-1))) ho lv fr so ea dn cd nx nd nc al wo wh) H := by exact hP
                          have hD9 : va_D A (wM cI cZ cL q kn co bo (mn + 1) (va_up wd mn ww) (va_up zs mn 2) (upd (upd (upd fp (3 * mn) (nI pp)) (3 * mn + 1) (nI qq)) (3 * mn + 2) ((-1))) ho lv fr so ea dn cd nx nd nc al wo wh) := by exact hD
                          exact W.iret (v := nI (wt_nod (va_up zs mn 2) (upd (upd (upd fp (3 * mn) (nI pp)) (3 * mn + 1) (nI qq)) (3 * mn + 2) (-1)) (mn + 1))) hx hb hr (fun t ht hW => ⟨⟨_, (), rfl, rfl, by rw [ht]; exact hP9, hD9⟩, hS.F ht⟩) hS.2.2 dM_say_236
                        · first | exact absurd c_10 (by omega) | exact absurd c_10 (by decide) | exact absurd (by decide) c_10
                      | succ r ih155 =>
                        intro kx hkx hE H locs hP hD hS ls hl
                        have hl : lv_has ls 7 [(0, .ref (q 0)), (1, .int (nI ww)), (2, .int (nI pp)), (3, .int (nI qq)), (4, .int (-1)), (6, .int (nI kx))] := hl
                        refine lv_iload hx hb dM_say_155 (lv_at hl 5 rfl) ?_
                        refine lv_aload_n hx hb dM_say_157 rfl (lv_at hl 0 rfl) ?_
                        refine va_get (D := (dC, dI)) (ci := 5) (v := .int (nI mn)) (C := RM) (T := TM) (N := 20) hx hb ht inM hown hK hP 0 rfl rfl 3 (by decide) (ht _ m_397) (fun _ h9 => h9) rfl dM_say_158 ?_
                        refine wt_icmp_ge (tgt := 222) hx hb dM_say_161 (by decide) (by first | omega | exact hw1 _ | (have := hz1 kx; have := hz1 mn; omega)) (by first | omega | exact hw1 _ | (have := hz1 kx; have := hz1 mn; omega)) (fun c_11 => ?_) (fun c_11 => ?_)
                        · first | exact absurd c_11 (by omega) | exact absurd c_11 (by decide) | exact absurd (by decide) c_11
                        · skip
                          refine lv_aload_n hx hb dM_say_164 rfl (lv_at hl 0 rfl) ?_
                          refine va_get (D := (dC, dI)) (ci := 5) (v := .ref (q 4)) (C := RM) (T := TM) (N := 20) hx hb ht inM hown hK hP 0 rfl rfl 4 (by decide) (ht _ m_398) (fun _ h9 => h9) rfl dM_say_165 ?_
                          refine lv_iload hx hb dM_say_168 (lv_at hl 5 rfl) ?_
                          refine wt_ialdN hx hb hK hP 4 0 rfl rfl (k := kx) (by first | omega | exact hw1 _ | (have := hz1 kx; have := hz1 mn; omega)) (by decide) dM_say_170 ?_
                          refine lv_iload_n hx hb dM_say_171 rfl (lv_at hl 1 rfl) ?_
                          refine wt_icmp_ne (tgt := 216) hx hb dM_say_172 (by decide) (by first | omega | exact hw1 _ | (have := hz1 kx; have := hz1 mn; omega)) (by first | omega | exact hw1 _ | (have := hz1 kx; have := hz1 mn; omega)) (fun c_12 => ?_) (fun c_12 => ?_)
                          · skip
                            refine lv_iinc (v := nI (kx + 1)) (lv' := [(6, .int (nI (kx + 1))), (0, .ref (q 0)), (1, .int (nI ww)), (2, .int (nI pp)), (3, .int (nI qq)), (4, .int (-1))]) hx hb dM_say_216 hl (k := 5) rfl (wt_inc1 kx) (by decide) rfl (fun ls hl => ?_)
                            refine lv_goto (tgt := 155) hx hb dM_say_219 (by decide) ?_
                            exact ih155 (kx + 1) (by omega) ((wt_any_n hE).1) _ _ hP hD hS ls (lv_sub hl [1, 2, 3, 4, 5, 0] rfl)
                          · skip
                            refine lv_aload_n hx hb dM_say_175 rfl (lv_at hl 0 rfl) ?_
                            refine va_get (D := (dC, dI)) (ci := 5) (v := .ref (q 5)) (C := RM) (T := TM) (N := 20) hx hb ht inM hown hK hP 0 rfl rfl 5 (by decide) (ht _ m_399) (fun _ h9 => h9) rfl dM_say_176 ?_
                            refine lv_iload hx hb dM_say_179 (lv_at hl 5 rfl) ?_
                            refine wt_ialdN hx hb hK hP 5 0 rfl rfl (k := kx) (by first | omega | exact hw1 _ | (have := hz1 kx; have := hz1 mn; omega)) (by decide) dM_say_181 ?_
                            refine lv_aload_n hx hb dM_say_182 rfl (lv_at hl 0 rfl) ?_
                            refine va_get (D := (dC, dI)) (ci := 5) (v := .ref (q 5)) (C := RM) (T := TM) (N := 20) hx hb ht inM hown hK hP 0 rfl rfl 5 (by decide) (ht _ m_399) (fun _ h9 => h9) rfl dM_say_183 ?_
                            refine lv_aload_n hx hb dM_say_186 rfl (lv_at hl 0 rfl) ?_
                            refine va_get (D := (dC, dI)) (ci := 5) (v := .int (nI mn)) (C := RM) (T := TM) (N := 20) hx hb ht inM hown hK hP 0 rfl rfl 3 (by decide) (ht _ m_397) (fun _ h9 => h9) rfl dM_say_187 ?_
                            refine wt_ialdN hx hb hK hP 5 0 rfl rfl (k := mn) (by first | omega | exact hw1 _ | (have := hz1 kx; have := hz1 mn; omega)) (by decide) dM_say_190 ?_
                            refine wt_icmp_ne (tgt := 216) hx hb dM_say_191 (by decide) (by first | omega | exact hw1 _ | (have := hz1 kx; have := hz1 mn; omega)) (by first | omega | exact hw1 _ | (have := hz1 kx; have := hz1 mn; omega)) (fun c_13 => ?_) (fun c_13 => ?_)
                            · skip
                              refine lv_iinc (v := nI (kx + 1)) (lv' := [(6, .int (nI (kx + 1))), (0, .ref (q 0)), (1, .int (nI ww)), (2, .int (nI pp)), (3, .int (nI qq)), (4, .int (-1))]) hx hb dM_say_216 hl (k := 5) rfl (wt_inc1 kx) (by decide) rfl (fun ls hl => ?_)
                              refine lv_goto (tgt := 155) hx hb dM_say_219 (by decide) ?_
                              exact ih155 (kx + 1) (by omega) ((wt_any_n hE).1) _ _ hP hD hS ls (lv_sub hl [1, 2, 3, 4, 5, 0] rfl)
                            · skip
                              refine lv_aload_n hx hb dM_say_194 rfl (lv_at hl 0 rfl) ?_
                              refine lv_iload hx hb dM_say_195 (lv_at hl 5 rfl) ?_
                              refine lv_aload_n hx hb dM_say_197 rfl (lv_at hl 0 rfl) ?_
                              refine va_get (D := (dC, dI)) (ci := 5) (v := .int (nI mn)) (C := RM) (T := TM) (N := 20) hx hb ht inM hown hK hP 0 rfl rfl 3 (by decide) (ht _ m_397) (fun _ h9 => h9) rfl dM_say_198 ?_
                              refine lv_aload_n hx hb dM_say_201 rfl (lv_at hl 0 rfl) ?_
                              refine va_get (D := (dC, dI)) (ci := 5) (v := .ref (q 5)) (C := RM) (T := TM) (N := 20) hx hb ht inM hown hK hP 0 rfl rfl 5 (by decide) (ht _ m_399) (fun _ h9 => h9) rfl dM_say_202 ?_
                              refine lv_iload hx hb dM_say_205 (lv_at hl 5 rfl) ?_
                              refine wt_ialdN hx hb hK hP 5 0 rfl rfl (k := kx) (by first | omega | exact hw1 _ | (have := hz1 kx; have := hz1 mn; omega)) (by decide) dM_say_207 ?_
                              refine wt_roi (va_runV (As := [.int (nI kx), .int (nI mn), .int (nI ((va_up zs mn 2) kx))]) (rest := []) ⟨hx, hb, hml, hown, ht⟩ (c_M_begins l dC dI cI cZ cL q kn co bo mn (va_up wd mn ww) (va_up zs mn 2) (upd (upd (upd fp (3 * mn) (nI pp)) (3 * mn + 1) (nI qq)) (3 * mn + 2) (-1)) ho lv fr so ea dn cd nx nd nc al wo wh kx mn ((va_up zs mn 2) kx) (by omega) (by omega) (hz1 kx) hz1) (cwV 3 ht (good_V m_463 m_465 ms_12 m_7 m_466) rfl rfl rfl (by decide +kernel) ⟨Nat.le_of_ble_eq_true rfl, Nat.le_of_ble_eq_true rfl⟩) (wt_preV hK hN hP (va_recv hK hP (ci := 5) (q0 := 0) rfl rfl)) rfl rfl hl.1 rfl (lv_room (Nat.le_of_ble_eq_true rfl)) dM_say_208 ⟨Nat.le_of_ble_eq_true rfl, Nat.le_of_ble_eq_true rfl⟩) ?_
                              refine wt_bif_eq (tgt := 216) hx hb dM_say_211 (by decide) (fun c_14 => ?_) (fun c_14 => ?_)
                              · skip
                                refine lv_iinc (v := nI (kx + 1)) (lv' := [(6, .int (nI (kx + 1))), (0, .ref (q 0)), (1, .int (nI ww)), (2, .int (nI pp)), (3, .int (nI qq)), (4, .int (-1))]) hx hb dM_say_216 hl (k := 5) rfl (wt_inc1 kx) (by decide) rfl (fun ls hl => ?_)
                                refine lv_goto (tgt := 155) hx hb dM_say_219 (by decide) ?_
                                exact ih155 (kx + 1) (by omega) ((wt_any_n hE).1) _ _ hP hD hS ls (lv_sub hl [1, 2, 3, 4, 5, 0] rfl)
                              · exact absurd (wt_any_n hE).2 (by show ¬ wt_du1 _ _ _ _ _ _ = false; unfold wt_du1; rw [decide_eq_true c_12, decide_eq_true c_13, c_14]; decide)
                    exact LP155 mn 0 (Nat.zero_add mn) hdu _ _ hP hD hS ls (lv_sub hl [2, 3, 4, 5, 6, 0] rfl)
                · exact absurd c_8 (wt_nI_nem1 (by first | omega | exact hw1 _ | (have := hz1 kx; have := hz1 mn; omega)))
              · exact absurd c_7 (by omega)
          · exact absurd rfl c_5

set_option maxHeartbeats 4000000 in
set_option maxRecDepth 100000 in
theorem c_M_say_3f (l : Launch) (dC : Nat → ClassId) (dI : Nat → Nat → Nat) (cI cZ cL : ClassId) (q : Nat → Nat) (kn : Nat → Bool) (co : Nat → Int32) (bo : Nat → Int32) (mn : Nat) (wd : Nat → Nat) (zs : Nat → Nat) (fp : Nat → Int32) (ho : Nat → Int32) (lv : Nat → Int32) (fr : Nat) (so : Nat → Int32) (ea : Nat → Int32) (dn : Nat → Int32) (cd : Nat → Int32) (nx : Nat → Int32) (nd : Nat → Int32) (nc : Nat → Int32) (al : Int32) (wo : Int32) (wh : Int32) (ww : Nat) (pp : Nat) (qq : Nat) (rr : Nat) (hww : ww < 4) (hpp : pp < 4) (hqq : qq < 4) (hrr : rr < 4) (hmn : mn = 8) : Met l yM_say (Cond.code yM_say cM_say 7 (some .int) :: tb) ({ frames := 1, cells := 0, slots := 0, locals := 21 }) (va_Pc [.ref (q 0), .int (nI ww), .int (nI pp), .int (nI qq), .int (nI rr)] (wt_ro (dC, dI) vwCl [(cI, .int), (cZ, .boolean), (cL, .long)] (wM cI cZ cL q kn co bo mn wd zs fp ho lv fr so ea dn cd nx nd nc al wo wh))) (vp_Si (fun r => r = (-1))) 0 0 (fun _ => False) := by
  refine Met.ofW (cc := cM_say) (maxL := 7) (ret := (some .int)) (by decide) rfl ?_
  intro p e s m args below meth c s₁ B hml hv
  obtain ⟨rfl, hP, hK, hN⟩ := hv
  have hx := B.exec
  have hb := B.bytes
  have hr := B.returns
  have hts := atoms_spec (ws := (Cond.code yM_say cM_say 7 (some .int) :: tb)) B.pre
  have ht : ∀ w ∈ tb, w.before _ s = true := fun w h => hts w (List.mem_cons_of_mem _ h)
  have hown : s.vm.findClass RM = some m.cls := findClass_of_methodNamed B.named
  have hlocks := B.notSynchronized
  have hl := lv_entry ([.ref (q 0), .int (nI ww), .int (nI pp), .int (nI qq), .int (nI rr)]) (n := 7) (Nat.le_of_ble_eq_true rfl)
  rw [lg_entry_eq]
  generalize (lg_sl ([.ref (q 0), .int (nI ww), .int (nI pp), .int (nI qq), .int (nI rr)]) ++ List.replicate (7 - (lg_sl ([.ref (q 0), .int (nI ww), .int (nI pp), .int (nI qq), .int (nI rr)])).length) Slot.unset).toArray = ls at hl ⊢
  have hl : lv_has ls 7 [(0, .ref (q 0)), (1, .int (nI ww)), (2, .int (nI pp)), (3, .int (nI qq)), (4, .int (nI rr))] := hl
  refine lv_iload_n hx hb dM_say_0 rfl (lv_at hl 1 rfl) ?_
  refine lv_iconst (v := nI 3) hx hb dM_say_1 (by decide) ?_
  refine wt_roi (va_runS (As := [.int (nI ww), .int (nI 3)]) (rest := []) ⟨hx, hb, hml, hown, ht⟩ (c_M_up_3 l dC dI cI cZ cL (nI ww)) (va_cwS 2 ht (good_S m_471 m_472 m_7 m_473) rfl rfl rfl (by decide +kernel) ⟨Nat.le_of_ble_eq_true rfl, Nat.le_of_ble_eq_true rfl⟩) (wt_preS hK hN (hP.sub [] rfl)) rfl rfl hl.1 rfl (lv_room (Nat.le_of_ble_eq_true rfl)) dM_say_2 ⟨Nat.le_of_ble_eq_true rfl, Nat.le_of_ble_eq_true rfl⟩) ?_
  refine lv_if_eq (tgt := 53) hx hb dM_say_5 (by decide) (fun c_1 => ?_) (fun c_1 => ?_)
  · exact absurd c_1 (wt_rn hww (by decide))
  · skip
    refine lv_iload_n hx hb dM_say_8 rfl (lv_at hl 2 rfl) ?_
    refine lv_iconst (v := nI 3) hx hb dM_say_9 (by decide) ?_
    refine wt_roi (va_runS (As := [.int (nI pp), .int (nI 3)]) (rest := []) ⟨hx, hb, hml, hown, ht⟩ (c_M_up_3 l dC dI cI cZ cL (nI pp)) (va_cwS 2 ht (good_S m_471 m_472 m_7 m_473) rfl rfl rfl (by decide +kernel) ⟨Nat.le_of_ble_eq_true rfl, Nat.le_of_ble_eq_true rfl⟩) (wt_preS hK hN (hP.sub [] rfl)) rfl rfl hl.1 rfl (lv_room (Nat.le_of_ble_eq_true rfl)) dM_say_10 ⟨Nat.le_of_ble_eq_true rfl, Nat.le_of_ble_eq_true rfl⟩) ?_
    refine lv_if_eq (tgt := 53) hx hb dM_say_13 (by decide) (fun c_2 => ?_) (fun c_2 => ?_)
    · exact absurd c_2 (wt_rn hpp (by decide))
    · skip
      refine lv_iload_n hx hb dM_say_16 rfl (lv_at hl 3 rfl) ?_
      refine lv_iconst (v := (-1)) hx hb dM_say_17 (by decide) ?_
      refine lv_icmp_eq (tgt := 29) hx hb dM_say_18 (by decide) (fun c_3 => ?_) (fun c_3 => ?_)
      · exact absurd c_3 (wt_nI_nem1 (by omega))
      · skip
        refine lv_iload_n hx hb dM_say_21 rfl (lv_at hl 3 rfl) ?_
        refine lv_iconst (v := nI 3) hx hb dM_say_22 (by decide) ?_
        refine wt_roi (va_runS (As := [.int (nI qq), .int (nI 3)]) (rest := []) ⟨hx, hb, hml, hown, ht⟩ (c_M_up_3 l dC dI cI cZ cL (nI qq)) (va_cwS 2 ht (good_S m_471 m_472 m_7 m_473) rfl rfl rfl (by decide +kernel) ⟨Nat.le_of_ble_eq_true rfl, Nat.le_of_ble_eq_true rfl⟩) (wt_preS hK hN (hP.sub [] rfl)) rfl rfl hl.1 rfl (lv_room (Nat.le_of_ble_eq_true rfl)) dM_say_23 ⟨Nat.le_of_ble_eq_true rfl, Nat.le_of_ble_eq_true rfl⟩) ?_
        refine lv_if_eq (tgt := 53) hx hb dM_say_26 (by decide) (fun c_4 => ?_) (fun c_4 => ?_)
        · exact absurd c_4 (wt_rn hqq (by decide))
        · skip
          refine lv_iload hx hb dM_say_29 (lv_at hl 4 rfl) ?_
          refine lv_iconst (v := (-1)) hx hb dM_say_31 (by decide) ?_
          refine lv_icmp_eq (tgt := 49) hx hb dM_say_32 (by decide) (fun c_5 => ?_) (fun c_5 => ?_)
          · exact absurd c_5 (wt_nI_nem1 (by omega))
          · skip
            refine lv_iload hx hb dM_say_35 (lv_at hl 4 rfl) ?_
            refine lv_iconst (v := nI 3) hx hb dM_say_37 (by decide) ?_
            refine wt_roi (va_runS (As := [.int (nI rr), .int (nI 3)]) (rest := []) ⟨hx, hb, hml, hown, ht⟩ (c_M_up_3 l dC dI cI cZ cL (nI rr)) (va_cwS 2 ht (good_S m_471 m_472 m_7 m_473) rfl rfl rfl (by decide +kernel) ⟨Nat.le_of_ble_eq_true rfl, Nat.le_of_ble_eq_true rfl⟩) (wt_preS hK hN (hP.sub [] rfl)) rfl rfl hl.1 rfl (lv_room (Nat.le_of_ble_eq_true rfl)) dM_say_38 ⟨Nat.le_of_ble_eq_true rfl, Nat.le_of_ble_eq_true rfl⟩) ?_
            refine lv_if_eq (tgt := 53) hx hb dM_say_41 (by decide) (fun c_6 => ?_) (fun c_6 => ?_)
            · exact absurd c_6 (wt_rn hrr (by decide))
            · skip
              refine lv_iload_n hx hb dM_say_44 rfl (lv_at hl 3 rfl) ?_
              refine lv_iconst (v := (-1)) hx hb dM_say_45 (by decide) ?_
              refine lv_icmp_eq (tgt := 53) hx hb dM_say_46 (by decide) (fun c_7 => ?_) (fun c_7 => ?_)
              · exact absurd c_7 (wt_nI_nem1 (by omega))
              · skip
                refine lv_iconst (v := nI 1) hx hb dM_say_49 (by decide) ?_
                refine lv_goto (tgt := 54) hx hb dM_say_50 (by decide) ?_
                refine lv_istore (lv' := [(5, .int (nI 1)), (0, .ref (q 0)), (1, .int (nI ww)), (2, .int (nI pp)), (3, .int (nI qq)), (4, .int (nI rr))]) hx hb dM_say_54 hl (by decide) rfl (fun ls hl => ?_)
                refine lv_iload hx hb dM_say_56 (lv_at hl 0 rfl) ?_
                refine wt_if_eq (tgt := 70) hx hb dM_say_58 (by decide) (by omega) (fun c_8 => ?_) (fun c_8 => ?_)
                · exact absurd c_8 (by decide)
                · skip
                  refine lv_aload_n hx hb dM_say_61 rfl (lv_at hl 1 rfl) ?_
                  refine va_get (D := (dC, dI)) (ci := 5) (v := .int (nI mn)) (C := RM) (T := TM) (N := 20) hx hb ht inM hown hK hP 0 rfl rfl 3 (by decide) (ht _ m_397) (fun _ h9 => h9) rfl dM_say_62 ?_
                  refine lv_bipush (v := nI 8) hx hb dM_say_65 (by decide) ?_
                  refine wt_icmp_ne (tgt := 72) hx hb dM_say_67 (by decide) (by omega) (by omega) (fun c_9 => ?_) (fun c_9 => ?_)
                  · exact absurd hmn c_9
                  · skip
                    refine lv_iconst (v := (-1)) hx hb dM_say_70 (by decide) ?_
                    exact W.iret (v := (-1)) hx hb hr (fun t ht hW => ⟨_, rfl, rfl, ht⟩) (fun q h => by cases h) dM_say_71

set_option maxHeartbeats 4000000 in
set_option maxRecDepth 100000 in
theorem c_M_say_3d (l : Launch) (dC : Nat → ClassId) (dI : Nat → Nat → Nat) (cI cZ cL : ClassId) (q : Nat → Nat) (sz0 : Nat) (kn : Nat → Bool) (co : Nat → Int32) (bo : Nat → Int32) (mn : Nat) (wd : Nat → Nat) (zs : Nat → Nat) (fp : Nat → Int32) (ho : Nat → Int32) (lv : Nat → Int32) (fr : Nat) (so : Nat → Int32) (ea : Nat → Int32) (dn : Nat → Int32) (cd : Nat → Int32) (nx : Nat → Int32) (nd : Nat → Int32) (nc : Nat → Int32) (al : Int32) (wo : Int32) (wh : Int32) (ww : Nat) (pp : Nat) (qq : Nat) (rr : Nat) (hww : ww < 4) (hpp : pp < 4) (hqq : qq < 4) (hrr : rr < 4) (hmn : mn ≤ 7) (hzs : ∀ k, zs k ≤ 3) (hwd : ∀ j, wd j < 4) (hdu : wt_any (fun k => wt_du1 (va_up wd mn ww) (va_up zs mn 3) (upd (upd (upd fp (3 * mn) (nI pp)) (3 * mn + 1) (nI qq)) (3 * mn + 2) (nI rr)) mn ww k) mn 0 = true) : Met l yM_say (Cond.code yM_say cM_say 7 (some .int) :: tb) ({ frames := 1, cells := 0, slots := 0, locals := 25 }) (va_Pc [.ref (q 0), .int (nI ww), .int (nI pp), .int (nI qq), .int (nI rr)] (wt_rw (dC, dI) vwCl [(cI, .int), (cZ, .boolean), (cL, .long)] (wM cI cZ cL q kn co bo mn wd zs fp ho lv fr so ea dn cd nx nd nc al wo wh) sz0)) (va_Qi (fun r (_ : Unit) => r = (-1)) (wt_B (dC, dI) vwCl (va_A (wM cI cZ cL q kn co bo mn wd zs fp ho lv fr so ea dn cd nx nd nc al wo wh) sz0) (wM cI cZ cL q kn co bo mn (va_up wd mn ww) (va_up zs mn 3) (upd (upd (upd fp (3 * mn) (nI pp)) (3 * mn + 1) (nI qq)) (3 * mn + 2) (nI rr)) ho lv fr so ea dn cd nx nd nc al wo wh)) (va_A (wM cI cZ cL q kn co bo mn wd zs fp ho lv fr so ea dn cd nx nd nc al wo wh) sz0)) 0 0 (va_A (wM cI cZ cL q kn co bo mn wd zs fp ho lv fr so ea dn cd nx nd nc al wo wh) sz0) := by
  refine Met.ofW (cc := cM_say) (maxL := 7) (ret := (some .int)) (by decide) rfl ?_
  intro p e s m args below meth c s₁ B hml hv
  obtain ⟨rfl, hsz, hP, hK, hN, hD0⟩ := hv
  have hx := B.exec
  have hb := B.bytes
  have hr := B.returns
  have hts := atoms_spec (ws := (Cond.code yM_say cM_say 7 (some .int) :: tb)) B.pre
  have ht : ∀ w ∈ tb, w.before _ s = true := fun w h => hts w (List.mem_cons_of_mem _ h)
  have hown : s.vm.findClass RM = some m.cls := findClass_of_methodNamed B.named
  have hlocks := B.notSynchronized
  subst hsz
  have hD := hD0.self (sz := s.heap.size)
  generalize hAe : va_A (wM cI cZ cL q kn co bo mn wd zs fp ho lv fr so ea dn cd nx nd nc al wo wh) s.heap.size = A at hD ⊢
  have hA : ∀ q : Nat, s.heap.size ≤ q → A q := fun q h => by rw [← hAe]; exact Or.inr h
  clear hAe hD0
  have hS : va_S A s.heap s.heap [] := va_S.rf
  have hl := lv_entry ([.ref (q 0), .int (nI ww), .int (nI pp), .int (nI qq), .int (nI rr)]) (n := 7) (Nat.le_of_ble_eq_true rfl)
  rw [lg_entry_eq]
  generalize (lg_sl ([.ref (q 0), .int (nI ww), .int (nI pp), .int (nI qq), .int (nI rr)]) ++ List.replicate (7 - (lg_sl ([.ref (q 0), .int (nI ww), .int (nI pp), .int (nI qq), .int (nI rr)])).length) Slot.unset).toArray = ls at hl ⊢
  have hl : lv_has ls 7 [(0, .ref (q 0)), (1, .int (nI ww)), (2, .int (nI pp)), (3, .int (nI qq)), (4, .int (nI rr))] := hl
  have hz1 : ∀ j, va_up zs mn 3 j ≤ 3 := zs_up hzs (by decide)
  have hw1 : ∀ j, va_up wd mn ww j < 2 ^ 31 := fun j => by have := wd_up (m := mn) hwd hww j; omega
  refine lv_iload_n hx hb dM_say_0 rfl (lv_at hl 1 rfl) ?_
  refine lv_iconst (v := nI 3) hx hb dM_say_1 (by decide) ?_
  refine wt_roi (va_runS (As := [.int (nI ww), .int (nI 3)]) (rest := []) ⟨hx, hb, hml, hown, ht⟩ (c_M_up_3 l dC dI cI cZ cL (nI ww)) (va_cwS 2 ht (good_S m_471 m_472 m_7 m_473) rfl rfl rfl (by decide +kernel) ⟨Nat.le_of_ble_eq_true rfl, Nat.le_of_ble_eq_true rfl⟩) (wt_preS hK hN (hP.sub [] rfl)) rfl rfl hl.1 rfl (lv_room (Nat.le_of_ble_eq_true rfl)) dM_say_2 ⟨Nat.le_of_ble_eq_true rfl, Nat.le_of_ble_eq_true rfl⟩) ?_
  refine lv_if_eq (tgt := 53) hx hb dM_say_5 (by decide) (fun c_1 => ?_) (fun c_1 => ?_)
  · exact absurd c_1 (wt_rn hww (by decide))
  · skip
    refine lv_iload_n hx hb dM_say_8 rfl (lv_at hl 2 rfl) ?_
    refine lv_iconst (v := nI 3) hx hb dM_say_9 (by decide) ?_
    refine wt_roi (va_runS (As := [.int (nI pp), .int (nI 3)]) (rest := []) ⟨hx, hb, hml, hown, ht⟩ (c_M_up_3 l dC dI cI cZ cL (nI pp)) (va_cwS 2 ht (good_S m_471 m_472 m_7 m_473) rfl rfl rfl (by decide +kernel) ⟨Nat.le_of_ble_eq_true rfl, Nat.le_of_ble_eq_true rfl⟩) (wt_preS hK hN (hP.sub [] rfl)) rfl rfl hl.1 rfl (lv_room (Nat.le_of_ble_eq_true rfl)) dM_say_10 ⟨Nat.le_of_ble_eq_true rfl, Nat.le_of_ble_eq_true rfl⟩) ?_
    refine lv_if_eq (tgt := 53) hx hb dM_say_13 (by decide) (fun c_2 => ?_) (fun c_2 => ?_)
    · exact absurd c_2 (wt_rn hpp (by decide))
    · skip
      refine lv_iload_n hx hb dM_say_16 rfl (lv_at hl 3 rfl) ?_
      refine lv_iconst (v := (-1)) hx hb dM_say_17 (by decide) ?_
      refine lv_icmp_eq (tgt := 29) hx hb dM_say_18 (by decide) (fun c_3 => ?_) (fun c_3 => ?_)
      · exact absurd c_3 (wt_nI_nem1 (by first | omega | exact hw1 _ | (have := hz1 kx; have := hz1 mn; omega)))
      · skip
        refine lv_iload_n hx hb dM_say_21 rfl (lv_at hl 3 rfl) ?_
        refine lv_iconst (v := nI 3) hx hb dM_say_22 (by decide) ?_
        refine wt_roi (va_runS (As := [.int (nI qq), .int (nI 3)]) (rest := []) ⟨hx, hb, hml, hown, ht⟩ (c_M_up_3 l dC dI cI cZ cL (nI qq)) (va_cwS 2 ht (good_S m_471 m_472 m_7 m_473) rfl rfl rfl (by decide +kernel) ⟨Nat.le_of_ble_eq_true rfl, Nat.le_of_ble_eq_true rfl⟩) (wt_preS hK hN (hP.sub [] rfl)) rfl rfl hl.1 rfl (lv_room (Nat.le_of_ble_eq_true rfl)) dM_say_23 ⟨Nat.le_of_ble_eq_true rfl, Nat.le_of_ble_eq_true rfl⟩) ?_
        refine lv_if_eq (tgt := 53) hx hb dM_say_26 (by decide) (fun c_4 => ?_) (fun c_4 => ?_)
        · exact absurd c_4 (wt_rn hqq (by decide))
        · skip
          refine lv_iload hx hb dM_say_29 (lv_at hl 4 rfl) ?_
          refine lv_iconst (v := (-1)) hx hb dM_say_31 (by decide) ?_
          refine lv_icmp_eq (tgt := 49) hx hb dM_say_32 (by decide) (fun c_5 => ?_) (fun c_5 => ?_)
          · exact absurd c_5 (wt_nI_nem1 (by first | omega | exact hw1 _ | (have := hz1 kx; have := hz1 mn; omega)))
          · skip
            refine lv_iload hx hb dM_say_35 (lv_at hl 4 rfl) ?_
            refine lv_iconst (v := nI 3) hx hb dM_say_37 (by decide) ?_
            refine wt_roi (va_runS (As := [.int (nI rr), .int (nI 3)]) (rest := []) ⟨hx, hb, hml, hown, ht⟩ (c_M_up_3 l dC dI cI cZ cL (nI rr)) (va_cwS 2 ht (good_S m_471 m_472 m_7 m_473) rfl rfl rfl (by decide +kernel) ⟨Nat.le_of_ble_eq_true rfl, Nat.le_of_ble_eq_true rfl⟩) (wt_preS hK hN (hP.sub [] rfl)) rfl rfl hl.1 rfl (lv_room (Nat.le_of_ble_eq_true rfl)) dM_say_38 ⟨Nat.le_of_ble_eq_true rfl, Nat.le_of_ble_eq_true rfl⟩) ?_
            refine lv_if_eq (tgt := 53) hx hb dM_say_41 (by decide) (fun c_6 => ?_) (fun c_6 => ?_)
            · exact absurd c_6 (wt_rn hrr (by decide))
            · skip
              refine lv_iload_n hx hb dM_say_44 rfl (lv_at hl 3 rfl) ?_
              refine lv_iconst (v := (-1)) hx hb dM_say_45 (by decide) ?_
              refine lv_icmp_eq (tgt := 53) hx hb dM_say_46 (by decide) (fun c_7 => ?_) (fun c_7 => ?_)
              · exact absurd c_7 (wt_nI_nem1 (by first | omega | exact hw1 _ | (have := hz1 kx; have := hz1 mn; omega)))
              · skip
                refine lv_iconst (v := nI 1) hx hb dM_say_49 (by decide) ?_
                refine lv_goto (tgt := 54) hx hb dM_say_50 (by decide) ?_
                refine lv_istore (lv' := [(5, .int (nI 1)), (0, .ref (q 0)), (1, .int (nI ww)), (2, .int (nI pp)), (3, .int (nI qq)), (4, .int (nI rr))]) hx hb dM_say_54 hl (by decide) rfl (fun ls hl => ?_)
                refine lv_iload hx hb dM_say_56 (lv_at hl 0 rfl) ?_
                refine wt_if_eq (tgt := 70) hx hb dM_say_58 (by decide) (by first | omega | exact hw1 _ | (have := hz1 kx; have := hz1 mn; omega)) (fun c_8 => ?_) (fun c_8 => ?_)
                · exact absurd c_8 (by decide)
                · skip
                  refine lv_aload_n hx hb dM_say_61 rfl (lv_at hl 1 rfl) ?_
                  refine va_get (D := (dC, dI)) (ci := 5) (v := .int (nI mn)) (C := RM) (T := TM) (N := 20) hx hb ht inM hown hK hP 0 rfl rfl 3 (by decide) (ht _ m_397) (fun _ h9 => h9) rfl dM_say_62 ?_
                  refine lv_bipush (v := nI 8) hx hb dM_say_65 (by decide) ?_
                  refine wt_icmp_ne (tgt := 72) hx hb dM_say_67 (by decide) (by first | omega | exact hw1 _ | (have := hz1 kx; have := hz1 mn; omega)) (by first | omega | exact hw1 _ | (have := hz1 kx; have := hz1 mn; omega)) (fun c_9 => ?_) (fun c_9 => ?_)
                  · skip
                    refine lv_aload_n hx hb dM_say_72 rfl (lv_at hl 1 rfl) ?_
                    refine va_get (D := (dC, dI)) (ci := 5) (v := .ref (q 4)) (C := RM) (T := TM) (N := 20) hx hb ht inM hown hK hP 0 rfl rfl 4 (by decide) (ht _ m_398) (fun _ h9 => h9) rfl dM_say_73 ?_
                    refine lv_aload_n hx hb dM_say_76 rfl (lv_at hl 1 rfl) ?_
                    refine va_get (D := (dC, dI)) (ci := 5) (v := .int (nI mn)) (C := RM) (T := TM) (N := 20) hx hb ht inM hown hK hP 0 rfl rfl 3 (by decide) (ht _ m_397) (fun _ h9 => h9) rfl dM_say_77 ?_
                    refine lv_iload_n hx hb dM_say_80 rfl (lv_at hl 2 rfl) ?_
                    refine wt_iastN hx hb hK hP hD hS 4 0 rfl rfl (k := mn) (by first | omega | exact hw1 _ | (have := hz1 kx; have := hz1 mn; omega)) (by decide) dM_say_81 (fun H locs hP hD hS => ?_)
                    have hP : va_P (dC, dI) vwCl (wM cI cZ cL q kn co bo mn (va_up wd mn ww) zs fp ho lv fr so ea dn cd nx nd nc al wo wh) H := hP
                    have hD : va_D A (wM cI cZ cL q kn co bo mn (va_up wd mn ww) zs fp ho lv fr so ea dn cd nx nd nc al wo wh) := hD
                    refine lv_aload_n hx hb dM_say_82 rfl (lv_at hl 1 rfl) ?_
                    refine va_get (D := (dC, dI)) (ci := 5) (v := .ref (q 5)) (C := RM) (T := TM) (N := 20) hx hb ht inM hown hK hP 0 rfl rfl 5 (by decide) (ht _ m_399) (fun _ h9 => h9) rfl dM_say_83 ?_
                    refine lv_aload_n hx hb dM_say_86 rfl (lv_at hl 1 rfl) ?_
                    refine va_get (D := (dC, dI)) (ci := 5) (v := .int (nI mn)) (C := RM) (T := TM) (N := 20) hx hb ht inM hown hK hP 0 rfl rfl 3 (by decide) (ht _ m_397) (fun _ h9 => h9) rfl dM_say_87 ?_
                    refine lv_iload_n hx hb dM_say_90 rfl (lv_at hl 4 rfl) ?_
                    refine lv_iconst (v := (-1)) hx hb dM_say_91 (by decide) ?_
                    refine lv_icmp_ne (tgt := 99) hx hb dM_say_92 (by decide) (fun c_10 => ?_) (fun c_10 => ?_)
                    · skip
                      refine lv_iload hx hb dM_say_99 (lv_at hl 5 rfl) ?_
                      refine lv_iconst (v := (-1)) hx hb dM_say_101 (by decide) ?_
                      refine lv_icmp_ne (tgt := 109) hx hb dM_say_102 (by decide) (fun c_11 => ?_) (fun c_11 => ?_)
                      · skip
                        refine lv_iconst (v := nI 3) hx hb dM_say_109 (by decide) ?_
                        refine wt_iastN hx hb hK hP hD hS 5 0 rfl rfl (k := mn) (by first | omega | exact hw1 _ | (have := hz1 kx; have := hz1 mn; omega)) (by decide) dM_say_110 (fun H locs hP hD hS => ?_)
                        have hP : va_P (dC, dI) vwCl (wM cI cZ cL q kn co bo mn (va_up wd mn ww) (va_up zs mn 3) fp ho lv fr so ea dn cd nx nd nc al wo wh) H := hP
                        have hD : va_D A (wM cI cZ cL q kn co bo mn (va_up wd mn ww) (va_up zs mn 3) fp ho lv fr so ea dn cd nx nd nc al wo wh) := hD
                        refine lv_aload_n hx hb dM_say_111 rfl (lv_at hl 1 rfl) ?_
                        refine va_get (D := (dC, dI)) (ci := 5) (v := .ref (q 6)) (C := RM) (T := TM) (N := 20) hx hb ht inM hown hK hP 0 rfl rfl 6 (by decide) (ht _ m_400) (fun _ h9 => h9) rfl dM_say_112 ?_
                        refine lv_iconst (v := nI 3) hx hb dM_say_115 (by decide) ?_
                        refine lv_aload_n hx hb dM_say_116 rfl (lv_at hl 1 rfl) ?_
                        refine va_get (D := (dC, dI)) (ci := 5) (v := .int (nI mn)) (C := RM) (T := TM) (N := 20) hx hb ht inM hown hK hP 0 rfl rfl 3 (by decide) (ht _ m_397) (fun _ h9 => h9) rfl dM_say_117 ?_
                        refine wt_imul hx hb dM_say_120 ?_
                        refine lv_iload_n hx hb dM_say_121 rfl (lv_at hl 3 rfl) ?_
                        refine wt_iast hx hb hK hP hD hS 6 0 rfl rfl (k := 3 * mn) (by first | omega | exact hw1 _ | (have := hz1 kx; have := hz1 mn; omega)) (by decide) dM_say_122 (fun H locs hP hD hS => ?_)
                        have hP : va_P (dC, dI) vwCl (wM cI cZ cL q kn co bo mn (va_up wd mn ww) (va_up zs mn 3) (upd fp (3 * mn) (nI pp)) ho lv fr so ea dn cd nx nd nc al wo wh) H := hP
                        have hD : va_D A (wM cI cZ cL q kn co bo mn (va_up wd mn ww) (va_up zs mn 3) (upd fp (3 * mn) (nI pp)) ho lv fr so ea dn cd nx nd nc al wo wh) := hD
                        refine lv_aload_n hx hb dM_say_123 rfl (lv_at hl 1 rfl) ?_
                        refine va_get (D := (dC, dI)) (ci := 5) (v := .ref (q 6)) (C := RM) (T := TM) (N := 20) hx hb ht inM hown hK hP 0 rfl rfl 6 (by decide) (ht _ m_400) (fun _ h9 => h9) rfl dM_say_124 ?_
                        refine lv_iconst (v := nI 3) hx hb dM_say_127 (by decide) ?_
                        refine lv_aload_n hx hb dM_say_128 rfl (lv_at hl 1 rfl) ?_
                        refine va_get (D := (dC, dI)) (ci := 5) (v := .int (nI mn)) (C := RM) (T := TM) (N := 20) hx hb ht inM hown hK hP 0 rfl rfl 3 (by decide) (ht _ m_397) (fun _ h9 => h9) rfl dM_say_129 ?_
                        refine wt_imul hx hb dM_say_132 ?_
                        refine lv_iconst (v := nI 1) hx hb dM_say_133 (by decide) ?_
                        refine wt_iadd hx hb dM_say_134 ?_
                        refine lv_iload_n hx hb dM_say_135 rfl (lv_at hl 4 rfl) ?_
                        refine wt_iast hx hb hK hP hD hS 6 0 rfl rfl (k := 3 * mn + 1) (by first | omega | exact hw1 _ | (have := hz1 kx; have := hz1 mn; omega)) (by decide) dM_say_136 (fun H locs hP hD hS => ?_)
                        have hP : va_P (dC, dI) vwCl (wM cI cZ cL q kn co bo mn (va_up wd mn ww) (va_up zs mn 3) (upd (upd fp (3 * mn) (nI pp)) (3 * mn + 1) (nI qq)) ho lv fr so ea dn cd nx nd nc al wo wh) H := hP
                        have hD : va_D A (wM cI cZ cL q kn co bo mn (va_up wd mn ww) (va_up zs mn 3) (upd (upd fp (3 * mn) (nI pp)) (3 * mn + 1) (nI qq)) ho lv fr so ea dn cd nx nd nc al wo wh) := hD
                        refine lv_aload_n hx hb dM_say_137 rfl (lv_at hl 1 rfl) ?_
                        refine va_get (D := (dC, dI)) (ci := 5) (v := .ref (q 6)) (C := RM) (T := TM) (N := 20) hx hb ht inM hown hK hP 0 rfl rfl 6 (by decide) (ht _ m_400) (fun _ h9 => h9) rfl dM_say_138 ?_
                        refine lv_iconst (v := nI 3) hx hb dM_say_141 (by decide) ?_
                        refine lv_aload_n hx hb dM_say_142 rfl (lv_at hl 1 rfl) ?_
                        refine va_get (D := (dC, dI)) (ci := 5) (v := .int (nI mn)) (C := RM) (T := TM) (N := 20) hx hb ht inM hown hK hP 0 rfl rfl 3 (by decide) (ht _ m_397) (fun _ h9 => h9) rfl dM_say_143 ?_
                        refine wt_imul hx hb dM_say_146 ?_
                        refine lv_iconst (v := nI 2) hx hb dM_say_147 (by decide) ?_
                        refine wt_iadd hx hb dM_say_148 ?_
                        refine lv_iload hx hb dM_say_149 (lv_at hl 5 rfl) ?_
                        refine wt_iast hx hb hK hP hD hS 6 0 rfl rfl (k := 3 * mn + 2) (by first | omega | exact hw1 _ | (have := hz1 kx; have := hz1 mn; omega)) (by decide) dM_say_151 (fun H locs hP hD hS => ?_)
                        have hP : va_P (dC, dI) vwCl (wM cI cZ cL q kn co bo mn (va_up wd mn ww) (va_up zs mn 3) (upd (upd (upd fp (3 * mn) (nI pp)) (3 * mn + 1) (nI qq)) (3 * mn + 2) (nI rr)) ho lv fr so ea dn cd nx nd nc al wo wh) H := hP
                        have hD : va_D A (wM cI cZ cL q kn co bo mn (va_up wd mn ww) (va_up zs mn 3) (upd (upd (upd fp (3 * mn) (nI pp)) (3 * mn + 1) (nI qq)) (3 * mn + 2) (nI rr)) ho lv fr so ea dn cd nx nd nc al wo wh) := hD
                        refine lv_iconst (v := nI 0) hx hb dM_say_152 (by decide) ?_
                        refine lv_istore (lv' := [(6, .int (nI 0)), (5, .int (nI 1)), (0, .ref (q 0)), (1, .int (nI ww)), (2, .int (nI pp)), (3, .int (nI qq)), (4, .int (nI rr))]) hx hb dM_say_153 hl (by decide) rfl (fun ls hl => ?_)
                        have LP155 : ∀ (r : Nat) (kx : Nat) (hkx : kx + r = mn) (hE : wt_any (fun k => wt_du1 (va_up wd mn ww) (va_up zs mn 3) (upd (upd (upd fp (3 * mn) (nI pp)) (3 * mn + 1) (nI qq)) (3 * mn + 2) (nI rr)) mn ww k) r kx = true) (H : Heap) (locs : List Loc) (hP : va_P (dC, dI) vwCl (wM cI cZ cL q kn co bo mn (va_up wd mn ww) (va_up zs mn 3) (upd (upd (upd fp (3 * mn) (nI pp)) (3 * mn + 1) (nI qq)) (3 * mn + 2) (nI rr)) ho lv fr so ea dn cd nx nd nc al wo wh) H) (hD : va_D A (wM cI cZ cL q kn co bo mn (va_up wd mn ww) (va_up zs mn 3) (upd (upd (upd fp (3 * mn) (nI pp)) (3 * mn + 1) (nI qq)) (3 * mn + 2) (nI rr)) ho lv fr so ea dn cd nx nd nc al wo wh)) (hS : va_S A s.heap H locs) (ls : Array Slot) (hl : lv_has ls 7 [(0, .ref (q 0)), (1, .int (nI ww)), (2, .int (nI pp)), (3, .int (nI qq)), (4, .int (nI rr)), (6, .int (nI kx))]), W p l e (headSpec (Cond.code yM_say cM_say 7 (some .int) :: tb) ({ frames := 1, cells := 0, slots := 0, locals := 25 })).room s m ([.ref (q 0), .int (nI ww), .int (nI pp), .int (nI qq), .int (nI rr)] : List Value).toArray below meth c H locs 0 0 (MQ below (va_Qi (fun r (_ : Unit) => r = (-1)) (wt_B (dC, dI) vwCl A (wM cI cZ cL q kn co bo mn (va_up wd mn ww) (va_up zs mn 3) (upd (upd (upd fp (3 * mn) (nI pp)) (3 * mn + 1) (nI qq)) (3 * mn + 2) (nI rr)) ho lv fr so ea dn cd nx nd nc al wo wh)) A) ([.ref (q 0), .int (nI ww), .int (nI pp), .int (nI qq), .int (nI rr)] : List Value).toArray s 0 0 A) (F0 m 155 ls []) := by
                          intro r
                          induction r with
                          | zero =>
                            intro kx hkx hE H locs hP hD hS ls hl
                            have hl : lv_has ls 7 [(0, .ref (q 0)), (1, .int (nI ww)), (2, .int (nI pp)), (3, .int (nI qq)), (4, .int (nI rr)), (6, .int (nI kx))] := hl
                            refine lv_iload hx hb dM_say_155 (lv_at hl 5 rfl) ?_
                            refine lv_aload_n hx hb dM_say_157 rfl (lv_at hl 0 rfl) ?_
                            refine va_get (D := (dC, dI)) (ci := 5) (v := .int (nI mn)) (C := RM) (T := TM) (N := 20) hx hb ht inM hown hK hP 0 rfl rfl 3 (by decide) (ht _ m_397) (fun _ h9 => h9) rfl dM_say_158 ?_
                            refine wt_icmp_ge (tgt := 222) hx hb dM_say_161 (by decide) (by first | omega | exact hw1 _ | (have := hz1 kx; have := hz1 mn; omega)) (by first | omega | exact hw1 _ | (have := hz1 kx; have := hz1 mn; omega)) (fun c_12 => ?_) (fun c_12 => ?_)
                            · exact absurd (show false = true from hE) (by decide)
                            · first | exact absurd c_12 (by omega) | exact absurd c_12 (by decide) | exact absurd (by decide) c_12
                          | succ r ih155 =>
                            intro kx hkx hE H locs hP hD hS ls hl
                            have hl : lv_has ls 7 [(0, .ref (q 0)), (1, .int (nI ww)), (2, .int (nI pp)), (3, .int (nI qq)), (4, .int (nI rr)), (6, .int (nI kx))] := hl
                            refine lv_iload hx hb dM_say_155 (lv_at hl 5 rfl) ?_
                            refine lv_aload_n hx hb dM_say_157 rfl (lv_at hl 0 rfl) ?_
                            refine va_get (D := (dC, dI)) (ci := 5) (v := .int (nI mn)) (C := RM) (T := TM) (N := 20) hx hb ht inM hown hK hP 0 rfl rfl 3 (by decide) (ht _ m_397) (fun _ h9 => h9) rfl dM_say_158 ?_
                            refine wt_icmp_ge (tgt := 222) hx hb dM_say_161 (by decide) (by first | omega | exact hw1 _ | (have := hz1 kx; have := hz1 mn; omega)) (by first | omega | exact hw1 _ | (have := hz1 kx; have := hz1 mn; omega)) (fun c_13 => ?_) (fun c_13 => ?_)
                            · first | exact absurd c_13 (by omega) | exact absurd c_13 (by decide) | exact absurd (by decide) c_13
                            · skip
                              refine lv_aload_n hx hb dM_say_164 rfl (lv_at hl 0 rfl) ?_
                              refine va_get (D := (dC, dI)) (ci := 5) (v := .ref (q 4)) (C := RM) (T := TM) (N := 20) hx hb ht inM hown hK hP 0 rfl rfl 4 (by decide) (ht _ m_398) (fun _ h9 => h9) rfl dM_say_165 ?_
                              refine lv_iload hx hb dM_say_168 (lv_at hl 5 rfl) ?_
                              refine wt_ialdN hx hb hK hP 4 0 rfl rfl (k := kx) (by first | omega | exact hw1 _ | (have := hz1 kx; have := hz1 mn; omega)) (by decide) dM_say_170 ?_
                              refine lv_iload_n hx hb dM_say_171 rfl (lv_at hl 1 rfl) ?_
                              refine wt_icmp_ne (tgt := 216) hx hb dM_say_172 (by decide) (by first | omega | exact hw1 _ | (have := hz1 kx; have := hz1 mn; omega)) (by first | omega | exact hw1 _ | (have := hz1 kx; have := hz1 mn; omega)) (fun c_14 => ?_) (fun c_14 => ?_)
                              · skip
                                refine lv_iinc (v := nI (kx + 1)) (lv' := [(6, .int (nI (kx + 1))), (0, .ref (q 0)), (1, .int (nI ww)), (2, .int (nI pp)), (3, .int (nI qq)), (4, .int (nI rr))]) hx hb dM_say_216 hl (k := 5) rfl (wt_inc1 kx) (by decide) rfl (fun ls hl => ?_)
                                refine lv_goto (tgt := 155) hx hb dM_say_219 (by decide) ?_
                                exact ih155 (kx + 1) (by omega) (wt_any_s hE (by simp [wt_du1, c_14])) _ _ hP hD hS ls (lv_sub hl [1, 2, 3, 4, 5, 0] rfl)
                              · skip
                                refine lv_aload_n hx hb dM_say_175 rfl (lv_at hl 0 rfl) ?_
                                refine va_get (D := (dC, dI)) (ci := 5) (v := .ref (q 5)) (C := RM) (T := TM) (N := 20) hx hb ht inM hown hK hP 0 rfl rfl 5 (by decide) (ht _ m_399) (fun _ h9 => h9) rfl dM_say_176 ?_
                                refine lv_iload hx hb dM_say_179 (lv_at hl 5 rfl) ?_
                                refine wt_ialdN hx hb hK hP 5 0 rfl rfl (k := kx) (by first | omega | exact hw1 _ | (have := hz1 kx; have := hz1 mn; omega)) (by decide) dM_say_181 ?_
                                refine lv_aload_n hx hb dM_say_182 rfl (lv_at hl 0 rfl) ?_
                                refine va_get (D := (dC, dI)) (ci := 5) (v := .ref (q 5)) (C := RM) (T := TM) (N := 20) hx hb ht inM hown hK hP 0 rfl rfl 5 (by decide) (ht _ m_399) (fun _ h9 => h9) rfl dM_say_183 ?_
                                refine lv_aload_n hx hb dM_say_186 rfl (lv_at hl 0 rfl) ?_
                                refine va_get (D := (dC, dI)) (ci := 5) (v := .int (nI mn)) (C := RM) (T := TM) (N := 20) hx hb ht inM hown hK hP 0 rfl rfl 3 (by decide) (ht _ m_397) (fun _ h9 => h9) rfl dM_say_187 ?_
                                refine wt_ialdN hx hb hK hP 5 0 rfl rfl (k := mn) (by first | omega | exact hw1 _ | (have := hz1 kx; have := hz1 mn; omega)) (by decide) dM_say_190 ?_
                                refine wt_icmp_ne (tgt := 216) hx hb dM_say_191 (by decide) (by first | omega | exact hw1 _ | (have := hz1 kx; have := hz1 mn; omega)) (by first | omega | exact hw1 _ | (have := hz1 kx; have := hz1 mn; omega)) (fun c_15 => ?_) (fun c_15 => ?_)
                                · skip
                                  refine lv_iinc (v := nI (kx + 1)) (lv' := [(6, .int (nI (kx + 1))), (0, .ref (q 0)), (1, .int (nI ww)), (2, .int (nI pp)), (3, .int (nI qq)), (4, .int (nI rr))]) hx hb dM_say_216 hl (k := 5) rfl (wt_inc1 kx) (by decide) rfl (fun ls hl => ?_)
                                  refine lv_goto (tgt := 155) hx hb dM_say_219 (by decide) ?_
                                  exact ih155 (kx + 1) (by omega) (wt_any_s hE (by simp [wt_du1, c_15])) _ _ hP hD hS ls (lv_sub hl [1, 2, 3, 4, 5, 0] rfl)
                                · skip
                                  refine lv_aload_n hx hb dM_say_194 rfl (lv_at hl 0 rfl) ?_
                                  refine lv_iload hx hb dM_say_195 (lv_at hl 5 rfl) ?_
                                  refine lv_aload_n hx hb dM_say_197 rfl (lv_at hl 0 rfl) ?_
                                  refine va_get (D := (dC, dI)) (ci := 5) (v := .int (nI mn)) (C := RM) (T := TM) (N := 20) hx hb ht inM hown hK hP 0 rfl rfl 3 (by decide) (ht _ m_397) (fun _ h9 => h9) rfl dM_say_198 ?_
                                  refine lv_aload_n hx hb dM_say_201 rfl (lv_at hl 0 rfl) ?_
                                  refine va_get (D := (dC, dI)) (ci := 5) (v := .ref (q 5)) (C := RM) (T := TM) (N := 20) hx hb ht inM hown hK hP 0 rfl rfl 5 (by decide) (ht _ m_399) (fun _ h9 => h9) rfl dM_say_202 ?_
                                  refine lv_iload hx hb dM_say_205 (lv_at hl 5 rfl) ?_
                                  refine wt_ialdN hx hb hK hP 5 0 rfl rfl (k := kx) (by first | omega | exact hw1 _ | (have := hz1 kx; have := hz1 mn; omega)) (by decide) dM_say_207 ?_
                                  refine wt_roi (va_runV (As := [.int (nI kx), .int (nI mn), .int (nI ((va_up zs mn 3) kx))]) (rest := []) ⟨hx, hb, hml, hown, ht⟩ (c_M_begins l dC dI cI cZ cL q kn co bo mn (va_up wd mn ww) (va_up zs mn 3) (upd (upd (upd fp (3 * mn) (nI pp)) (3 * mn + 1) (nI qq)) (3 * mn + 2) (nI rr)) ho lv fr so ea dn cd nx nd nc al wo wh kx mn ((va_up zs mn 3) kx) (by omega) (by omega) (hz1 kx) hz1) (cwV 3 ht (good_V m_463 m_465 ms_12 m_7 m_466) rfl rfl rfl (by decide +kernel) ⟨Nat.le_of_ble_eq_true rfl, Nat.le_of_ble_eq_true rfl⟩) (wt_preV hK hN hP (va_recv hK hP (ci := 5) (q0 := 0) rfl rfl)) rfl rfl hl.1 rfl (lv_room (Nat.le_of_ble_eq_true rfl)) dM_say_208 ⟨Nat.le_of_ble_eq_true rfl, Nat.le_of_ble_eq_true rfl⟩) ?_
                                  refine wt_bif_eq (tgt := 216) hx hb dM_say_211 (by decide) (fun c_16 => ?_) (fun c_16 => ?_)
                                  · skip
                                    refine lv_iinc (v := nI (kx + 1)) (lv' := [(6, .int (nI (kx + 1))), (0, .ref (q 0)), (1, .int (nI ww)), (2, .int (nI pp)), (3, .int (nI qq)), (4, .int (nI rr))]) hx hb dM_say_216 hl (k := 5) rfl (wt_inc1 kx) (by decide) rfl (fun ls hl => ?_)
                                    refine lv_goto (tgt := 155) hx hb dM_say_219 (by decide) ?_
                                    exact ih155 (kx + 1) (by omega) (wt_any_s hE (by simp [wt_du1, c_16])) _ _ hP hD hS ls (lv_sub hl [1, 2, 3, 4, 5, 0] rfl)
                                  · skip
                                    refine lv_iconst (v := (-1)) hx hb dM_say_214 (by decide) ?_
                                    have hP9 : va_P (dC, dI) vwCl (wM cI cZ cL q kn co bo mn (va_up wd mn ww) (va_up zs mn 3) (upd (upd (upd fp (3 * mn) (nI pp)) (3 * mn + 1) (nI qq)) (3 * mn + 2) (nI rr)) ho lv fr so ea dn cd nx nd nc al wo wh) H := by exact hP
                                    have hD9 : va_D A (wM cI cZ cL q kn co bo mn (va_up wd mn ww) (va_up zs mn 3) (upd (upd (upd fp (3 * mn) (nI pp)) (3 * mn + 1) (nI qq)) (3 * mn + 2) (nI rr)) ho lv fr so ea dn cd nx nd nc al wo wh) := by exact hD
                                    exact W.iret (v := (-1)) hx hb hr (fun t ht hW => ⟨⟨_, (), rfl, rfl, by rw [ht]; exact hP9, hD9⟩, hS.F ht⟩) hS.2.2 dM_say_215
                        exact LP155 mn 0 (Nat.zero_add mn) hdu _ _ hP hD hS ls (lv_sub hl [2, 3, 4, 5, 6, 0] rfl)
                      · exact absurd c_11 (wt_nI_nem1 (by first | omega | exact hw1 _ | (have := hz1 kx; have := hz1 mn; omega)))
                    · exact absurd c_10 (wt_nI_nem1 (by first | omega | exact hw1 _ | (have := hz1 kx; have := hz1 mn; omega)))
                  · exact absurd c_9 (by omega)

set_option maxHeartbeats 4000000 in
set_option maxRecDepth 100000 in
theorem c_M_say_3a (l : Launch) (dC : Nat → ClassId) (dI : Nat → Nat → Nat) (cI cZ cL : ClassId) (q : Nat → Nat) (sz0 : Nat) (kn : Nat → Bool) (co : Nat → Int32) (bo : Nat → Int32) (mn : Nat) (wd : Nat → Nat) (zs : Nat → Nat) (fp : Nat → Int32) (ho : Nat → Int32) (lv : Nat → Int32) (fr : Nat) (so : Nat → Int32) (ea : Nat → Int32) (dn : Nat → Int32) (cd : Nat → Int32) (nx : Nat → Int32) (nd : Nat → Int32) (nc : Nat → Int32) (al : Int32) (wo : Int32) (wh : Int32) (ww : Nat) (pp : Nat) (qq : Nat) (rr : Nat) (hww : ww < 4) (hpp : pp < 4) (hqq : qq < 4) (hrr : rr < 4) (hmn : mn ≤ 7) (hzs : ∀ k, zs k ≤ 3) (hwd : ∀ j, wd j < 4) (hdu : wt_any (fun k => wt_du1 (va_up wd mn ww) (va_up zs mn 3) (upd (upd (upd fp (3 * mn) (nI pp)) (3 * mn + 1) (nI qq)) (3 * mn + 2) (nI rr)) mn ww k) mn 0 = false) : Met l yM_say (Cond.code yM_say cM_say 7 (some .int) :: tb) ({ frames := 3, cells := 0, slots := 0, locals := 72 }) (va_Pc [.ref (q 0), .int (nI ww), .int (nI pp), .int (nI qq), .int (nI rr)] (wt_rw (dC, dI) vwCl [(cI, .int), (cZ, .boolean), (cL, .long)] (wM cI cZ cL q kn co bo mn wd zs fp ho lv fr so ea dn cd nx nd nc al wo wh) sz0)) (va_Qi (fun r (_ : Unit) => r = (nI (wt_nod (va_up zs mn 3) (upd (upd (upd fp (3 * mn) (nI pp)) (3 * mn + 1) (nI qq)) (3 * mn + 2) (nI rr)) (mn + 1)))) (wt_B (dC, dI) vwCl (va_A (wM cI cZ cL q kn co bo mn wd zs fp ho lv fr so ea dn cd nx nd nc al wo wh) sz0) (wM cI cZ cL q kn co bo (mn + 1) (va_up wd mn ww) (va_up zs mn 3) (upd (upd (upd fp (3 * mn) (nI pp)) (3 * mn + 1) (nI qq)) (3 * mn + 2) (nI rr)) ho lv fr so ea dn cd nx nd nc al wo wh)) (va_A (wM cI cZ cL q kn co bo mn wd zs fp ho lv fr so ea dn cd nx nd nc al wo wh) sz0)) 0 0 (va_A (wM cI cZ cL q kn co bo mn wd zs fp ho lv fr so ea dn cd nx nd nc al wo wh) sz0) := by
  refine Met.ofW (cc := cM_say) (maxL := 7) (ret := (some .int)) (by decide) rfl ?_
  intro p e s m args below meth c s₁ B hml hv
  obtain ⟨rfl, hsz, hP, hK, hN, hD0⟩ := hv
  have hx := B.exec
  have hb := B.bytes
  have hr := B.returns
  have hts := atoms_spec (ws := (Cond.code yM_say cM_say 7 (some .int) :: tb)) B.pre
  have ht : ∀ w ∈ tb, w.before _ s = true := fun w h => hts w (List.mem_cons_of_mem _ h)
  have hown : s.vm.findClass RM = some m.cls := findClass_of_methodNamed B.named
  have hlocks := B.notSynchronized
  subst hsz
  have hD := hD0.self (sz := s.heap.size)
  generalize hAe : va_A (wM cI cZ cL q kn co bo mn wd zs fp ho lv fr so ea dn cd nx nd nc al wo wh) s.heap.size = A at hD ⊢
  have hA : ∀ q : Nat, s.heap.size ≤ q → A q := fun q h => by rw [← hAe]; exact Or.inr h
  clear hAe hD0
  have hS : va_S A s.heap s.heap [] := va_S.rf
  have hl := lv_entry ([.ref (q 0), .int (nI ww), .int (nI pp), .int (nI qq), .int (nI rr)]) (n := 7) (Nat.le_of_ble_eq_true rfl)
  rw [lg_entry_eq]
  generalize (lg_sl ([.ref (q 0), .int (nI ww), .int (nI pp), .int (nI qq), .int (nI rr)]) ++ List.replicate (7 - (lg_sl ([.ref (q 0), .int (nI ww), .int (nI pp), .int (nI qq), .int (nI rr)])).length) Slot.unset).toArray = ls at hl ⊢
  have hl : lv_has ls 7 [(0, .ref (q 0)), (1, .int (nI ww)), (2, .int (nI pp)), (3, .int (nI qq)), (4, .int (nI rr))] := hl
  have hz1 : ∀ j, va_up zs mn 3 j ≤ 3 := zs_up hzs (by decide)
  have hw1 : ∀ j, va_up wd mn ww j < 2 ^ 31 := fun j => by have := wd_up (m := mn) hwd hww j; omega
  refine lv_iload_n hx hb dM_say_0 rfl (lv_at hl 1 rfl) ?_
  refine lv_iconst (v := nI 3) hx hb dM_say_1 (by decide) ?_
  refine wt_roi (va_runS (As := [.int (nI ww), .int (nI 3)]) (rest := []) ⟨hx, hb, hml, hown, ht⟩ (c_M_up_3 l dC dI cI cZ cL (nI ww)) (va_cwS 2 ht (good_S m_471 m_472 m_7 m_473) rfl rfl rfl (by decide +kernel) ⟨Nat.le_of_ble_eq_true rfl, Nat.le_of_ble_eq_true rfl⟩) (wt_preS hK hN (hP.sub [] rfl)) rfl rfl hl.1 rfl (lv_room (Nat.le_of_ble_eq_true rfl)) dM_say_2 ⟨Nat.le_of_ble_eq_true rfl, Nat.le_of_ble_eq_true rfl⟩) ?_
  refine lv_if_eq (tgt := 53) hx hb dM_say_5 (by decide) (fun c_1 => ?_) (fun c_1 => ?_)
  · exact absurd c_1 (wt_rn hww (by decide))
  · skip
    refine lv_iload_n hx hb dM_say_8 rfl (lv_at hl 2 rfl) ?_
    refine lv_iconst (v := nI 3) hx hb dM_say_9 (by decide) ?_
    refine wt_roi (va_runS (As := [.int (nI pp), .int (nI 3)]) (rest := []) ⟨hx, hb, hml, hown, ht⟩ (c_M_up_3 l dC dI cI cZ cL (nI pp)) (va_cwS 2 ht (good_S m_471 m_472 m_7 m_473) rfl rfl rfl (by decide +kernel) ⟨Nat.le_of_ble_eq_true rfl, Nat.le_of_ble_eq_true rfl⟩) (wt_preS hK hN (hP.sub [] rfl)) rfl rfl hl.1 rfl (lv_room (Nat.le_of_ble_eq_true rfl)) dM_say_10 ⟨Nat.le_of_ble_eq_true rfl, Nat.le_of_ble_eq_true rfl⟩) ?_
    refine lv_if_eq (tgt := 53) hx hb dM_say_13 (by decide) (fun c_2 => ?_) (fun c_2 => ?_)
    · exact absurd c_2 (wt_rn hpp (by decide))
    · skip
      refine lv_iload_n hx hb dM_say_16 rfl (lv_at hl 3 rfl) ?_
      refine lv_iconst (v := (-1)) hx hb dM_say_17 (by decide) ?_
      refine lv_icmp_eq (tgt := 29) hx hb dM_say_18 (by decide) (fun c_3 => ?_) (fun c_3 => ?_)
      · exact absurd c_3 (wt_nI_nem1 (by first | omega | exact hw1 _ | (have := hz1 kx; have := hz1 mn; omega)))
      · skip
        refine lv_iload_n hx hb dM_say_21 rfl (lv_at hl 3 rfl) ?_
        refine lv_iconst (v := nI 3) hx hb dM_say_22 (by decide) ?_
        refine wt_roi (va_runS (As := [.int (nI qq), .int (nI 3)]) (rest := []) ⟨hx, hb, hml, hown, ht⟩ (c_M_up_3 l dC dI cI cZ cL (nI qq)) (va_cwS 2 ht (good_S m_471 m_472 m_7 m_473) rfl rfl rfl (by decide +kernel) ⟨Nat.le_of_ble_eq_true rfl, Nat.le_of_ble_eq_true rfl⟩) (wt_preS hK hN (hP.sub [] rfl)) rfl rfl hl.1 rfl (lv_room (Nat.le_of_ble_eq_true rfl)) dM_say_23 ⟨Nat.le_of_ble_eq_true rfl, Nat.le_of_ble_eq_true rfl⟩) ?_
        refine lv_if_eq (tgt := 53) hx hb dM_say_26 (by decide) (fun c_4 => ?_) (fun c_4 => ?_)
        · exact absurd c_4 (wt_rn hqq (by decide))
        · skip
          refine lv_iload hx hb dM_say_29 (lv_at hl 4 rfl) ?_
          refine lv_iconst (v := (-1)) hx hb dM_say_31 (by decide) ?_
          refine lv_icmp_eq (tgt := 49) hx hb dM_say_32 (by decide) (fun c_5 => ?_) (fun c_5 => ?_)
          · exact absurd c_5 (wt_nI_nem1 (by first | omega | exact hw1 _ | (have := hz1 kx; have := hz1 mn; omega)))
          · skip
            refine lv_iload hx hb dM_say_35 (lv_at hl 4 rfl) ?_
            refine lv_iconst (v := nI 3) hx hb dM_say_37 (by decide) ?_
            refine wt_roi (va_runS (As := [.int (nI rr), .int (nI 3)]) (rest := []) ⟨hx, hb, hml, hown, ht⟩ (c_M_up_3 l dC dI cI cZ cL (nI rr)) (va_cwS 2 ht (good_S m_471 m_472 m_7 m_473) rfl rfl rfl (by decide +kernel) ⟨Nat.le_of_ble_eq_true rfl, Nat.le_of_ble_eq_true rfl⟩) (wt_preS hK hN (hP.sub [] rfl)) rfl rfl hl.1 rfl (lv_room (Nat.le_of_ble_eq_true rfl)) dM_say_38 ⟨Nat.le_of_ble_eq_true rfl, Nat.le_of_ble_eq_true rfl⟩) ?_
            refine lv_if_eq (tgt := 53) hx hb dM_say_41 (by decide) (fun c_6 => ?_) (fun c_6 => ?_)
            · exact absurd c_6 (wt_rn hrr (by decide))
            · skip
              refine lv_iload_n hx hb dM_say_44 rfl (lv_at hl 3 rfl) ?_
              refine lv_iconst (v := (-1)) hx hb dM_say_45 (by decide) ?_
              refine lv_icmp_eq (tgt := 53) hx hb dM_say_46 (by decide) (fun c_7 => ?_) (fun c_7 => ?_)
              · exact absurd c_7 (wt_nI_nem1 (by first | omega | exact hw1 _ | (have := hz1 kx; have := hz1 mn; omega)))
              · skip
                refine lv_iconst (v := nI 1) hx hb dM_say_49 (by decide) ?_
                refine lv_goto (tgt := 54) hx hb dM_say_50 (by decide) ?_
                refine lv_istore (lv' := [(5, .int (nI 1)), (0, .ref (q 0)), (1, .int (nI ww)), (2, .int (nI pp)), (3, .int (nI qq)), (4, .int (nI rr))]) hx hb dM_say_54 hl (by decide) rfl (fun ls hl => ?_)
                refine lv_iload hx hb dM_say_56 (lv_at hl 0 rfl) ?_
                refine wt_if_eq (tgt := 70) hx hb dM_say_58 (by decide) (by first | omega | exact hw1 _ | (have := hz1 kx; have := hz1 mn; omega)) (fun c_8 => ?_) (fun c_8 => ?_)
                · exact absurd c_8 (by decide)
                · skip
                  refine lv_aload_n hx hb dM_say_61 rfl (lv_at hl 1 rfl) ?_
                  refine va_get (D := (dC, dI)) (ci := 5) (v := .int (nI mn)) (C := RM) (T := TM) (N := 20) hx hb ht inM hown hK hP 0 rfl rfl 3 (by decide) (ht _ m_397) (fun _ h9 => h9) rfl dM_say_62 ?_
                  refine lv_bipush (v := nI 8) hx hb dM_say_65 (by decide) ?_
                  refine wt_icmp_ne (tgt := 72) hx hb dM_say_67 (by decide) (by first | omega | exact hw1 _ | (have := hz1 kx; have := hz1 mn; omega)) (by first | omega | exact hw1 _ | (have := hz1 kx; have := hz1 mn; omega)) (fun c_9 => ?_) (fun c_9 => ?_)
                  · skip
                    refine lv_aload_n hx hb dM_say_72 rfl (lv_at hl 1 rfl) ?_
                    refine va_get (D := (dC, dI)) (ci := 5) (v := .ref (q 4)) (C := RM) (T := TM) (N := 20) hx hb ht inM hown hK hP 0 rfl rfl 4 (by decide) (ht _ m_398) (fun _ h9 => h9) rfl dM_say_73 ?_
                    refine lv_aload_n hx hb dM_say_76 rfl (lv_at hl 1 rfl) ?_
                    refine va_get (D := (dC, dI)) (ci := 5) (v := .int (nI mn)) (C := RM) (T := TM) (N := 20) hx hb ht inM hown hK hP 0 rfl rfl 3 (by decide) (ht _ m_397) (fun _ h9 => h9) rfl dM_say_77 ?_
                    refine lv_iload_n hx hb dM_say_80 rfl (lv_at hl 2 rfl) ?_
                    refine wt_iastN hx hb hK hP hD hS 4 0 rfl rfl (k := mn) (by first | omega | exact hw1 _ | (have := hz1 kx; have := hz1 mn; omega)) (by decide) dM_say_81 (fun H locs hP hD hS => ?_)
                    have hP : va_P (dC, dI) vwCl (wM cI cZ cL q kn co bo mn (va_up wd mn ww) zs fp ho lv fr so ea dn cd nx nd nc al wo wh) H := hP
                    have hD : va_D A (wM cI cZ cL q kn co bo mn (va_up wd mn ww) zs fp ho lv fr so ea dn cd nx nd nc al wo wh) := hD
                    refine lv_aload_n hx hb dM_say_82 rfl (lv_at hl 1 rfl) ?_
                    refine va_get (D := (dC, dI)) (ci := 5) (v := .ref (q 5)) (C := RM) (T := TM) (N := 20) hx hb ht inM hown hK hP 0 rfl rfl 5 (by decide) (ht _ m_399) (fun _ h9 => h9) rfl dM_say_83 ?_
                    refine lv_aload_n hx hb dM_say_86 rfl (lv_at hl 1 rfl) ?_
                    refine va_get (D := (dC, dI)) (ci := 5) (v := .int (nI mn)) (C := RM) (T := TM) (N := 20) hx hb ht inM hown hK hP 0 rfl rfl 3 (by decide) (ht _ m_397) (fun _ h9 => h9) rfl dM_say_87 ?_
                    refine lv_iload_n hx hb dM_say_90 rfl (lv_at hl 4 rfl) ?_
                    refine lv_iconst (v := (-1)) hx hb dM_say_91 (by decide) ?_
                    refine lv_icmp_ne (tgt := 99) hx hb dM_say_92 (by decide) (fun c_10 => ?_) (fun c_10 => ?_)
                    · skip
                      refine lv_iload hx hb dM_say_99 (lv_at hl 5 rfl) ?_
                      refine lv_iconst (v := (-1)) hx hb dM_say_101 (by decide) ?_
                      refine lv_icmp_ne (tgt := 109) hx hb dM_say_102 (by decide) (fun c_11 => ?_) (fun c_11 => ?_)
                      · skip
                        refine lv_iconst (v := nI 3) hx hb dM_say_109 (by decide) ?_
                        refine wt_iastN hx hb hK hP hD hS 5 0 rfl rfl (k := mn) (by first | omega | exact hw1 _ | (have := hz1 kx; have := hz1 mn; omega)) (by decide) dM_say_110 (fun H locs hP hD hS => ?_)
                        have hP : va_P (dC, dI) vwCl (wM cI cZ cL q kn co bo mn (va_up wd mn ww) (va_up zs mn 3) fp ho lv fr so ea dn cd nx nd nc al wo wh) H := hP
                        have hD : va_D A (wM cI cZ cL q kn co bo mn (va_up wd mn ww) (va_up zs mn 3) fp ho lv fr so ea dn cd nx nd nc al wo wh) := hD
                        refine lv_aload_n hx hb dM_say_111 rfl (lv_at hl 1 rfl) ?_
                        refine va_get (D := (dC, dI)) (ci := 5) (v := .ref (q 6)) (C := RM) (T := TM) (N := 20) hx hb ht inM hown hK hP 0 rfl rfl 6 (by decide) (ht _ m_400) (fun _ h9 => h9) rfl dM_say_112 ?_
                        refine lv_iconst (v := nI 3) hx hb dM_say_115 (by decide) ?_
                        refine lv_aload_n hx hb dM_say_116 rfl (lv_at hl 1 rfl) ?_
                        refine va_get (D := (dC, dI)) (ci := 5) (v := .int (nI mn)) (C := RM) (T := TM) (N := 20) hx hb ht inM hown hK hP 0 rfl rfl 3 (by decide) (ht _ m_397) (fun _ h9 => h9) rfl dM_say_117 ?_
                        refine wt_imul hx hb dM_say_120 ?_
                        refine lv_iload_n hx hb dM_say_121 rfl (lv_at hl 3 rfl) ?_
                        refine wt_iast hx hb hK hP hD hS 6 0 rfl rfl (k := 3 * mn) (by first | omega | exact hw1 _ | (have := hz1 kx; have := hz1 mn; omega)) (by decide) dM_say_122 (fun H locs hP hD hS => ?_)
                        have hP : va_P (dC, dI) vwCl (wM cI cZ cL q kn co bo mn (va_up wd mn ww) (va_up zs mn 3) (upd fp (3 * mn) (nI pp)) ho lv fr so ea dn cd nx nd nc al wo wh) H := hP
                        have hD : va_D A (wM cI cZ cL q kn co bo mn (va_up wd mn ww) (va_up zs mn 3) (upd fp (3 * mn) (nI pp)) ho lv fr so ea dn cd nx nd nc al wo wh) := hD
                        refine lv_aload_n hx hb dM_say_123 rfl (lv_at hl 1 rfl) ?_
                        refine va_get (D := (dC, dI)) (ci := 5) (v := .ref (q 6)) (C := RM) (T := TM) (N := 20) hx hb ht inM hown hK hP 0 rfl rfl 6 (by decide) (ht _ m_400) (fun _ h9 => h9) rfl dM_say_124 ?_
                        refine lv_iconst (v := nI 3) hx hb dM_say_127 (by decide) ?_
                        refine lv_aload_n hx hb dM_say_128 rfl (lv_at hl 1 rfl) ?_
                        refine va_get (D := (dC, dI)) (ci := 5) (v := .int (nI mn)) (C := RM) (T := TM) (N := 20) hx hb ht inM hown hK hP 0 rfl rfl 3 (by decide) (ht _ m_397) (fun _ h9 => h9) rfl dM_say_129 ?_
                        refine wt_imul hx hb dM_say_132 ?_
                        refine lv_iconst (v := nI 1) hx hb dM_say_133 (by decide) ?_
                        refine wt_iadd hx hb dM_say_134 ?_
                        refine lv_iload_n hx hb dM_say_135 rfl (lv_at hl 4 rfl) ?_
                        refine wt_iast hx hb hK hP hD hS 6 0 rfl rfl (k := 3 * mn + 1) (by first | omega | exact hw1 _ | (have := hz1 kx; have := hz1 mn; omega)) (by decide) dM_say_136 (fun H locs hP hD hS => ?_)
                        have hP : va_P (dC, dI) vwCl (wM cI cZ cL q kn co bo mn (va_up wd mn ww) (va_up zs mn 3) (upd (upd fp (3 * mn) (nI pp)) (3 * mn + 1) (nI qq)) ho lv fr so ea dn cd nx nd nc al wo wh) H := hP
                        have hD : va_D A (wM cI cZ cL q kn co bo mn (va_up wd mn ww) (va_up zs mn 3) (upd (upd fp (3 * mn) (nI pp)) (3 * mn + 1) (nI qq)) ho lv fr so ea dn cd nx nd nc al wo wh) := hD
                        refine lv_aload_n hx hb dM_say_137 rfl (lv_at hl 1 rfl) ?_
                        refine va_get (D := (dC, dI)) (ci := 5) (v := .ref (q 6)) (C := RM) (T := TM) (N := 20) hx hb ht inM hown hK hP 0 rfl rfl 6 (by decide) (ht _ m_400) (fun _ h9 => h9) rfl dM_say_138 ?_
                        refine lv_iconst (v := nI 3) hx hb dM_say_141 (by decide) ?_
                        refine lv_aload_n hx hb dM_say_142 rfl (lv_at hl 1 rfl) ?_
                        refine va_get (D := (dC, dI)) (ci := 5) (v := .int (nI mn)) (C := RM) (T := TM) (N := 20) hx hb ht inM hown hK hP 0 rfl rfl 3 (by decide) (ht _ m_397) (fun _ h9 => h9) rfl dM_say_143 ?_
                        refine wt_imul hx hb dM_say_146 ?_
                        refine lv_iconst (v := nI 2) hx hb dM_say_147 (by decide) ?_
                        refine wt_iadd hx hb dM_say_148 ?_
                        refine lv_iload hx hb dM_say_149 (lv_at hl 5 rfl) ?_
                        refine wt_iast hx hb hK hP hD hS 6 0 rfl rfl (k := 3 * mn + 2) (by first | omega | exact hw1 _ | (have := hz1 kx; have := hz1 mn; omega)) (by decide) dM_say_151 (fun H locs hP hD hS => ?_)
                        have hP : va_P (dC, dI) vwCl (wM cI cZ cL q kn co bo mn (va_up wd mn ww) (va_up zs mn 3) (upd (upd (upd fp (3 * mn) (nI pp)) (3 * mn + 1) (nI qq)) (3 * mn + 2) (nI rr)) ho lv fr so ea dn cd nx nd nc al wo wh) H := hP
                        have hD : va_D A (wM cI cZ cL q kn co bo mn (va_up wd mn ww) (va_up zs mn 3) (upd (upd (upd fp (3 * mn) (nI pp)) (3 * mn + 1) (nI qq)) (3 * mn + 2) (nI rr)) ho lv fr so ea dn cd nx nd nc al wo wh) := hD
                        refine lv_iconst (v := nI 0) hx hb dM_say_152 (by decide) ?_
                        refine lv_istore (lv' := [(6, .int (nI 0)), (5, .int (nI 1)), (0, .ref (q 0)), (1, .int (nI ww)), (2, .int (nI pp)), (3, .int (nI qq)), (4, .int (nI rr))]) hx hb dM_say_153 hl (by decide) rfl (fun ls hl => ?_)
                        have LP155 : ∀ (r : Nat) (kx : Nat) (hkx : kx + r = mn) (hE : wt_any (fun k => wt_du1 (va_up wd mn ww) (va_up zs mn 3) (upd (upd (upd fp (3 * mn) (nI pp)) (3 * mn + 1) (nI qq)) (3 * mn + 2) (nI rr)) mn ww k) r kx = false) (H : Heap) (locs : List Loc) (hP : va_P (dC, dI) vwCl (wM cI cZ cL q kn co bo mn (va_up wd mn ww) (va_up zs mn 3) (upd (upd (upd fp (3 * mn) (nI pp)) (3 * mn + 1) (nI qq)) (3 * mn + 2) (nI rr)) ho lv fr so ea dn cd nx nd nc al wo wh) H) (hD : va_D A (wM cI cZ cL q kn co bo mn (va_up wd mn ww) (va_up zs mn 3) (upd (upd (upd fp (3 * mn) (nI pp)) (3 * mn + 1) (nI qq)) (3 * mn + 2) (nI rr)) ho lv fr so ea dn cd nx nd nc al wo wh)) (hS : va_S A s.heap H locs) (ls : Array Slot) (hl : lv_has ls 7 [(0, .ref (q 0)), (1, .int (nI ww)), (2, .int (nI pp)), (3, .int (nI qq)), (4, .int (nI rr)), (6, .int (nI kx))]), W p l e (headSpec (Cond.code yM_say cM_say 7 (some .int) :: tb) ({ frames := 3, cells := 0, slots := 0, locals := 72 })).room s m ([.ref (q 0), .int (nI ww), .int (nI pp), .int (nI qq), .int (nI rr)] : List Value).toArray below meth c H locs 0 0 (MQ below (va_Qi (fun r (_ : Unit) => r = (nI (wt_nod (va_up zs mn 3) (upd (upd (upd fp (3 * mn) (nI pp)) (3 * mn + 1) (nI qq)) (3 * mn + 2) (nI rr)) (mn + 1)))) (wt_B (dC, dI) vwCl A (wM cI cZ cL q kn co bo (mn + 1) (va_up wd mn ww) (va_up zs mn 3) (upd (upd (upd fp (3 * mn) (nI pp)) (3 * mn + 1) (nI qq)) (3 * mn + 2) (nI rr)) ho lv fr so ea dn cd nx nd nc al wo wh)) A) ([.ref (q 0), .int (nI ww), .int (nI pp), .int (nI qq), .int (nI rr)] : List Value).toArray s 0 0 A) (F0 m 155 ls []) := by
                          intro r
                          induction r with
                          | zero =>
                            intro kx hkx hE H locs hP hD hS ls hl
                            have hl : lv_has ls 7 [(0, .ref (q 0)), (1, .int (nI ww)), (2, .int (nI pp)), (3, .int (nI qq)), (4, .int (nI rr)), (6, .int (nI kx))] := hl
                            refine lv_iload hx hb dM_say_155 (lv_at hl 5 rfl) ?_
                            refine lv_aload_n hx hb dM_say_157 rfl (lv_at hl 0 rfl) ?_
                            refine va_get (D := (dC, dI)) (ci := 5) (v := .int (nI mn)) (C := RM) (T := TM) (N := 20) hx hb ht inM hown hK hP 0 rfl rfl 3 (by decide) (ht _ m_397) (fun _ h9 => h9) rfl dM_say_158 ?_
                            refine wt_icmp_ge (tgt := 222) hx hb dM_say_161 (by decide) (by first | omega | exact hw1 _ | (have := hz1 kx; have := hz1 mn; omega)) (by first | omega | exact hw1 _ | (have := hz1 kx; have := hz1 mn; omega)) (fun c_12 => ?_) (fun c_12 => ?_)
                            · skip
                              refine lv_aload_n hx hb dM_say_222 rfl (lv_at hl 0 rfl) ?_
                              refine lv_dup hx hb dM_say_223 rfl ?_
                              refine va_get (D := (dC, dI)) (ci := 5) (v := .int (nI mn)) (C := RM) (T := TM) (N := 20) hx hb ht inM hown hK hP 0 rfl rfl 3 (by decide) (ht _ m_397) (fun _ h9 => h9) rfl dM_say_224 ?_
                              refine lv_iconst (v := nI 1) hx hb dM_say_227 (by decide) ?_
                              refine wt_iadd hx hb dM_say_228 ?_
                              refine va_put (D := (dC, dI)) (ci := 5) (v := .int (nI (mn + 1))) (ty := .int) (C := RM) (T := TM) (N := 20) hx hb ht inM tyM tyM_ok nmM hown hK hP hD hS 0 rfl rfl 3 (by decide) (ht _ m_397) (fun _ h9 => h9) rfl (by decide +kernel) rfl rfl (Nat.le_of_ble_eq_true rfl) dM_say_229 (fun H locs hP hD hS => ?_)
                              have hP : va_P (dC, dI) vwCl (wM cI cZ cL q kn co bo (mn + 1) (va_up wd mn ww) (va_up zs mn 3) (upd (upd (upd fp (3 * mn) (nI pp)) (3 * mn + 1) (nI qq)) (3 * mn + 2) (nI rr)) ho lv fr so ea dn cd nx nd nc al wo wh) H := hP
                              have hD : va_D A (wM cI cZ cL q kn co bo (mn + 1) (va_up wd mn ww) (va_up zs mn 3) (upd (upd (upd fp (3 * mn) (nI pp)) (3 * mn + 1) (nI qq)) (3 * mn + 2) (nI rr)) ho lv fr so ea dn cd nx nd nc al wo wh) := hD
                              refine lv_aload_n hx hb dM_say_232 rfl (lv_at hl 0 rfl) ?_
                              refine wt_roi (va_runV (As := []) (rest := []) ⟨hx, hb, hml, hown, ht⟩ (c_M_nodes l dC dI cI cZ cL q kn co bo (mn + 1) (va_up wd mn ww) (va_up zs mn 3) (upd (upd (upd fp (3 * mn) (nI pp)) (3 * mn + 1) (nI qq)) (3 * mn + 2) (nI rr)) ho lv fr so ea dn cd nx nd nc al wo wh (by omega) hz1) (cwV 0 ht (good_V m_474 m_456 m_457 m_7 m_458) rfl rfl rfl (by decide +kernel) ⟨Nat.le_of_ble_eq_true rfl, Nat.le_of_ble_eq_true rfl⟩) (wt_preV hK hN hP (va_recv hK hP (ci := 5) (q0 := 0) rfl rfl)) rfl rfl hl.1 rfl (lv_room (Nat.le_of_ble_eq_true rfl)) dM_say_233 ⟨Nat.le_of_ble_eq_true rfl, Nat.le_of_ble_eq_true rfl⟩) ?_
                              have hP9 : va_P (dC, dI) vwCl (wM cI cZ cL q kn co bo (mn + 1) (va_up wd mn ww) (va_up zs mn 3) (upd (upd (upd fp (3 * mn) (nI pp)) (3 * mn + 1) (nI qq)) (3 * mn + 2) (nI rr)) ho lv fr so ea dn cd nx nd nc al wo wh) H := by exact hP
                              have hD9 : va_D A (wM cI cZ cL q kn co bo (mn + 1) (va_up wd mn ww) (va_up zs mn 3) (upd (upd (upd fp (3 * mn) (nI pp)) (3 * mn + 1) (nI qq)) (3 * mn + 2) (nI rr)) ho lv fr so ea dn cd nx nd nc al wo wh) := by exact hD
                              exact W.iret (v := nI (wt_nod (va_up zs mn 3) (upd (upd (upd fp (3 * mn) (nI pp)) (3 * mn + 1) (nI qq)) (3 * mn + 2) (nI rr)) (mn + 1))) hx hb hr (fun t ht hW => ⟨⟨_, (), rfl, rfl, by rw [ht]; exact hP9, hD9⟩, hS.F ht⟩) hS.2.2 dM_say_236
                            · first | exact absurd c_12 (by omega) | exact absurd c_12 (by decide) | exact absurd (by decide) c_12
                          | succ r ih155 =>
                            intro kx hkx hE H locs hP hD hS ls hl
                            have hl : lv_has ls 7 [(0, .ref (q 0)), (1, .int (nI ww)), (2, .int (nI pp)), (3, .int (nI qq)), (4, .int (nI rr)), (6, .int (nI kx))] := hl
                            refine lv_iload hx hb dM_say_155 (lv_at hl 5 rfl) ?_
                            refine lv_aload_n hx hb dM_say_157 rfl (lv_at hl 0 rfl) ?_
                            refine va_get (D := (dC, dI)) (ci := 5) (v := .int (nI mn)) (C := RM) (T := TM) (N := 20) hx hb ht inM hown hK hP 0 rfl rfl 3 (by decide) (ht _ m_397) (fun _ h9 => h9) rfl dM_say_158 ?_
                            refine wt_icmp_ge (tgt := 222) hx hb dM_say_161 (by decide) (by first | omega | exact hw1 _ | (have := hz1 kx; have := hz1 mn; omega)) (by first | omega | exact hw1 _ | (have := hz1 kx; have := hz1 mn; omega)) (fun c_13 => ?_) (fun c_13 => ?_)
                            · first | exact absurd c_13 (by omega) | exact absurd c_13 (by decide) | exact absurd (by decide) c_13
                            · skip
                              refine lv_aload_n hx hb dM_say_164 rfl (lv_at hl 0 rfl) ?_
                              refine va_get (D := (dC, dI)) (ci := 5) (v := .ref (q 4)) (C := RM) (T := TM) (N := 20) hx hb ht inM hown hK hP 0 rfl rfl 4 (by decide) (ht _ m_398) (fun _ h9 => h9) rfl dM_say_165 ?_
                              refine lv_iload hx hb dM_say_168 (lv_at hl 5 rfl) ?_
                              refine wt_ialdN hx hb hK hP 4 0 rfl rfl (k := kx) (by first | omega | exact hw1 _ | (have := hz1 kx; have := hz1 mn; omega)) (by decide) dM_say_170 ?_
                              refine lv_iload_n hx hb dM_say_171 rfl (lv_at hl 1 rfl) ?_
                              refine wt_icmp_ne (tgt := 216) hx hb dM_say_172 (by decide) (by first | omega | exact hw1 _ | (have := hz1 kx; have := hz1 mn; omega)) (by first | omega | exact hw1 _ | (have := hz1 kx; have := hz1 mn; omega)) (fun c_14 => ?_) (fun c_14 => ?_)
                              · skip
                                refine lv_iinc (v := nI (kx + 1)) (lv' := [(6, .int (nI (kx + 1))), (0, .ref (q 0)), (1, .int (nI ww)), (2, .int (nI pp)), (3, .int (nI qq)), (4, .int (nI rr))]) hx hb dM_say_216 hl (k := 5) rfl (wt_inc1 kx) (by decide) rfl (fun ls hl => ?_)
                                refine lv_goto (tgt := 155) hx hb dM_say_219 (by decide) ?_
                                exact ih155 (kx + 1) (by omega) ((wt_any_n hE).1) _ _ hP hD hS ls (lv_sub hl [1, 2, 3, 4, 5, 0] rfl)
                              · skip
                                refine lv_aload_n hx hb dM_say_175 rfl (lv_at hl 0 rfl) ?_
                                refine va_get (D := (dC, dI)) (ci := 5) (v := .ref (q 5)) (C := RM) (T := TM) (N := 20) hx hb ht inM hown hK hP 0 rfl rfl 5 (by decide) (ht _ m_399) (fun _ h9 => h9) rfl dM_say_176 ?_
                                refine lv_iload hx hb dM_say_179 (lv_at hl 5 rfl) ?_
                                refine wt_ialdN hx hb hK hP 5 0 rfl rfl (k := kx) (by first | omega | exact hw1 _ | (have := hz1 kx; have := hz1 mn; omega)) (by decide) dM_say_181 ?_
                                refine lv_aload_n hx hb dM_say_182 rfl (lv_at hl 0 rfl) ?_
                                refine va_get (D := (dC, dI)) (ci := 5) (v := .ref (q 5)) (C := RM) (T := TM) (N := 20) hx hb ht inM hown hK hP 0 rfl rfl 5 (by decide) (ht _ m_399) (fun _ h9 => h9) rfl dM_say_183 ?_
                                refine lv_aload_n hx hb dM_say_186 rfl (lv_at hl 0 rfl) ?_
                                refine va_get (D := (dC, dI)) (ci := 5) (v := .int (nI mn)) (C := RM) (T := TM) (N := 20) hx hb ht inM hown hK hP 0 rfl rfl 3 (by decide) (ht _ m_397) (fun _ h9 => h9) rfl dM_say_187 ?_
                                refine wt_ialdN hx hb hK hP 5 0 rfl rfl (k := mn) (by first | omega | exact hw1 _ | (have := hz1 kx; have := hz1 mn; omega)) (by decide) dM_say_190 ?_
                                refine wt_icmp_ne (tgt := 216) hx hb dM_say_191 (by decide) (by first | omega | exact hw1 _ | (have := hz1 kx; have := hz1 mn; omega)) (by first | omega | exact hw1 _ | (have := hz1 kx; have := hz1 mn; omega)) (fun c_15 => ?_) (fun c_15 => ?_)
                                · skip
                                  refine lv_iinc (v := nI (kx + 1)) (lv' := [(6, .int (nI (kx + 1))), (0, .ref (q 0)), (1, .int (nI ww)), (2, .int (nI pp)), (3, .int (nI qq)), (4, .int (nI rr))]) hx hb dM_say_216 hl (k := 5) rfl (wt_inc1 kx) (by decide) rfl (fun ls hl => ?_)
                                  refine lv_goto (tgt := 155) hx hb dM_say_219 (by decide) ?_
                                  exact ih155 (kx + 1) (by omega) ((wt_any_n hE).1) _ _ hP hD hS ls (lv_sub hl [1, 2, 3, 4, 5, 0] rfl)
                                · skip
                                  refine lv_aload_n hx hb dM_say_194 rfl (lv_at hl 0 rfl) ?_
                                  refine lv_iload hx hb dM_say_195 (lv_at hl 5 rfl) ?_
                                  refine lv_aload_n hx hb dM_say_197 rfl (lv_at hl 0 rfl) ?_
                                  refine va_get (D := (dC, dI)) (ci := 5) (v := .int (nI mn)) (C := RM) (T := TM) (N := 20) hx hb ht inM hown hK hP 0 rfl rfl 3 (by decide) (ht _ m_397) (fun _ h9 => h9) rfl dM_say_198 ?_
                                  refine lv_aload_n hx hb dM_say_201 rfl (lv_at hl 0 rfl) ?_
                                  refine va_get (D := (dC, dI)) (ci := 5) (v := .ref (q 5)) (C := RM) (T := TM) (N := 20) hx hb ht inM hown hK hP 0 rfl rfl 5 (by decide) (ht _ m_399) (fun _ h9 => h9) rfl dM_say_202 ?_
                                  refine lv_iload hx hb dM_say_205 (lv_at hl 5 rfl) ?_
                                  refine wt_ialdN hx hb hK hP 5 0 rfl rfl (k := kx) (by first | omega | exact hw1 _ | (have := hz1 kx; have := hz1 mn; omega)) (by decide) dM_say_207 ?_
                                  refine wt_roi (va_runV (As := [.int (nI kx), .int (nI mn), .int (nI ((va_up zs mn 3) kx))]) (rest := []) ⟨hx, hb, hml, hown, ht⟩ (c_M_begins l dC dI cI cZ cL q kn co bo mn (va_up wd mn ww) (va_up zs mn 3) (upd (upd (upd fp (3 * mn) (nI pp)) (3 * mn + 1) (nI qq)) (3 * mn + 2) (nI rr)) ho lv fr so ea dn cd nx nd nc al wo wh kx mn ((va_up zs mn 3) kx) (by omega) (by omega) (hz1 kx) hz1) (cwV 3 ht (good_V m_463 m_465 ms_12 m_7 m_466) rfl rfl rfl (by decide +kernel) ⟨Nat.le_of_ble_eq_true rfl, Nat.le_of_ble_eq_true rfl⟩) (wt_preV hK hN hP (va_recv hK hP (ci := 5) (q0 := 0) rfl rfl)) rfl rfl hl.1 rfl (lv_room (Nat.le_of_ble_eq_true rfl)) dM_say_208 ⟨Nat.le_of_ble_eq_true rfl, Nat.le_of_ble_eq_true rfl⟩) ?_
                                  refine wt_bif_eq (tgt := 216) hx hb dM_say_211 (by decide) (fun c_16 => ?_) (fun c_16 => ?_)
                                  · skip
                                    refine lv_iinc (v := nI (kx + 1)) (lv' := [(6, .int (nI (kx + 1))), (0, .ref (q 0)), (1, .int (nI ww)), (2, .int (nI pp)), (3, .int (nI qq)), (4, .int (nI rr))]) hx hb dM_say_216 hl (k := 5) rfl (wt_inc1 kx) (by decide) rfl (fun ls hl => ?_)
                                    refine lv_goto (tgt := 155) hx hb dM_say_219 (by decide) ?_
                                    exact ih155 (kx + 1) (by omega) ((wt_any_n hE).1) _ _ hP hD hS ls (lv_sub hl [1, 2, 3, 4, 5, 0] rfl)
                                  · exact absurd (wt_any_n hE).2 (by show ¬ wt_du1 _ _ _ _ _ _ = false; unfold wt_du1; rw [decide_eq_true c_14, decide_eq_true c_15, c_16]; decide)
                        exact LP155 mn 0 (Nat.zero_add mn) hdu _ _ hP hD hS ls (lv_sub hl [2, 3, 4, 5, 6, 0] rfl)
                      · exact absurd c_11 (wt_nI_nem1 (by first | omega | exact hw1 _ | (have := hz1 kx; have := hz1 mn; omega)))
                    · exact absurd c_10 (wt_nI_nem1 (by first | omega | exact hw1 _ | (have := hz1 kx; have := hz1 mn; omega)))
                  · exact absurd c_9 (by omega)

