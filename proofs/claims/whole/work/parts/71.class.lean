/-! small rows for the class's own methods -/
theorem wt_p1 (n : Nat) : nI n + nI 1 = nI (n + 1) := nI_add n 1
theorem wt_hz {d : Nat} {b : Bool} (h : d = 0) : nI 0 = wt_bI (decide (¬ d = 0) && b) := by rw [decide_eq_false (fun q => q h)]; rfl
theorem wt_ht {d : Nat} {b : Bool} (h : 0 < d) (hb : b = true) : nI 1 = wt_bI (decide (¬ d = 0) && b) := by rw [decide_eq_true (by omega), hb]; rfl
theorem wt_hf {d : Nat} {b : Bool} (hb : b = false) : nI 0 = wt_bI (decide (¬ d = 0) && b) := by rw [hb, Bool.and_false]; rfl
def wt_z12 (k : Nat) (f : Nat → Int32) : Nat → Int32 := wt_up (fun i f => upd f (k + i) (nI 0)) 12 0 f
theorem e1_s1 {en : Nat → Bool} {gc gb : Nat → Int32} {c n : Nat} {token : Int64} {w : Nat} {wt : Nat → Int64} (h : token = wt_dead) : wt_e1 en gc gb c n token w wt = wt := if_neg (fun q => q.1 h)
theorem e1_s2 {en : Nat → Bool} {gc gb : Nat → Int32} {c n : Nat} {token : Int64} {w : Nat} {wt : Nat → Int64} (h : en (n * 4 + w) = false) : wt_e1 en gc gb c n token w wt = wt := if_neg (fun q => by rw [h] at q; exact absurd q.2 (by decide))
theorem e1_do {en : Nat → Bool} {gc gb : Nat → Int32} {c n : Nat} {token : Int64} {w : Nat} {wt : Nat → Int64} (h : ¬ token = wt_dead) (h2 : en (n * 4 + w) = true) : wt_e1 en gc gb c n token w wt = vp_updL wt (wt_cx (c % 5) w) (wt_lm (wt (wt_cx (c % 5) w)) (wt_pw (wt_pc token (wt_aft gc gb (c / 5) (c % 5) w)) (nI w))) := if_pos ⟨h, h2⟩
theorem wt_arrL {cA : ClassId} {n : Nat} {f g : Nat → Int64} (h : ∀ j, j < n → f j = g j) : vp_cell cA (n, .inr (.inl f)) = vp_cell cA (n, .inr (.inl g)) := by
  rw [vp_cell_l, vp_cell_l]
  unfold arrV
  congr 2
  funext j
  show Value.long (f j.val) = Value.long (g j.val)
  rw [h j.val j.isLt]
theorem wt_arrI {cA : ClassId} {n : Nat} {f g : Nat → Int32} (h : ∀ j, j < n → f j = g j) : vp_cell cA (n, .inl f) = vp_cell cA (n, .inl g) := by
  rw [vp_cell_i, vp_cell_i]
  unfold arrV
  congr 2
  funext j
  show Value.int (f j.val) = Value.int (g j.val)
  rw [h j.val j.isLt]
theorem wt_fillP {D : va_G} {cl : List vw_C} {a : Nat} {cA : ClassId} {x y : vp_A} {H : Heap} (h : va_P D cl [(a, .inl (cA, x))] H) (e : vp_cell cA x = vp_cell cA y) : va_P D cl [(a, .inl (cA, y))] H := by
  intro k q hk
  have h0 := h 0 (a, .inl (cA, x)) rfl
  have hz : k < 1 := (List.getElem?_eq_some_iff.mp hk).1
  rw [show k = 0 by omega] at hk
  cases hk
  show H[a]? = some (vp_cell cA y)
  rw [← e]
  exact h0
theorem wt_fillD {A : Nat → Prop} {a : Nat} {e1 e2 : va_E} (h : va_D A [(a, e1)]) : va_D A [(a, e2)] := h.set (p := 0) (a := a) (e0 := e1) (e := e2) rfl
abbrev wJL (cL : ClassId) (a0 nn : Nat) (ff : Nat → Int64) : va_W := [(a0, .inl (cL, nn, .inr (.inl ff)))]
abbrev wJI (cI : ClassId) (a0 nn : Nat) (ff : Nat → Int32) : va_W := [(a0, .inl (cI, nn, .inl ff))]
theorem wt_vL {f : Nat → Int64} {i : Nat} {v : Int64} (h : ∀ j, j < i → f j = v) : ∀ j, j < i + 1 → vp_updL f i v j = v := by
  intro j hj
  by_cases q : j = i
  · rw [q]; exact pk_uLs
  · rw [pk_uLn q]; exact h j (by omega)
theorem wt_vI {f : Nat → Int32} {i : Nat} {v : Int32} (h : ∀ j, j < i → f j = v) : ∀ j, j < i + 1 → upd f i v j = v := by
  intro j hj
  by_cases q : j = i
  · rw [q]; exact pk_us
  · rw [pk_un q]; exact h j (by omega)

set_option maxHeartbeats 4000000 in
set_option maxRecDepth 100000 in
theorem c_J_fillI (l : Launch) (dC : Nat → ClassId) (dI : Nat → Nat → Nat) (cI cZ cL : ClassId) (a0 nn : Nat) (sz0 : Nat) (ff : Nat → Int32) (vl : Int32) (hn : nn < 2 ^ 31) : Met l yJ_fillI (Cond.code yJ_fillI cJ_fillI 4 none :: tb) ({ frames := 0, cells := 0, slots := 0, locals := 0 }) (va_Pc [.ref a0, .int vl] (wt_rw (dC, dI) vwCl [(cI, .int), (cZ, .boolean), (cL, .long)] (wJI cI a0 nn ff) sz0)) (va_Qv (fun _ : Unit => True) (wt_B (dC, dI) vwCl (va_A (wJI cI a0 nn ff) sz0) (wJI cI a0 nn (fun _ => vl))) (va_A (wJI cI a0 nn ff) sz0)) 0 0 (va_A (wJI cI a0 nn ff) sz0) := by
  refine Met.ofW (cc := cJ_fillI) (maxL := 4) (ret := none) (by decide) rfl ?_
  intro p e s m args below meth c s₁ B hml hv
  obtain ⟨rfl, hsz, hP, hK, hN, hD0⟩ := hv
  have hx := B.exec
  have hb := B.bytes
  have hr := B.returns
  have hts := atoms_spec (ws := (Cond.code yJ_fillI cJ_fillI 4 none :: tb)) B.pre
  have ht : ∀ w ∈ tb, w.before _ s = true := fun w h => hts w (List.mem_cons_of_mem _ h)
  have hown : s.vm.findClass RJ = some m.cls := findClass_of_methodNamed B.named
  have hlocks := B.notSynchronized
  subst hsz
  have hD := hD0.self (sz := s.heap.size)
  generalize hAe : va_A (wJI cI a0 nn ff) s.heap.size = A at hD ⊢
  have hA : ∀ q : Nat, s.heap.size ≤ q → A q := fun q h => by rw [← hAe]; exact Or.inr h
  clear hAe hD0
  have hS : va_S A s.heap s.heap [] := va_S.rf
  have hl := lv_entry ([.ref a0, .int vl]) (n := 4) (Nat.le_of_ble_eq_true rfl)
  rw [lg_entry_eq]
  generalize (lg_sl ([.ref a0, .int vl]) ++ List.replicate (4 - (lg_sl ([.ref a0, .int vl])).length) Slot.unset).toArray = ls at hl ⊢
  have hl : lv_has ls 4 [(0, .ref a0), (1, .int vl)] := hl
  refine lv_iconst (v := nI 0) hx hb dJ_fillI_0 (by decide) ?_
  refine lv_istore_n (lv' := [(2, .int (nI 0)), (0, .ref a0), (1, .int vl)]) hx hb dJ_fillI_1 rfl hl (by decide) rfl (fun ls hl => ?_)
  refine lv_aload_n hx hb dJ_fillI_2 rfl (lv_at hl 1 rfl) ?_
  refine va_alen (v := nI nn) hx hb hK hP 0 0 rfl rfl rfl dJ_fillI_3 ?_
  refine lv_istore_n (lv' := [(3, .int (nI nn)), (2, .int (nI 0)), (0, .ref a0), (1, .int vl)]) hx hb dJ_fillI_4 rfl hl (by decide) rfl (fun ls hl => ?_)
  have LP5 : ∀ (r : Nat) (i : Nat) (fx : Nat → Int32) (hi : i + r = nn) (hf : ∀ j, j < i → fx j = vl) (H : Heap) (locs : List Loc) (hP : va_P (dC, dI) vwCl (wJI cI a0 nn fx) H) (hD : va_D A (wJI cI a0 nn fx)) (hS : va_S A s.heap H locs) (ls : Array Slot) (hl : lv_has ls 4 [(0, .ref a0), (1, .int vl), (2, .int (nI i)), (3, .int (nI nn))]), W p l e (headSpec (Cond.code yJ_fillI cJ_fillI 4 none :: tb) ({ frames := 0, cells := 0, slots := 0, locals := 0 })).room s m ([.ref a0, .int vl] : List Value).toArray below meth c H locs 0 0 (MQ below (va_Qv (fun _ : Unit => True) (wt_B (dC, dI) vwCl A (wJI cI a0 nn (fun _ => vl))) A) ([.ref a0, .int vl] : List Value).toArray s 0 0 A) (F0 m 5 ls []) := by
    intro r
    induction r with
    | zero =>
      intro i fx hi hf H locs hP hD hS ls hl
      have hl : lv_has ls 4 [(0, .ref a0), (1, .int vl), (2, .int (nI i)), (3, .int (nI nn))] := hl
      refine lv_iload_n hx hb dJ_fillI_5 rfl (lv_at hl 2 rfl) ?_
      refine lv_iload_n hx hb dJ_fillI_6 rfl (lv_at hl 3 rfl) ?_
      refine wt_icmp_ge (tgt := 20) hx hb dJ_fillI_7 (by decide) (by omega) (by omega) (fun c_1 => ?_) (fun c_1 => ?_)
      · skip
        have hP9 : va_P (dC, dI) vwCl (wJI cI a0 nn (fun _ => vl)) H := wt_fillP hP (wt_arrI (fun j hj => hf j (by omega)))
        have hD9 : va_D A (wJI cI a0 nn (fun _ => vl)) := wt_fillD hD
        exact W.vret hx hb hr (fun t ht hW => ⟨⟨(), rfl, trivial, by rw [ht]; exact hP9, hD9⟩, hS.F ht⟩) hS.2.2 dJ_fillI_20
      · first | exact absurd c_1 (by omega) | exact absurd c_1 (by decide) | exact absurd (by decide) c_1
    | succ r ih5 =>
      intro i fx hi hf H locs hP hD hS ls hl
      have hl : lv_has ls 4 [(0, .ref a0), (1, .int vl), (2, .int (nI i)), (3, .int (nI nn))] := hl
      refine lv_iload_n hx hb dJ_fillI_5 rfl (lv_at hl 2 rfl) ?_
      refine lv_iload_n hx hb dJ_fillI_6 rfl (lv_at hl 3 rfl) ?_
      refine wt_icmp_ge (tgt := 20) hx hb dJ_fillI_7 (by decide) (by omega) (by omega) (fun c_2 => ?_) (fun c_2 => ?_)
      · first | exact absurd c_2 (by omega) | exact absurd c_2 (by decide) | exact absurd (by decide) c_2
      · skip
        refine lv_aload_n hx hb dJ_fillI_10 rfl (lv_at hl 0 rfl) ?_
        refine lv_iload_n hx hb dJ_fillI_11 rfl (lv_at hl 2 rfl) ?_
        refine lv_iload_n hx hb dJ_fillI_12 rfl (lv_at hl 1 rfl) ?_
        refine wt_iast hx hb hK hP hD hS 0 0 rfl rfl (k := i) (by omega) (by omega) dJ_fillI_13 (fun H locs hP hD hS => ?_)
        have hP : va_P (dC, dI) vwCl (wJI cI a0 nn (upd fx i vl)) H := hP
        have hD : va_D A (wJI cI a0 nn (upd fx i vl)) := hD
        refine lv_iinc (v := nI (i + 1)) (lv' := [(2, .int (nI (i + 1))), (0, .ref a0), (1, .int vl), (3, .int (nI nn))]) hx hb dJ_fillI_14 hl (k := 2) rfl (wt_inc1 i) (by decide) rfl (fun ls hl => ?_)
        refine lv_goto (tgt := 5) hx hb dJ_fillI_17 (by decide) ?_
        exact ih5 (i + 1) (upd fx i vl) (by omega) (wt_vI hf) _ _ hP hD hS ls (lv_sub hl [1, 2, 0, 3] rfl)
  exact LP5 nn 0 ff (Nat.zero_add nn) (fun j h => absurd h (Nat.not_lt_zero j)) _ _ hP hD hS ls (lv_sub hl [2, 3, 1, 0] rfl)

set_option maxHeartbeats 4000000 in
set_option maxRecDepth 100000 in
theorem c_J_fillL (l : Launch) (dC : Nat → ClassId) (dI : Nat → Nat → Nat) (cI cZ cL : ClassId) (a0 nn : Nat) (sz0 : Nat) (ff : Nat → Int64) (vl : Int64) (hn : nn < 2 ^ 31) : Met l yJ_fillL (Cond.code yJ_fillL cJ_fillL 5 none :: tb) ({ frames := 0, cells := 0, slots := 0, locals := 0 }) (va_Pc [.ref a0, .long vl] (wt_rw (dC, dI) vwCl [(cI, .int), (cZ, .boolean), (cL, .long)] (wJL cL a0 nn ff) sz0)) (va_Qv (fun _ : Unit => True) (wt_B (dC, dI) vwCl (va_A (wJL cL a0 nn ff) sz0) (wJL cL a0 nn (fun _ => vl))) (va_A (wJL cL a0 nn ff) sz0)) 0 0 (va_A (wJL cL a0 nn ff) sz0) := by
  refine Met.ofW (cc := cJ_fillL) (maxL := 5) (ret := none) (by decide) rfl ?_
  intro p e s m args below meth c s₁ B hml hv
  obtain ⟨rfl, hsz, hP, hK, hN, hD0⟩ := hv
  have hx := B.exec
  have hb := B.bytes
  have hr := B.returns
  have hts := atoms_spec (ws := (Cond.code yJ_fillL cJ_fillL 5 none :: tb)) B.pre
  have ht : ∀ w ∈ tb, w.before _ s = true := fun w h => hts w (List.mem_cons_of_mem _ h)
  have hown : s.vm.findClass RJ = some m.cls := findClass_of_methodNamed B.named
  have hlocks := B.notSynchronized
  subst hsz
  have hD := hD0.self (sz := s.heap.size)
  generalize hAe : va_A (wJL cL a0 nn ff) s.heap.size = A at hD ⊢
  have hA : ∀ q : Nat, s.heap.size ≤ q → A q := fun q h => by rw [← hAe]; exact Or.inr h
  clear hAe hD0
  have hS : va_S A s.heap s.heap [] := va_S.rf
  have hl := lv_entry ([.ref a0, .long vl]) (n := 5) (Nat.le_of_ble_eq_true rfl)
  rw [lg_entry_eq]
  generalize (lg_sl ([.ref a0, .long vl]) ++ List.replicate (5 - (lg_sl ([.ref a0, .long vl])).length) Slot.unset).toArray = ls at hl ⊢
  have hl : lv_has ls 5 [(0, .ref a0), (1, .long vl)] := hl
  refine lv_iconst (v := nI 0) hx hb dJ_fillL_0 (by decide) ?_
  refine lv_istore_n (lv' := [(3, .int (nI 0)), (0, .ref a0), (1, .long vl)]) hx hb dJ_fillL_1 rfl hl (by decide) rfl (fun ls hl => ?_)
  refine lv_aload_n hx hb dJ_fillL_2 rfl (lv_at hl 1 rfl) ?_
  refine va_alen (v := nI nn) hx hb hK hP 0 2 rfl rfl rfl dJ_fillL_3 ?_
  refine lv_istore (lv' := [(4, .int (nI nn)), (3, .int (nI 0)), (0, .ref a0), (1, .long vl)]) hx hb dJ_fillL_4 hl (by decide) rfl (fun ls hl => ?_)
  have LP6 : ∀ (r : Nat) (i : Nat) (fx : Nat → Int64) (hi : i + r = nn) (hf : ∀ j, j < i → fx j = vl) (H : Heap) (locs : List Loc) (hP : va_P (dC, dI) vwCl (wJL cL a0 nn fx) H) (hD : va_D A (wJL cL a0 nn fx)) (hS : va_S A s.heap H locs) (ls : Array Slot) (hl : lv_has ls 5 [(0, .ref a0), (1, .long vl), (3, .int (nI i)), (4, .int (nI nn))]), W p l e (headSpec (Cond.code yJ_fillL cJ_fillL 5 none :: tb) ({ frames := 0, cells := 0, slots := 0, locals := 0 })).room s m ([.ref a0, .long vl] : List Value).toArray below meth c H locs 0 0 (MQ below (va_Qv (fun _ : Unit => True) (wt_B (dC, dI) vwCl A (wJL cL a0 nn (fun _ => vl))) A) ([.ref a0, .long vl] : List Value).toArray s 0 0 A) (F0 m 6 ls []) := by
    intro r
    induction r with
    | zero =>
      intro i fx hi hf H locs hP hD hS ls hl
      have hl : lv_has ls 5 [(0, .ref a0), (1, .long vl), (3, .int (nI i)), (4, .int (nI nn))] := hl
      refine lv_iload_n hx hb dJ_fillL_6 rfl (lv_at hl 2 rfl) ?_
      refine lv_iload hx hb dJ_fillL_7 (lv_at hl 3 rfl) ?_
      refine wt_icmp_ge (tgt := 22) hx hb dJ_fillL_9 (by decide) (by omega) (by omega) (fun c_1 => ?_) (fun c_1 => ?_)
      · skip
        have hP9 : va_P (dC, dI) vwCl (wJL cL a0 nn (fun _ => vl)) H := wt_fillP hP (wt_arrL (fun j hj => hf j (by omega)))
        have hD9 : va_D A (wJL cL a0 nn (fun _ => vl)) := wt_fillD hD
        exact W.vret hx hb hr (fun t ht hW => ⟨⟨(), rfl, trivial, by rw [ht]; exact hP9, hD9⟩, hS.F ht⟩) hS.2.2 dJ_fillL_22
      · first | exact absurd c_1 (by omega) | exact absurd c_1 (by decide) | exact absurd (by decide) c_1
    | succ r ih6 =>
      intro i fx hi hf H locs hP hD hS ls hl
      have hl : lv_has ls 5 [(0, .ref a0), (1, .long vl), (3, .int (nI i)), (4, .int (nI nn))] := hl
      refine lv_iload_n hx hb dJ_fillL_6 rfl (lv_at hl 2 rfl) ?_
      refine lv_iload hx hb dJ_fillL_7 (lv_at hl 3 rfl) ?_
      refine wt_icmp_ge (tgt := 22) hx hb dJ_fillL_9 (by decide) (by omega) (by omega) (fun c_2 => ?_) (fun c_2 => ?_)
      · first | exact absurd c_2 (by omega) | exact absurd c_2 (by decide) | exact absurd (by decide) c_2
      · skip
        refine lv_aload_n hx hb dJ_fillL_12 rfl (lv_at hl 0 rfl) ?_
        refine lv_iload_n hx hb dJ_fillL_13 rfl (lv_at hl 2 rfl) ?_
        refine lv_lload_n hx hb dJ_fillL_14 rfl (lv_at hl 1 rfl) ?_
        refine wt_last hx hb hK hP hD hS 0 2 rfl rfl (k := i) (by omega) (by omega) dJ_fillL_15 (fun H locs hP hD hS => ?_)
        have hP : va_P (dC, dI) vwCl (wJL cL a0 nn (vp_updL fx i vl)) H := hP
        have hD : va_D A (wJL cL a0 nn (vp_updL fx i vl)) := hD
        refine lv_iinc (v := nI (i + 1)) (lv' := [(3, .int (nI (i + 1))), (0, .ref a0), (1, .long vl), (4, .int (nI nn))]) hx hb dJ_fillL_16 hl (k := 2) rfl (wt_inc1 i) (by decide) rfl (fun ls hl => ?_)
        refine lv_goto (tgt := 6) hx hb dJ_fillL_19 (by decide) ?_
        exact ih6 (i + 1) (vp_updL fx i vl) (by omega) (wt_vL hf) _ _ hP hD hS ls (lv_sub hl [1, 2, 0, 3] rfl)
  exact LP6 nn 0 ff (Nat.zero_add nn) (fun j h => absurd h (Nat.not_lt_zero j)) _ _ hP hD hS ls (lv_sub hl [2, 3, 1, 0] rfl)

set_option maxHeartbeats 4000000 in
set_option maxRecDepth 100000 in
theorem c_T_size (l : Launch) (dC : Nat → ClassId) (dI : Nat → Nat → Nat) (cI cZ cL : ClassId) (q : Nat → Nat) (ph : Nat → Nat) (pa : Nat → Nat) (ch : Nat → Nat) (en : Nat → Bool) (sz : Nat) (pr : Nat) (gc : Nat → Int32) (gb : Nat → Int32) (sc : Nat → Int32) (sh : Nat → Int32) (sl : Nat → Int32) (ct : Nat) (tok : Nat → Int64) (wt : Nat → Int64) (pn : Nat → Nat) (lt : Nat → Int64) (wp : Int64) (sd : Bool) : Met l yT_size (Cond.code yT_size cT_size 1 (some .int) :: tb) ({ frames := 0, cells := 0, slots := 0, locals := 0 }) (va_Pc [.ref (q 1)] (wt_ro (dC, dI) vwCl [(cI, .int), (cZ, .boolean), (cL, .long)] (wX cI cZ cL q ph pa ch en sz pr gc gb sc sh sl ct tok wt pn lt wp sd))) (vp_Si (fun r => r = (nI sz))) 0 0 (fun _ => False) := by
  refine Met.ofW (cc := cT_size) (maxL := 1) (ret := (some .int)) (by decide) rfl ?_
  intro p e s m args below meth c s₁ B hml hv
  obtain ⟨rfl, hP, hK, hN⟩ := hv
  have hx := B.exec
  have hb := B.bytes
  have hr := B.returns
  have hts := atoms_spec (ws := (Cond.code yT_size cT_size 1 (some .int) :: tb)) B.pre
  have ht : ∀ w ∈ tb, w.before _ s = true := fun w h => hts w (List.mem_cons_of_mem _ h)
  have hown : s.vm.findClass RT = some m.cls := findClass_of_methodNamed B.named
  have hlocks := B.notSynchronized
  have hl := lv_entry ([.ref (q 1)]) (n := 1) (Nat.le_of_ble_eq_true rfl)
  rw [lg_entry_eq]
  generalize (lg_sl ([.ref (q 1)]) ++ List.replicate (1 - (lg_sl ([.ref (q 1)])).length) Slot.unset).toArray = ls at hl ⊢
  have hl : lv_has ls 1 [(0, .ref (q 1))] := hl
  refine lv_aload_n hx hb dT_size_0 rfl (lv_at hl 0 rfl) ?_
  refine va_get (D := (dC, dI)) (ci := 1) (v := .int (nI sz)) (C := RT) (T := TT) (N := 6) hx hb ht inT hown hK hP 1 rfl rfl 4 (by decide) (ht _ m_28) (fun _ h9 => h9) rfl dT_size_1 ?_
  exact W.iret (v := nI sz) hx hb hr (fun t ht hW => ⟨_, rfl, rfl, ht⟩) (fun q h => by cases h) dT_size_4

set_option maxHeartbeats 4000000 in
set_option maxRecDepth 100000 in
theorem c_T_isFull (l : Launch) (dC : Nat → ClassId) (dI : Nat → Nat → Nat) (cI cZ cL : ClassId) (q : Nat → Nat) (ph : Nat → Nat) (pa : Nat → Nat) (ch : Nat → Nat) (en : Nat → Bool) (sz : Nat) (pr : Nat) (gc : Nat → Int32) (gb : Nat → Int32) (sc : Nat → Int32) (sh : Nat → Int32) (sl : Nat → Int32) (ct : Nat) (tok : Nat → Int64) (wt : Nat → Int64) (pn : Nat → Nat) (lt : Nat → Int64) (wp : Int64) (sd : Bool) (hpr : pr ≤ 8) : Met l yT_isFull (Cond.code yT_isFull cT_isFull 1 (some .boolean) :: tb) ({ frames := 0, cells := 0, slots := 0, locals := 0 }) (va_Pc [.ref (q 1)] (wt_ro (dC, dI) vwCl [(cI, .int), (cZ, .boolean), (cL, .long)] (wX cI cZ cL q ph pa ch en sz pr gc gb sc sh sl ct tok wt pn lt wp sd))) (vp_Si (fun r => r = (wt_bI (decide (8 ≤ pr))))) 0 0 (fun _ => False) := by
  refine Met.ofW (cc := cT_isFull) (maxL := 1) (ret := (some .boolean)) (by decide) rfl ?_
  intro p e s m args below meth c s₁ B hml hv
  obtain ⟨rfl, hP, hK, hN⟩ := hv
  have hx := B.exec
  have hb := B.bytes
  have hr := B.returns
  have hts := atoms_spec (ws := (Cond.code yT_isFull cT_isFull 1 (some .boolean) :: tb)) B.pre
  have ht : ∀ w ∈ tb, w.before _ s = true := fun w h => hts w (List.mem_cons_of_mem _ h)
  have hown : s.vm.findClass RT = some m.cls := findClass_of_methodNamed B.named
  have hlocks := B.notSynchronized
  have hl := lv_entry ([.ref (q 1)]) (n := 1) (Nat.le_of_ble_eq_true rfl)
  rw [lg_entry_eq]
  generalize (lg_sl ([.ref (q 1)]) ++ List.replicate (1 - (lg_sl ([.ref (q 1)])).length) Slot.unset).toArray = ls at hl ⊢
  have hl : lv_has ls 1 [(0, .ref (q 1))] := hl
  refine lv_aload_n hx hb dT_isFull_0 rfl (lv_at hl 0 rfl) ?_
  refine va_get (D := (dC, dI)) (ci := 1) (v := .int (nI pr)) (C := RT) (T := TT) (N := 6) hx hb ht inT hown hK hP 1 rfl rfl 5 (by decide) (ht _ m_29) (fun _ h9 => h9) rfl dT_isFull_1 ?_
  refine lv_bipush (v := nI 8) hx hb dT_isFull_4 (by decide) ?_
  refine wt_icmp_lt (tgt := 13) hx hb dT_isFull_6 (by decide) (by omega) (by omega) (fun c_1 => ?_) (fun c_1 => ?_)
  · skip
    refine lv_iconst (v := nI 0) hx hb dT_isFull_13 (by decide) ?_
    exact W.zret (v := nI 0) hx hb hr rfl (fun t ht hW => ⟨_, rfl, (by first | (rw [decide_eq_true (p := 8 ≤ pr) (by omega)]; rfl) | (rw [decide_eq_false (p := 8 ≤ pr) (by omega)]; rfl)), ht⟩) (fun q h => by cases h) dT_isFull_14
  · skip
    refine lv_iconst (v := nI 1) hx hb dT_isFull_9 (by decide) ?_
    refine lv_goto (tgt := 14) hx hb dT_isFull_10 (by decide) ?_
    exact W.zret (v := nI 1) hx hb hr rfl (fun t ht hW => ⟨_, rfl, (by first | (rw [decide_eq_true (p := 8 ≤ pr) (by omega)]; rfl) | (rw [decide_eq_false (p := 8 ≤ pr) (by omega)]; rfl)), ht⟩) (fun q h => by cases h) dT_isFull_14

set_option maxHeartbeats 4000000 in
set_option maxRecDepth 100000 in
theorem c_T_phoneOf (l : Launch) (dC : Nat → ClassId) (dI : Nat → Nat → Nat) (cI cZ cL : ClassId) (q : Nat → Nat) (ph : Nat → Nat) (pa : Nat → Nat) (ch : Nat → Nat) (en : Nat → Bool) (sz : Nat) (pr : Nat) (gc : Nat → Int32) (gb : Nat → Int32) (sc : Nat → Int32) (sh : Nat → Int32) (sl : Nat → Int32) (ct : Nat) (tok : Nat → Int64) (wt : Nat → Int64) (pn : Nat → Nat) (lt : Nat → Int64) (wp : Int64) (sd : Bool) (nd : Nat) (hnd : nd < 25) : Met l yT_phoneOf (Cond.code yT_phoneOf cT_phoneOf 2 (some .int) :: tb) ({ frames := 0, cells := 0, slots := 0, locals := 0 }) (va_Pc [.ref (q 1), .int (nI nd)] (wt_ro (dC, dI) vwCl [(cI, .int), (cZ, .boolean), (cL, .long)] (wX cI cZ cL q ph pa ch en sz pr gc gb sc sh sl ct tok wt pn lt wp sd))) (vp_Si (fun r => r = (nI (ph nd)))) 0 0 (fun _ => False) := by
  refine Met.ofW (cc := cT_phoneOf) (maxL := 2) (ret := (some .int)) (by decide) rfl ?_
  intro p e s m args below meth c s₁ B hml hv
  obtain ⟨rfl, hP, hK, hN⟩ := hv
  have hx := B.exec
  have hb := B.bytes
  have hr := B.returns
  have hts := atoms_spec (ws := (Cond.code yT_phoneOf cT_phoneOf 2 (some .int) :: tb)) B.pre
  have ht : ∀ w ∈ tb, w.before _ s = true := fun w h => hts w (List.mem_cons_of_mem _ h)
  have hown : s.vm.findClass RT = some m.cls := findClass_of_methodNamed B.named
  have hlocks := B.notSynchronized
  have hl := lv_entry ([.ref (q 1), .int (nI nd)]) (n := 2) (Nat.le_of_ble_eq_true rfl)
  rw [lg_entry_eq]
  generalize (lg_sl ([.ref (q 1), .int (nI nd)]) ++ List.replicate (2 - (lg_sl ([.ref (q 1), .int (nI nd)])).length) Slot.unset).toArray = ls at hl ⊢
  have hl : lv_has ls 2 [(0, .ref (q 1)), (1, .int (nI nd))] := hl
  refine lv_aload_n hx hb dT_phoneOf_0 rfl (lv_at hl 0 rfl) ?_
  refine va_get (D := (dC, dI)) (ci := 1) (v := .ref (q 2)) (C := RT) (T := TT) (N := 6) hx hb ht inT hown hK hP 1 rfl rfl 0 (by decide) (ht _ m_24) (fun _ h9 => h9) rfl dT_phoneOf_1 ?_
  refine lv_iload_n hx hb dT_phoneOf_4 rfl (lv_at hl 1 rfl) ?_
  refine wt_ialdN hx hb hK hP 2 0 rfl rfl (k := nd) (by omega) (by decide) dT_phoneOf_5 ?_
  exact W.iret (v := nI (ph nd)) hx hb hr (fun t ht hW => ⟨_, rfl, rfl, ht⟩) (fun q h => by cases h) dT_phoneOf_6

set_option maxHeartbeats 4000000 in
set_option maxRecDepth 100000 in
theorem c_T_parentOf (l : Launch) (dC : Nat → ClassId) (dI : Nat → Nat → Nat) (cI cZ cL : ClassId) (q : Nat → Nat) (ph : Nat → Nat) (pa : Nat → Nat) (ch : Nat → Nat) (en : Nat → Bool) (sz : Nat) (pr : Nat) (gc : Nat → Int32) (gb : Nat → Int32) (sc : Nat → Int32) (sh : Nat → Int32) (sl : Nat → Int32) (ct : Nat) (tok : Nat → Int64) (wt : Nat → Int64) (pn : Nat → Nat) (lt : Nat → Int64) (wp : Int64) (sd : Bool) (nd : Nat) (hnd : nd < 25) : Met l yT_parentOf (Cond.code yT_parentOf cT_parentOf 2 (some .int) :: tb) ({ frames := 0, cells := 0, slots := 0, locals := 0 }) (va_Pc [.ref (q 1), .int (nI nd)] (wt_ro (dC, dI) vwCl [(cI, .int), (cZ, .boolean), (cL, .long)] (wX cI cZ cL q ph pa ch en sz pr gc gb sc sh sl ct tok wt pn lt wp sd))) (vp_Si (fun r => r = (nI (pa nd)))) 0 0 (fun _ => False) := by
  refine Met.ofW (cc := cT_parentOf) (maxL := 2) (ret := (some .int)) (by decide) rfl ?_
  intro p e s m args below meth c s₁ B hml hv
  obtain ⟨rfl, hP, hK, hN⟩ := hv
  have hx := B.exec
  have hb := B.bytes
  have hr := B.returns
  have hts := atoms_spec (ws := (Cond.code yT_parentOf cT_parentOf 2 (some .int) :: tb)) B.pre
  have ht : ∀ w ∈ tb, w.before _ s = true := fun w h => hts w (List.mem_cons_of_mem _ h)
  have hown : s.vm.findClass RT = some m.cls := findClass_of_methodNamed B.named
  have hlocks := B.notSynchronized
  have hl := lv_entry ([.ref (q 1), .int (nI nd)]) (n := 2) (Nat.le_of_ble_eq_true rfl)
  rw [lg_entry_eq]
  generalize (lg_sl ([.ref (q 1), .int (nI nd)]) ++ List.replicate (2 - (lg_sl ([.ref (q 1), .int (nI nd)])).length) Slot.unset).toArray = ls at hl ⊢
  have hl : lv_has ls 2 [(0, .ref (q 1)), (1, .int (nI nd))] := hl
  refine lv_aload_n hx hb dT_parentOf_0 rfl (lv_at hl 0 rfl) ?_
  refine va_get (D := (dC, dI)) (ci := 1) (v := .ref (q 3)) (C := RT) (T := TT) (N := 6) hx hb ht inT hown hK hP 1 rfl rfl 1 (by decide) (ht _ m_25) (fun _ h9 => h9) rfl dT_parentOf_1 ?_
  refine lv_iload_n hx hb dT_parentOf_4 rfl (lv_at hl 1 rfl) ?_
  refine wt_ialdN hx hb hK hP 3 0 rfl rfl (k := nd) (by omega) (by decide) dT_parentOf_5 ?_
  exact W.iret (v := nI (pa nd)) hx hb hr (fun t ht hW => ⟨_, rfl, rfl, ht⟩) (fun q h => by cases h) dT_parentOf_6

set_option maxHeartbeats 4000000 in
set_option maxRecDepth 100000 in
theorem c_T_endsWord (l : Launch) (dC : Nat → ClassId) (dI : Nat → Nat → Nat) (cI cZ cL : ClassId) (q : Nat → Nat) (ph : Nat → Nat) (pa : Nat → Nat) (ch : Nat → Nat) (en : Nat → Bool) (sz : Nat) (pr : Nat) (gc : Nat → Int32) (gb : Nat → Int32) (sc : Nat → Int32) (sh : Nat → Int32) (sl : Nat → Int32) (ct : Nat) (tok : Nat → Int64) (wt : Nat → Int64) (pn : Nat → Nat) (lt : Nat → Int64) (wp : Int64) (sd : Bool) (nd : Nat) (ww : Nat) (hnd : nd < 25) (hww : ww < 4) : Met l yT_endsWord (Cond.code yT_endsWord cT_endsWord 3 (some .boolean) :: tb) ({ frames := 0, cells := 0, slots := 0, locals := 0 }) (va_Pc [.ref (q 1), .int (nI nd), .int (nI ww)] (wt_ro (dC, dI) vwCl [(cI, .int), (cZ, .boolean), (cL, .long)] (wX cI cZ cL q ph pa ch en sz pr gc gb sc sh sl ct tok wt pn lt wp sd))) (vp_Si (fun r => r = (wt_bI (en (nd * 4 + ww))))) 0 0 (fun _ => False) := by
  refine Met.ofW (cc := cT_endsWord) (maxL := 3) (ret := (some .boolean)) (by decide) rfl ?_
  intro p e s m args below meth c s₁ B hml hv
  obtain ⟨rfl, hP, hK, hN⟩ := hv
  have hx := B.exec
  have hb := B.bytes
  have hr := B.returns
  have hts := atoms_spec (ws := (Cond.code yT_endsWord cT_endsWord 3 (some .boolean) :: tb)) B.pre
  have ht : ∀ w ∈ tb, w.before _ s = true := fun w h => hts w (List.mem_cons_of_mem _ h)
  have hown : s.vm.findClass RT = some m.cls := findClass_of_methodNamed B.named
  have hlocks := B.notSynchronized
  have hl := lv_entry ([.ref (q 1), .int (nI nd), .int (nI ww)]) (n := 3) (Nat.le_of_ble_eq_true rfl)
  rw [lg_entry_eq]
  generalize (lg_sl ([.ref (q 1), .int (nI nd), .int (nI ww)]) ++ List.replicate (3 - (lg_sl ([.ref (q 1), .int (nI nd), .int (nI ww)])).length) Slot.unset).toArray = ls at hl ⊢
  have hl : lv_has ls 3 [(0, .ref (q 1)), (1, .int (nI nd)), (2, .int (nI ww))] := hl
  refine lv_aload_n hx hb dT_endsWord_0 rfl (lv_at hl 0 rfl) ?_
  refine va_get (D := (dC, dI)) (ci := 1) (v := .ref (q 5)) (C := RT) (T := TT) (N := 6) hx hb ht inT hown hK hP 1 rfl rfl 3 (by decide) (ht _ m_27) (fun _ h9 => h9) rfl dT_endsWord_1 ?_
  refine lv_iload_n hx hb dT_endsWord_4 rfl (lv_at hl 1 rfl) ?_
  refine lv_iconst (v := nI 4) hx hb dT_endsWord_5 (by decide) ?_
  refine wt_imul hx hb dT_endsWord_6 ?_
  refine lv_iload_n hx hb dT_endsWord_7 rfl (lv_at hl 2 rfl) ?_
  refine wt_iadd hx hb dT_endsWord_8 ?_
  refine wt_zald hx hb hK hP 5 1 rfl rfl (k := nd * 4 + ww) (by omega) (by decide) dT_endsWord_9 ?_
  exact W.zret (v := wt_bI (en (nd * 4 + ww))) hx hb hr (wt_bI_nar _) (fun t ht hW => ⟨_, rfl, rfl, ht⟩) (fun q h => by cases h) dT_endsWord_10

set_option maxHeartbeats 4000000 in
set_option maxRecDepth 100000 in
theorem c_T_childOf_0 (l : Launch) (dC : Nat → ClassId) (dI : Nat → Nat → Nat) (cI cZ cL : ClassId) (q : Nat → Nat) (ph : Nat → Nat) (pa : Nat → Nat) (ch : Nat → Nat) (en : Nat → Bool) (sz : Nat) (pr : Nat) (gc : Nat → Int32) (gb : Nat → Int32) (sc : Nat → Int32) (sh : Nat → Int32) (sl : Nat → Int32) (ct : Nat) (tok : Nat → Int64) (wt : Nat → Int64) (pn : Nat → Nat) (lt : Nat → Int64) (wp : Int64) (sd : Bool) (nd : Nat) (pp : Nat) (hnd : nd < 25) (hpp : pp < 4) (hch : ∀ j, ch j ≤ 24) (hz : ch (nd * 4 + pp) = 0) : Met l yT_childOf (Cond.code yT_childOf cT_childOf 4 (some .int) :: tb) ({ frames := 0, cells := 0, slots := 0, locals := 0 }) (va_Pc [.ref (q 1), .int (nI nd), .int (nI pp)] (wt_ro (dC, dI) vwCl [(cI, .int), (cZ, .boolean), (cL, .long)] (wX cI cZ cL q ph pa ch en sz pr gc gb sc sh sl ct tok wt pn lt wp sd))) (vp_Si (fun r => r = (-1))) 0 0 (fun _ => False) := by
  refine Met.ofW (cc := cT_childOf) (maxL := 4) (ret := (some .int)) (by decide) rfl ?_
  intro p e s m args below meth c s₁ B hml hv
  obtain ⟨rfl, hP, hK, hN⟩ := hv
  have hx := B.exec
  have hb := B.bytes
  have hr := B.returns
  have hts := atoms_spec (ws := (Cond.code yT_childOf cT_childOf 4 (some .int) :: tb)) B.pre
  have ht : ∀ w ∈ tb, w.before _ s = true := fun w h => hts w (List.mem_cons_of_mem _ h)
  have hown : s.vm.findClass RT = some m.cls := findClass_of_methodNamed B.named
  have hlocks := B.notSynchronized
  have hl := lv_entry ([.ref (q 1), .int (nI nd), .int (nI pp)]) (n := 4) (Nat.le_of_ble_eq_true rfl)
  rw [lg_entry_eq]
  generalize (lg_sl ([.ref (q 1), .int (nI nd), .int (nI pp)]) ++ List.replicate (4 - (lg_sl ([.ref (q 1), .int (nI nd), .int (nI pp)])).length) Slot.unset).toArray = ls at hl ⊢
  have hl : lv_has ls 4 [(0, .ref (q 1)), (1, .int (nI nd)), (2, .int (nI pp))] := hl
  refine lv_aload_n hx hb dT_childOf_0 rfl (lv_at hl 0 rfl) ?_
  refine va_get (D := (dC, dI)) (ci := 1) (v := .ref (q 4)) (C := RT) (T := TT) (N := 6) hx hb ht inT hown hK hP 1 rfl rfl 2 (by decide) (ht _ m_26) (fun _ h9 => h9) rfl dT_childOf_1 ?_
  refine lv_iload_n hx hb dT_childOf_4 rfl (lv_at hl 1 rfl) ?_
  refine lv_iconst (v := nI 4) hx hb dT_childOf_5 (by decide) ?_
  refine wt_imul hx hb dT_childOf_6 ?_
  refine lv_iload_n hx hb dT_childOf_7 rfl (lv_at hl 2 rfl) ?_
  refine wt_iadd hx hb dT_childOf_8 ?_
  refine wt_ialdN hx hb hK hP 4 0 rfl rfl (k := nd * 4 + pp) (by first | omega | (have := hch (nd * 4 + pp); omega)) (by decide) dT_childOf_9 ?_
  refine lv_istore_n (lv' := [(3, .int (nI (ch (nd * 4 + pp)))), (0, .ref (q 1)), (1, .int (nI nd)), (2, .int (nI pp))]) hx hb dT_childOf_10 rfl hl (by decide) rfl (fun ls hl => ?_)
  refine lv_iload_n hx hb dT_childOf_11 rfl (lv_at hl 0 rfl) ?_
  refine wt_if_ne (tgt := 19) hx hb dT_childOf_12 (by decide) (by first | omega | (have := hch (nd * 4 + pp); omega)) (fun c_1 => ?_) (fun c_1 => ?_)
  · exact absurd c_1 (by omega)
  · skip
    refine lv_iconst (v := (-1)) hx hb dT_childOf_15 (by decide) ?_
    refine lv_goto (tgt := 20) hx hb dT_childOf_16 (by decide) ?_
    exact W.iret (v := (-1)) hx hb hr (fun t ht hW => ⟨_, rfl, rfl, ht⟩) (fun q h => by cases h) dT_childOf_20

set_option maxHeartbeats 4000000 in
set_option maxRecDepth 100000 in
theorem c_T_childOf_1 (l : Launch) (dC : Nat → ClassId) (dI : Nat → Nat → Nat) (cI cZ cL : ClassId) (q : Nat → Nat) (ph : Nat → Nat) (pa : Nat → Nat) (ch : Nat → Nat) (en : Nat → Bool) (sz : Nat) (pr : Nat) (gc : Nat → Int32) (gb : Nat → Int32) (sc : Nat → Int32) (sh : Nat → Int32) (sl : Nat → Int32) (ct : Nat) (tok : Nat → Int64) (wt : Nat → Int64) (pn : Nat → Nat) (lt : Nat → Int64) (wp : Int64) (sd : Bool) (nd : Nat) (pp : Nat) (hnd : nd < 25) (hpp : pp < 4) (hch : ∀ j, ch j ≤ 24) (hz : 0 < ch (nd * 4 + pp)) : Met l yT_childOf (Cond.code yT_childOf cT_childOf 4 (some .int) :: tb) ({ frames := 0, cells := 0, slots := 0, locals := 0 }) (va_Pc [.ref (q 1), .int (nI nd), .int (nI pp)] (wt_ro (dC, dI) vwCl [(cI, .int), (cZ, .boolean), (cL, .long)] (wX cI cZ cL q ph pa ch en sz pr gc gb sc sh sl ct tok wt pn lt wp sd))) (vp_Si (fun r => r = (nI (ch (nd * 4 + pp))))) 0 0 (fun _ => False) := by
  refine Met.ofW (cc := cT_childOf) (maxL := 4) (ret := (some .int)) (by decide) rfl ?_
  intro p e s m args below meth c s₁ B hml hv
  obtain ⟨rfl, hP, hK, hN⟩ := hv
  have hx := B.exec
  have hb := B.bytes
  have hr := B.returns
  have hts := atoms_spec (ws := (Cond.code yT_childOf cT_childOf 4 (some .int) :: tb)) B.pre
  have ht : ∀ w ∈ tb, w.before _ s = true := fun w h => hts w (List.mem_cons_of_mem _ h)
  have hown : s.vm.findClass RT = some m.cls := findClass_of_methodNamed B.named
  have hlocks := B.notSynchronized
  have hl := lv_entry ([.ref (q 1), .int (nI nd), .int (nI pp)]) (n := 4) (Nat.le_of_ble_eq_true rfl)
  rw [lg_entry_eq]
  generalize (lg_sl ([.ref (q 1), .int (nI nd), .int (nI pp)]) ++ List.replicate (4 - (lg_sl ([.ref (q 1), .int (nI nd), .int (nI pp)])).length) Slot.unset).toArray = ls at hl ⊢
  have hl : lv_has ls 4 [(0, .ref (q 1)), (1, .int (nI nd)), (2, .int (nI pp))] := hl
  refine lv_aload_n hx hb dT_childOf_0 rfl (lv_at hl 0 rfl) ?_
  refine va_get (D := (dC, dI)) (ci := 1) (v := .ref (q 4)) (C := RT) (T := TT) (N := 6) hx hb ht inT hown hK hP 1 rfl rfl 2 (by decide) (ht _ m_26) (fun _ h9 => h9) rfl dT_childOf_1 ?_
  refine lv_iload_n hx hb dT_childOf_4 rfl (lv_at hl 1 rfl) ?_
  refine lv_iconst (v := nI 4) hx hb dT_childOf_5 (by decide) ?_
  refine wt_imul hx hb dT_childOf_6 ?_
  refine lv_iload_n hx hb dT_childOf_7 rfl (lv_at hl 2 rfl) ?_
  refine wt_iadd hx hb dT_childOf_8 ?_
  refine wt_ialdN hx hb hK hP 4 0 rfl rfl (k := nd * 4 + pp) (by first | omega | (have := hch (nd * 4 + pp); omega)) (by decide) dT_childOf_9 ?_
  refine lv_istore_n (lv' := [(3, .int (nI (ch (nd * 4 + pp)))), (0, .ref (q 1)), (1, .int (nI nd)), (2, .int (nI pp))]) hx hb dT_childOf_10 rfl hl (by decide) rfl (fun ls hl => ?_)
  refine lv_iload_n hx hb dT_childOf_11 rfl (lv_at hl 0 rfl) ?_
  refine wt_if_ne (tgt := 19) hx hb dT_childOf_12 (by decide) (by first | omega | (have := hch (nd * 4 + pp); omega)) (fun c_1 => ?_) (fun c_1 => ?_)
  · skip
    refine lv_iload_n hx hb dT_childOf_19 rfl (lv_at hl 0 rfl) ?_
    exact W.iret (v := nI (ch (nd * 4 + pp))) hx hb hr (fun t ht hW => ⟨_, rfl, rfl, ht⟩) (fun q h => by cases h) dT_childOf_20
  · exact absurd c_1 (by omega)

set_option maxHeartbeats 4000000 in
set_option maxRecDepth 100000 in
theorem c_T_grow (l : Launch) (dC : Nat → ClassId) (dI : Nat → Nat → Nat) (cI cZ cL : ClassId) (q : Nat → Nat) (sz0 : Nat) (ph : Nat → Nat) (pa : Nat → Nat) (ch : Nat → Nat) (en : Nat → Bool) (sz : Nat) (pr : Nat) (gc : Nat → Int32) (gb : Nat → Int32) (sc : Nat → Int32) (sh : Nat → Int32) (sl : Nat → Int32) (ct : Nat) (tok : Nat → Int64) (wt : Nat → Int64) (pn : Nat → Nat) (lt : Nat → Int64) (wp : Int64) (sd : Bool) (nd : Nat) (pp : Nat) (hnd : nd < 25) (hpp : pp < 4) (hch : ∀ j, ch j ≤ 24) (hsz : sz + 1 ≤ 24) : Met l yT_grow (Cond.code yT_grow cT_grow 4 (some .int) :: tb) ({ frames := 1, cells := 0, slots := 0, locals := 23 }) (va_Pc [.ref (q 1), .int (nI nd), .int (nI pp)] (wt_rw (dC, dI) vwCl [(cI, .int), (cZ, .boolean), (cL, .long)] (wX cI cZ cL q ph pa ch en sz pr gc gb sc sh sl ct tok wt pn lt wp sd) sz0)) (va_Qi (fun r (_ : Unit) => r = (nI ((wt_gr ph pa ch sz nd pp).2.2.2.2))) (wt_B (dC, dI) vwCl (va_A (wX cI cZ cL q ph pa ch en sz pr gc gb sc sh sl ct tok wt pn lt wp sd) sz0) (wX cI cZ cL q ((wt_gr ph pa ch sz nd pp).1) ((wt_gr ph pa ch sz nd pp).2.1) ((wt_gr ph pa ch sz nd pp).2.2.1) en ((wt_gr ph pa ch sz nd pp).2.2.2.1) pr gc gb sc sh sl ct tok wt pn lt wp sd)) (va_A (wX cI cZ cL q ph pa ch en sz pr gc gb sc sh sl ct tok wt pn lt wp sd) sz0)) 0 0 (va_A (wX cI cZ cL q ph pa ch en sz pr gc gb sc sh sl ct tok wt pn lt wp sd) sz0) := by
  refine Met.ofW (cc := cT_grow) (maxL := 4) (ret := (some .int)) (by decide) rfl ?_
  intro p e s m args below meth c s₁ B hml hv
  obtain ⟨rfl, hsz, hP, hK, hN, hD0⟩ := hv
  have hx := B.exec
  have hb := B.bytes
  have hr := B.returns
  have hts := atoms_spec (ws := (Cond.code yT_grow cT_grow 4 (some .int) :: tb)) B.pre
  have ht : ∀ w ∈ tb, w.before _ s = true := fun w h => hts w (List.mem_cons_of_mem _ h)
  have hown : s.vm.findClass RT = some m.cls := findClass_of_methodNamed B.named
  have hlocks := B.notSynchronized
  subst hsz
  have hD := hD0.self (sz := s.heap.size)
  generalize hAe : va_A (wX cI cZ cL q ph pa ch en sz pr gc gb sc sh sl ct tok wt pn lt wp sd) s.heap.size = A at hD ⊢
  have hA : ∀ q : Nat, s.heap.size ≤ q → A q := fun q h => by rw [← hAe]; exact Or.inr h
  clear hAe hD0
  have hS : va_S A s.heap s.heap [] := va_S.rf
  have hl := lv_entry ([.ref (q 1), .int (nI nd), .int (nI pp)]) (n := 4) (Nat.le_of_ble_eq_true rfl)
  rw [lg_entry_eq]
  generalize (lg_sl ([.ref (q 1), .int (nI nd), .int (nI pp)]) ++ List.replicate (4 - (lg_sl ([.ref (q 1), .int (nI nd), .int (nI pp)])).length) Slot.unset).toArray = ls at hl ⊢
  have hl : lv_has ls 4 [(0, .ref (q 1)), (1, .int (nI nd)), (2, .int (nI pp))] := hl
  refine lv_aload_n hx hb dT_grow_0 rfl (lv_at hl 0 rfl) ?_
  refine lv_iload_n hx hb dT_grow_1 rfl (lv_at hl 1 rfl) ?_
  refine lv_iload_n hx hb dT_grow_2 rfl (lv_at hl 2 rfl) ?_
  rcases Nat.eq_zero_or_pos (ch (nd * 4 + pp)) with hz3 | hz3
  · skip
    refine wt_roi (va_runV (As := [.int (nI nd), .int (nI pp)]) (rest := []) ⟨hx, hb, hml, hown, ht⟩ (c_T_childOf_0 l dC dI cI cZ cL q ph pa ch en sz pr gc gb sc sh sl ct tok wt pn lt wp sd nd pp hnd hpp hch hz3) (cwV 2 ht (good_V m_150 m_152 ms_0 m_2 m_153) rfl rfl rfl (by decide +kernel) ⟨Nat.le_of_ble_eq_true rfl, Nat.le_of_ble_eq_true rfl⟩) (wt_preV hK hN hP (va_recv hK hP (ci := 1) (q0 := 1) rfl rfl)) rfl rfl hl.1 rfl (lv_room (Nat.le_of_ble_eq_true rfl)) dT_grow_3 ⟨Nat.le_of_ble_eq_true rfl, Nat.le_of_ble_eq_true rfl⟩) ?_
    refine lv_istore_n (lv' := [(3, .int (-1)), (0, .ref (q 1)), (1, .int (nI nd)), (2, .int (nI pp))]) hx hb dT_grow_6 rfl hl (by decide) rfl (fun ls hl => ?_)
    refine lv_iload_n hx hb dT_grow_7 rfl (lv_at hl 0 rfl) ?_
    refine lv_iconst (v := (-1)) hx hb dT_grow_8 (by decide) ?_
    refine lv_icmp_eq (tgt := 14) hx hb dT_grow_9 (by decide) (fun c_1 => ?_) (fun c_1 => ?_)
    · skip
      refine lv_aload_n hx hb dT_grow_14 rfl (lv_at hl 1 rfl) ?_
      refine lv_dup hx hb dT_grow_15 rfl ?_
      refine va_get (D := (dC, dI)) (ci := 1) (v := .int (nI sz)) (C := RT) (T := TT) (N := 6) hx hb ht inT hown hK hP 1 rfl rfl 4 (by decide) (ht _ m_28) (fun _ h9 => h9) rfl dT_grow_16 ?_
      refine lv_iconst (v := nI 1) hx hb dT_grow_19 (by decide) ?_
      refine wt_iadd hx hb dT_grow_20 ?_
      refine va_put (D := (dC, dI)) (ci := 1) (v := .int (nI (sz + 1))) (ty := .int) (C := RT) (T := TT) (N := 6) hx hb ht inT tyT tyT_ok nmT hown hK hP hD hS 1 rfl rfl 4 (by decide) (ht _ m_28) (fun _ h9 => h9) rfl (by decide +kernel) rfl rfl (Nat.le_of_ble_eq_true rfl) dT_grow_21 (fun H locs hP hD hS => ?_)
      have hP : va_P (dC, dI) vwCl (wX cI cZ cL q ph pa ch en (sz + 1) pr gc gb sc sh sl ct tok wt pn lt wp sd) H := hP
      have hD : va_D A (wX cI cZ cL q ph pa ch en (sz + 1) pr gc gb sc sh sl ct tok wt pn lt wp sd) := hD
      refine lv_aload_n hx hb dT_grow_24 rfl (lv_at hl 1 rfl) ?_
      refine va_get (D := (dC, dI)) (ci := 1) (v := .ref (q 2)) (C := RT) (T := TT) (N := 6) hx hb ht inT hown hK hP 1 rfl rfl 0 (by decide) (ht _ m_24) (fun _ h9 => h9) rfl dT_grow_25 ?_
      refine lv_aload_n hx hb dT_grow_28 rfl (lv_at hl 1 rfl) ?_
      refine va_get (D := (dC, dI)) (ci := 1) (v := .int (nI (sz + 1))) (C := RT) (T := TT) (N := 6) hx hb ht inT hown hK hP 1 rfl rfl 4 (by decide) (ht _ m_28) (fun _ h9 => h9) rfl dT_grow_29 ?_
      refine lv_iload_n hx hb dT_grow_32 rfl (lv_at hl 3 rfl) ?_
      refine wt_iastN hx hb hK hP hD hS 2 0 rfl rfl (k := sz + 1) (by first | omega | (have := hch (nd * 4 + pp); omega)) (by decide) dT_grow_33 (fun H locs hP hD hS => ?_)
      have hP : va_P (dC, dI) vwCl (wX cI cZ cL q (va_up ph (sz + 1) pp) pa ch en (sz + 1) pr gc gb sc sh sl ct tok wt pn lt wp sd) H := hP
      have hD : va_D A (wX cI cZ cL q (va_up ph (sz + 1) pp) pa ch en (sz + 1) pr gc gb sc sh sl ct tok wt pn lt wp sd) := hD
      refine lv_aload_n hx hb dT_grow_34 rfl (lv_at hl 1 rfl) ?_
      refine va_get (D := (dC, dI)) (ci := 1) (v := .ref (q 3)) (C := RT) (T := TT) (N := 6) hx hb ht inT hown hK hP 1 rfl rfl 1 (by decide) (ht _ m_25) (fun _ h9 => h9) rfl dT_grow_35 ?_
      refine lv_aload_n hx hb dT_grow_38 rfl (lv_at hl 1 rfl) ?_
      refine va_get (D := (dC, dI)) (ci := 1) (v := .int (nI (sz + 1))) (C := RT) (T := TT) (N := 6) hx hb ht inT hown hK hP 1 rfl rfl 4 (by decide) (ht _ m_28) (fun _ h9 => h9) rfl dT_grow_39 ?_
      refine lv_iload_n hx hb dT_grow_42 rfl (lv_at hl 2 rfl) ?_
      refine wt_iastN hx hb hK hP hD hS 3 0 rfl rfl (k := sz + 1) (by first | omega | (have := hch (nd * 4 + pp); omega)) (by decide) dT_grow_43 (fun H locs hP hD hS => ?_)
      have hP : va_P (dC, dI) vwCl (wX cI cZ cL q (va_up ph (sz + 1) pp) (va_up pa (sz + 1) nd) ch en (sz + 1) pr gc gb sc sh sl ct tok wt pn lt wp sd) H := hP
      have hD : va_D A (wX cI cZ cL q (va_up ph (sz + 1) pp) (va_up pa (sz + 1) nd) ch en (sz + 1) pr gc gb sc sh sl ct tok wt pn lt wp sd) := hD
      refine lv_aload_n hx hb dT_grow_44 rfl (lv_at hl 1 rfl) ?_
      refine va_get (D := (dC, dI)) (ci := 1) (v := .ref (q 4)) (C := RT) (T := TT) (N := 6) hx hb ht inT hown hK hP 1 rfl rfl 2 (by decide) (ht _ m_26) (fun _ h9 => h9) rfl dT_grow_45 ?_
      refine lv_iload_n hx hb dT_grow_48 rfl (lv_at hl 2 rfl) ?_
      refine lv_iconst (v := nI 4) hx hb dT_grow_49 (by decide) ?_
      refine wt_imul hx hb dT_grow_50 ?_
      refine lv_iload_n hx hb dT_grow_51 rfl (lv_at hl 3 rfl) ?_
      refine wt_iadd hx hb dT_grow_52 ?_
      refine lv_aload_n hx hb dT_grow_53 rfl (lv_at hl 1 rfl) ?_
      refine va_get (D := (dC, dI)) (ci := 1) (v := .int (nI (sz + 1))) (C := RT) (T := TT) (N := 6) hx hb ht inT hown hK hP 1 rfl rfl 4 (by decide) (ht _ m_28) (fun _ h9 => h9) rfl dT_grow_54 ?_
      refine wt_iastN hx hb hK hP hD hS 4 0 rfl rfl (k := nd * 4 + pp) (by first | omega | (have := hch (nd * 4 + pp); omega)) (by decide) dT_grow_57 (fun H locs hP hD hS => ?_)
      have hP : va_P (dC, dI) vwCl (wX cI cZ cL q (va_up ph (sz + 1) pp) (va_up pa (sz + 1) nd) (va_up ch (nd * 4 + pp) (sz + 1)) en (sz + 1) pr gc gb sc sh sl ct tok wt pn lt wp sd) H := hP
      have hD : va_D A (wX cI cZ cL q (va_up ph (sz + 1) pp) (va_up pa (sz + 1) nd) (va_up ch (nd * 4 + pp) (sz + 1)) en (sz + 1) pr gc gb sc sh sl ct tok wt pn lt wp sd) := hD
      refine lv_aload_n hx hb dT_grow_58 rfl (lv_at hl 1 rfl) ?_
      refine va_get (D := (dC, dI)) (ci := 1) (v := .int (nI (sz + 1))) (C := RT) (T := TT) (N := 6) hx hb ht inT hown hK hP 1 rfl rfl 4 (by decide) (ht _ m_28) (fun _ h9 => h9) rfl dT_grow_59 ?_
      have hP9 : va_P (dC, dI) vwCl (wX cI cZ cL q ((wt_gr ph pa ch sz nd pp).1) ((wt_gr ph pa ch sz nd pp).2.1) ((wt_gr ph pa ch sz nd pp).2.2.1) en ((wt_gr ph pa ch sz nd pp).2.2.2.1) pr gc gb sc sh sl ct tok wt pn lt wp sd) H := by rw [show ((wt_gr ph pa ch sz nd pp).1) = (va_up ph (sz + 1) pp) from (by rw [show wt_gr ph pa ch sz nd pp = _ from if_pos hz3]), show ((wt_gr ph pa ch sz nd pp).2.1) = (va_up pa (sz + 1) nd) from (by rw [show wt_gr ph pa ch sz nd pp = _ from if_pos hz3]), show ((wt_gr ph pa ch sz nd pp).2.2.1) = (va_up ch (nd * 4 + pp) (sz + 1)) from (by rw [show wt_gr ph pa ch sz nd pp = _ from if_pos hz3]), show ((wt_gr ph pa ch sz nd pp).2.2.2.1) = (sz + 1) from (by rw [show wt_gr ph pa ch sz nd pp = _ from if_pos hz3])]; exact hP
      have hD9 : va_D A (wX cI cZ cL q ((wt_gr ph pa ch sz nd pp).1) ((wt_gr ph pa ch sz nd pp).2.1) ((wt_gr ph pa ch sz nd pp).2.2.1) en ((wt_gr ph pa ch sz nd pp).2.2.2.1) pr gc gb sc sh sl ct tok wt pn lt wp sd) := by rw [show ((wt_gr ph pa ch sz nd pp).1) = (va_up ph (sz + 1) pp) from (by rw [show wt_gr ph pa ch sz nd pp = _ from if_pos hz3]), show ((wt_gr ph pa ch sz nd pp).2.1) = (va_up pa (sz + 1) nd) from (by rw [show wt_gr ph pa ch sz nd pp = _ from if_pos hz3]), show ((wt_gr ph pa ch sz nd pp).2.2.1) = (va_up ch (nd * 4 + pp) (sz + 1)) from (by rw [show wt_gr ph pa ch sz nd pp = _ from if_pos hz3]), show ((wt_gr ph pa ch sz nd pp).2.2.2.1) = (sz + 1) from (by rw [show wt_gr ph pa ch sz nd pp = _ from if_pos hz3])]; exact hD
      exact W.iret (v := nI (sz + 1)) hx hb hr (fun t ht hW => ⟨⟨_, (), rfl, (by rw [show wt_gr ph pa ch sz nd pp = _ from if_pos hz3]), by rw [ht]; exact hP9, hD9⟩, hS.F ht⟩) hS.2.2 dT_grow_62
    · exact absurd rfl c_1
  · skip
    refine wt_roi (va_runV (As := [.int (nI nd), .int (nI pp)]) (rest := []) ⟨hx, hb, hml, hown, ht⟩ (c_T_childOf_1 l dC dI cI cZ cL q ph pa ch en sz pr gc gb sc sh sl ct tok wt pn lt wp sd nd pp hnd hpp hch hz3) (cwV 2 ht (good_V m_150 m_152 ms_0 m_2 m_153) rfl rfl rfl (by decide +kernel) ⟨Nat.le_of_ble_eq_true rfl, Nat.le_of_ble_eq_true rfl⟩) (wt_preV hK hN hP (va_recv hK hP (ci := 1) (q0 := 1) rfl rfl)) rfl rfl hl.1 rfl (lv_room (Nat.le_of_ble_eq_true rfl)) dT_grow_3 ⟨Nat.le_of_ble_eq_true rfl, Nat.le_of_ble_eq_true rfl⟩) ?_
    refine lv_istore_n (lv' := [(3, .int (nI (ch (nd * 4 + pp)))), (0, .ref (q 1)), (1, .int (nI nd)), (2, .int (nI pp))]) hx hb dT_grow_6 rfl hl (by decide) rfl (fun ls hl => ?_)
    refine lv_iload_n hx hb dT_grow_7 rfl (lv_at hl 0 rfl) ?_
    refine lv_iconst (v := (-1)) hx hb dT_grow_8 (by decide) ?_
    refine lv_icmp_eq (tgt := 14) hx hb dT_grow_9 (by decide) (fun c_2 => ?_) (fun c_2 => ?_)
    · exact absurd c_2 (wt_nI_nem1 (by first | omega | (have := hch (nd * 4 + pp); omega)))
    · skip
      refine lv_iload_n hx hb dT_grow_12 rfl (lv_at hl 0 rfl) ?_
      have hP9 : va_P (dC, dI) vwCl (wX cI cZ cL q ((wt_gr ph pa ch sz nd pp).1) ((wt_gr ph pa ch sz nd pp).2.1) ((wt_gr ph pa ch sz nd pp).2.2.1) en ((wt_gr ph pa ch sz nd pp).2.2.2.1) pr gc gb sc sh sl ct tok wt pn lt wp sd) s.heap := by rw [show ((wt_gr ph pa ch sz nd pp).1) = ph from (by rw [show wt_gr ph pa ch sz nd pp = _ from if_neg (Nat.ne_of_gt hz3)]), show ((wt_gr ph pa ch sz nd pp).2.1) = pa from (by rw [show wt_gr ph pa ch sz nd pp = _ from if_neg (Nat.ne_of_gt hz3)]), show ((wt_gr ph pa ch sz nd pp).2.2.1) = ch from (by rw [show wt_gr ph pa ch sz nd pp = _ from if_neg (Nat.ne_of_gt hz3)]), show ((wt_gr ph pa ch sz nd pp).2.2.2.1) = sz from (by rw [show wt_gr ph pa ch sz nd pp = _ from if_neg (Nat.ne_of_gt hz3)])]; exact hP
      have hD9 : va_D A (wX cI cZ cL q ((wt_gr ph pa ch sz nd pp).1) ((wt_gr ph pa ch sz nd pp).2.1) ((wt_gr ph pa ch sz nd pp).2.2.1) en ((wt_gr ph pa ch sz nd pp).2.2.2.1) pr gc gb sc sh sl ct tok wt pn lt wp sd) := by rw [show ((wt_gr ph pa ch sz nd pp).1) = ph from (by rw [show wt_gr ph pa ch sz nd pp = _ from if_neg (Nat.ne_of_gt hz3)]), show ((wt_gr ph pa ch sz nd pp).2.1) = pa from (by rw [show wt_gr ph pa ch sz nd pp = _ from if_neg (Nat.ne_of_gt hz3)]), show ((wt_gr ph pa ch sz nd pp).2.2.1) = ch from (by rw [show wt_gr ph pa ch sz nd pp = _ from if_neg (Nat.ne_of_gt hz3)]), show ((wt_gr ph pa ch sz nd pp).2.2.2.1) = sz from (by rw [show wt_gr ph pa ch sz nd pp = _ from if_neg (Nat.ne_of_gt hz3)])]; exact hD
      exact W.iret (v := nI (ch (nd * 4 + pp))) hx hb hr (fun t ht hW => ⟨⟨_, (), rfl, (by rw [show wt_gr ph pa ch sz nd pp = _ from if_neg (Nat.ne_of_gt hz3)]), by rw [ht]; exact hP9, hD9⟩, hS.F ht⟩) hS.2.2 dT_grow_13

set_option maxHeartbeats 4000000 in
set_option maxRecDepth 100000 in
theorem c_T_add_1 (l : Launch) (dC : Nat → ClassId) (dI : Nat → Nat → Nat) (cI cZ cL : ClassId) (q : Nat → Nat) (sz0 : Nat) (ph : Nat → Nat) (pa : Nat → Nat) (ch : Nat → Nat) (en : Nat → Bool) (sz : Nat) (pr : Nat) (gc : Nat → Int32) (gb : Nat → Int32) (sc : Nat → Int32) (sh : Nat → Int32) (sl : Nat → Int32) (ct : Nat) (tok : Nat → Int64) (wt : Nat → Int64) (pn : Nat → Nat) (lt : Nat → Int64) (wp : Int64) (sd : Bool) (ww : Nat) (pp : Nat) (hww : ww < 4) (hpp : pp < 4) (hch : ∀ j, ch j ≤ 24) (hsz : sz + 3 ≤ 24) (hpr : pr ≤ 7) : Met l yT_add (Cond.code yT_add cT_add 6 none :: tb) ({ frames := 2, cells := 0, slots := 0, locals := 46 }) (va_Pc [.ref (q 1), .int (nI ww), .int (nI pp), .int (-1), .int (-1)] (wt_rw (dC, dI) vwCl [(cI, .int), (cZ, .boolean), (cL, .long)] (wX cI cZ cL q ph pa ch en sz pr gc gb sc sh sl ct tok wt pn lt wp sd) sz0)) (va_Qv (fun _ : Unit => True) (wt_B (dC, dI) vwCl (va_A (wX cI cZ cL q ph pa ch en sz pr gc gb sc sh sl ct tok wt pn lt wp sd) sz0) (wX cI cZ cL q ((wt_gr ph pa ch sz 0 pp).1) ((wt_gr ph pa ch sz 0 pp).2.1) ((wt_gr ph pa ch sz 0 pp).2.2.1) (va_up en ((wt_gr ph pa ch sz 0 pp).2.2.2.2 * 4 + ww) true) ((wt_gr ph pa ch sz 0 pp).2.2.2.1) (pr + 1) gc gb sc sh sl ct tok wt pn lt wp sd)) (va_A (wX cI cZ cL q ph pa ch en sz pr gc gb sc sh sl ct tok wt pn lt wp sd) sz0)) 0 0 (va_A (wX cI cZ cL q ph pa ch en sz pr gc gb sc sh sl ct tok wt pn lt wp sd) sz0) := by
  refine Met.ofW (cc := cT_add) (maxL := 6) (ret := none) (by decide) rfl ?_
  intro p e s m args below meth c s₁ B hml hv
  obtain ⟨rfl, hsz, hP, hK, hN, hD0⟩ := hv
  have hx := B.exec
  have hb := B.bytes
  have hr := B.returns
  have hts := atoms_spec (ws := (Cond.code yT_add cT_add 6 none :: tb)) B.pre
  have ht : ∀ w ∈ tb, w.before _ s = true := fun w h => hts w (List.mem_cons_of_mem _ h)
  have hown : s.vm.findClass RT = some m.cls := findClass_of_methodNamed B.named
  have hlocks := B.notSynchronized
  subst hsz
  have hD := hD0.self (sz := s.heap.size)
  generalize hAe : va_A (wX cI cZ cL q ph pa ch en sz pr gc gb sc sh sl ct tok wt pn lt wp sd) s.heap.size = A at hD ⊢
  have hA : ∀ q : Nat, s.heap.size ≤ q → A q := fun q h => by rw [← hAe]; exact Or.inr h
  clear hAe hD0
  have hS : va_S A s.heap s.heap [] := va_S.rf
  have hl := lv_entry ([.ref (q 1), .int (nI ww), .int (nI pp), .int (-1), .int (-1)]) (n := 6) (Nat.le_of_ble_eq_true rfl)
  rw [lg_entry_eq]
  generalize (lg_sl ([.ref (q 1), .int (nI ww), .int (nI pp), .int (-1), .int (-1)]) ++ List.replicate (6 - (lg_sl ([.ref (q 1), .int (nI ww), .int (nI pp), .int (-1), .int (-1)])).length) Slot.unset).toArray = ls at hl ⊢
  have hl : lv_has ls 6 [(0, .ref (q 1)), (1, .int (nI ww)), (2, .int (nI pp)), (3, .int (-1)), (4, .int (-1))] := hl
  have g1 := gr_b (ph := ph) (pa := pa) (ch := ch) (sz := sz) (n := 0) (p := pp) hch (by omega)
  refine lv_aload_n hx hb dT_add_0 rfl (lv_at hl 0 rfl) ?_
  refine lv_iconst (v := nI 0) hx hb dT_add_1 (by decide) ?_
  refine lv_iload_n hx hb dT_add_2 rfl (lv_at hl 2 rfl) ?_
  refine wt_rwi (va_runV (As := [.int (nI 0), .int (nI pp)]) (rest := []) ⟨hx, hb, hml, hown, ht⟩ (c_T_grow l dC dI cI cZ cL q s.heap.size ph pa ch en sz pr gc gb sc sh sl ct tok wt pn lt wp sd 0 pp (by decide) hpp hch (by omega)) (cwV 2 ht (good_V m_162 m_164 ms_1 m_2 m_165) rfl rfl rfl (by decide +kernel) ⟨Nat.le_of_ble_eq_true rfl, Nat.le_of_ble_eq_true rfl⟩) (wt_preVw hK hN hP hD (va_recv hK hP (ci := 1) (q0 := 1) rfl rfl)) rfl rfl hl.1 rfl (lv_room (Nat.le_of_ble_eq_true rfl)) dT_add_3 ⟨Nat.le_of_ble_eq_true rfl, Nat.le_of_ble_eq_true rfl⟩) hD hS hA (fun H locs hP hD hS => ?_)
  have hP : va_P (dC, dI) vwCl (wX cI cZ cL q ((wt_gr ph pa ch sz 0 pp).1) ((wt_gr ph pa ch sz 0 pp).2.1) ((wt_gr ph pa ch sz 0 pp).2.2.1) en ((wt_gr ph pa ch sz 0 pp).2.2.2.1) pr gc gb sc sh sl ct tok wt pn lt wp sd) H := hP
  have hD : va_D A (wX cI cZ cL q ((wt_gr ph pa ch sz 0 pp).1) ((wt_gr ph pa ch sz 0 pp).2.1) ((wt_gr ph pa ch sz 0 pp).2.2.1) en ((wt_gr ph pa ch sz 0 pp).2.2.2.1) pr gc gb sc sh sl ct tok wt pn lt wp sd) := hD
  refine lv_istore (lv' := [(5, .int (nI ((wt_gr ph pa ch sz 0 pp).2.2.2.2))), (0, .ref (q 1)), (1, .int (nI ww)), (2, .int (nI pp)), (3, .int (-1)), (4, .int (-1))]) hx hb dT_add_6 hl (by decide) rfl (fun ls hl => ?_)
  refine lv_iload_n hx hb dT_add_8 rfl (lv_at hl 4 rfl) ?_
  refine lv_iconst (v := (-1)) hx hb dT_add_9 (by decide) ?_
  refine lv_icmp_eq (tgt := 22) hx hb dT_add_10 (by decide) (fun c_1 => ?_) (fun c_1 => ?_)
  · skip
    refine lv_iload hx hb dT_add_22 (lv_at hl 5 rfl) ?_
    refine lv_iconst (v := (-1)) hx hb dT_add_24 (by decide) ?_
    refine lv_icmp_eq (tgt := 38) hx hb dT_add_25 (by decide) (fun c_2 => ?_) (fun c_2 => ?_)
    · skip
      refine lv_aload_n hx hb dT_add_38 rfl (lv_at hl 1 rfl) ?_
      refine va_get (D := (dC, dI)) (ci := 1) (v := .ref (q 5)) (C := RT) (T := TT) (N := 6) hx hb ht inT hown hK hP 1 rfl rfl 3 (by decide) (ht _ m_27) (fun _ h9 => h9) rfl dT_add_39 ?_
      refine lv_iload hx hb dT_add_42 (lv_at hl 0 rfl) ?_
      refine lv_iconst (v := nI 4) hx hb dT_add_44 (by decide) ?_
      refine wt_imul hx hb dT_add_45 ?_
      refine lv_iload_n hx hb dT_add_46 rfl (lv_at hl 2 rfl) ?_
      refine wt_iadd hx hb dT_add_47 ?_
      refine lv_iconst (v := nI 1) hx hb dT_add_48 (by decide) ?_
      rw [show (.int (nI 1) : Value) = .int (wt_bI true) from rfl]
      refine wt_zast hx hb hK hP hD hS 5 1 rfl rfl (k := ((wt_gr ph pa ch sz 0 pp).2.2.2.2) * 4 + ww) (by omega) (by decide) dT_add_49 (fun H locs hP hD hS => ?_)
      have hP : va_P (dC, dI) vwCl (wX cI cZ cL q ((wt_gr ph pa ch sz 0 pp).1) ((wt_gr ph pa ch sz 0 pp).2.1) ((wt_gr ph pa ch sz 0 pp).2.2.1) (va_up en (((wt_gr ph pa ch sz 0 pp).2.2.2.2) * 4 + ww) true) ((wt_gr ph pa ch sz 0 pp).2.2.2.1) pr gc gb sc sh sl ct tok wt pn lt wp sd) H := hP
      have hD : va_D A (wX cI cZ cL q ((wt_gr ph pa ch sz 0 pp).1) ((wt_gr ph pa ch sz 0 pp).2.1) ((wt_gr ph pa ch sz 0 pp).2.2.1) (va_up en (((wt_gr ph pa ch sz 0 pp).2.2.2.2) * 4 + ww) true) ((wt_gr ph pa ch sz 0 pp).2.2.2.1) pr gc gb sc sh sl ct tok wt pn lt wp sd) := hD
      refine lv_aload_n hx hb dT_add_50 rfl (lv_at hl 1 rfl) ?_
      refine lv_dup hx hb dT_add_51 rfl ?_
      refine va_get (D := (dC, dI)) (ci := 1) (v := .int (nI pr)) (C := RT) (T := TT) (N := 6) hx hb ht inT hown hK hP 1 rfl rfl 5 (by decide) (ht _ m_29) (fun _ h9 => h9) rfl dT_add_52 ?_
      refine lv_iconst (v := nI 1) hx hb dT_add_55 (by decide) ?_
      refine wt_iadd hx hb dT_add_56 ?_
      refine va_put (D := (dC, dI)) (ci := 1) (v := .int (nI (pr + 1))) (ty := .int) (C := RT) (T := TT) (N := 6) hx hb ht inT tyT tyT_ok nmT hown hK hP hD hS 1 rfl rfl 5 (by decide) (ht _ m_29) (fun _ h9 => h9) rfl (by decide +kernel) rfl rfl (Nat.le_of_ble_eq_true rfl) dT_add_57 (fun H locs hP hD hS => ?_)
      have hP : va_P (dC, dI) vwCl (wX cI cZ cL q ((wt_gr ph pa ch sz 0 pp).1) ((wt_gr ph pa ch sz 0 pp).2.1) ((wt_gr ph pa ch sz 0 pp).2.2.1) (va_up en (((wt_gr ph pa ch sz 0 pp).2.2.2.2) * 4 + ww) true) ((wt_gr ph pa ch sz 0 pp).2.2.2.1) (pr + 1) gc gb sc sh sl ct tok wt pn lt wp sd) H := hP
      have hD : va_D A (wX cI cZ cL q ((wt_gr ph pa ch sz 0 pp).1) ((wt_gr ph pa ch sz 0 pp).2.1) ((wt_gr ph pa ch sz 0 pp).2.2.1) (va_up en (((wt_gr ph pa ch sz 0 pp).2.2.2.2) * 4 + ww) true) ((wt_gr ph pa ch sz 0 pp).2.2.2.1) (pr + 1) gc gb sc sh sl ct tok wt pn lt wp sd) := hD
      have hP9 : va_P (dC, dI) vwCl (wX cI cZ cL q ((wt_gr ph pa ch sz 0 pp).1) ((wt_gr ph pa ch sz 0 pp).2.1) ((wt_gr ph pa ch sz 0 pp).2.2.1) (va_up en ((wt_gr ph pa ch sz 0 pp).2.2.2.2 * 4 + ww) true) ((wt_gr ph pa ch sz 0 pp).2.2.2.1) (pr + 1) gc gb sc sh sl ct tok wt pn lt wp sd) H := by exact hP
      have hD9 : va_D A (wX cI cZ cL q ((wt_gr ph pa ch sz 0 pp).1) ((wt_gr ph pa ch sz 0 pp).2.1) ((wt_gr ph pa ch sz 0 pp).2.2.1) (va_up en ((wt_gr ph pa ch sz 0 pp).2.2.2.2 * 4 + ww) true) ((wt_gr ph pa ch sz 0 pp).2.2.2.1) (pr + 1) gc gb sc sh sl ct tok wt pn lt wp sd) := by exact hD
      exact W.vret hx hb hr (fun t ht hW => ⟨⟨(), rfl, trivial, by rw [ht]; exact hP9, hD9⟩, hS.F ht⟩) hS.2.2 dT_add_60
    · exact absurd rfl c_2
  · exact absurd rfl c_1

set_option maxHeartbeats 4000000 in
set_option maxRecDepth 100000 in
theorem c_T_add_2 (l : Launch) (dC : Nat → ClassId) (dI : Nat → Nat → Nat) (cI cZ cL : ClassId) (q : Nat → Nat) (sz0 : Nat) (ph : Nat → Nat) (pa : Nat → Nat) (ch : Nat → Nat) (en : Nat → Bool) (sz : Nat) (pr : Nat) (gc : Nat → Int32) (gb : Nat → Int32) (sc : Nat → Int32) (sh : Nat → Int32) (sl : Nat → Int32) (ct : Nat) (tok : Nat → Int64) (wt : Nat → Int64) (pn : Nat → Nat) (lt : Nat → Int64) (wp : Int64) (sd : Bool) (ww : Nat) (pp : Nat) (qq : Nat) (hww : ww < 4) (hpp : pp < 4) (hqq : qq < 4) (hch : ∀ j, ch j ≤ 24) (hsz : sz + 3 ≤ 24) (hpr : pr ≤ 7) : Met l yT_add (Cond.code yT_add cT_add 6 none :: tb) ({ frames := 2, cells := 0, slots := 0, locals := 46 }) (va_Pc [.ref (q 1), .int (nI ww), .int (nI pp), .int (nI qq), .int (-1)] (wt_rw (dC, dI) vwCl [(cI, .int), (cZ, .boolean), (cL, .long)] (wX cI cZ cL q ph pa ch en sz pr gc gb sc sh sl ct tok wt pn lt wp sd) sz0)) (va_Qv (fun _ : Unit => True) (wt_B (dC, dI) vwCl (va_A (wX cI cZ cL q ph pa ch en sz pr gc gb sc sh sl ct tok wt pn lt wp sd) sz0) (wX cI cZ cL q ((wt_gr (wt_gr ph pa ch sz 0 pp).1 (wt_gr ph pa ch sz 0 pp).2.1 (wt_gr ph pa ch sz 0 pp).2.2.1 (wt_gr ph pa ch sz 0 pp).2.2.2.1 (wt_gr ph pa ch sz 0 pp).2.2.2.2 qq).1) ((wt_gr (wt_gr ph pa ch sz 0 pp).1 (wt_gr ph pa ch sz 0 pp).2.1 (wt_gr ph pa ch sz 0 pp).2.2.1 (wt_gr ph pa ch sz 0 pp).2.2.2.1 (wt_gr ph pa ch sz 0 pp).2.2.2.2 qq).2.1) ((wt_gr (wt_gr ph pa ch sz 0 pp).1 (wt_gr ph pa ch sz 0 pp).2.1 (wt_gr ph pa ch sz 0 pp).2.2.1 (wt_gr ph pa ch sz 0 pp).2.2.2.1 (wt_gr ph pa ch sz 0 pp).2.2.2.2 qq).2.2.1) (va_up en ((wt_gr (wt_gr ph pa ch sz 0 pp).1 (wt_gr ph pa ch sz 0 pp).2.1 (wt_gr ph pa ch sz 0 pp).2.2.1 (wt_gr ph pa ch sz 0 pp).2.2.2.1 (wt_gr ph pa ch sz 0 pp).2.2.2.2 qq).2.2.2.2 * 4 + ww) true) ((wt_gr (wt_gr ph pa ch sz 0 pp).1 (wt_gr ph pa ch sz 0 pp).2.1 (wt_gr ph pa ch sz 0 pp).2.2.1 (wt_gr ph pa ch sz 0 pp).2.2.2.1 (wt_gr ph pa ch sz 0 pp).2.2.2.2 qq).2.2.2.1) (pr + 1) gc gb sc sh sl ct tok wt pn lt wp sd)) (va_A (wX cI cZ cL q ph pa ch en sz pr gc gb sc sh sl ct tok wt pn lt wp sd) sz0)) 0 0 (va_A (wX cI cZ cL q ph pa ch en sz pr gc gb sc sh sl ct tok wt pn lt wp sd) sz0) := by
  refine Met.ofW (cc := cT_add) (maxL := 6) (ret := none) (by decide) rfl ?_
  intro p e s m args below meth c s₁ B hml hv
  obtain ⟨rfl, hsz, hP, hK, hN, hD0⟩ := hv
  have hx := B.exec
  have hb := B.bytes
  have hr := B.returns
  have hts := atoms_spec (ws := (Cond.code yT_add cT_add 6 none :: tb)) B.pre
  have ht : ∀ w ∈ tb, w.before _ s = true := fun w h => hts w (List.mem_cons_of_mem _ h)
  have hown : s.vm.findClass RT = some m.cls := findClass_of_methodNamed B.named
  have hlocks := B.notSynchronized
  subst hsz
  have hD := hD0.self (sz := s.heap.size)
  generalize hAe : va_A (wX cI cZ cL q ph pa ch en sz pr gc gb sc sh sl ct tok wt pn lt wp sd) s.heap.size = A at hD ⊢
  have hA : ∀ q : Nat, s.heap.size ≤ q → A q := fun q h => by rw [← hAe]; exact Or.inr h
  clear hAe hD0
  have hS : va_S A s.heap s.heap [] := va_S.rf
  have hl := lv_entry ([.ref (q 1), .int (nI ww), .int (nI pp), .int (nI qq), .int (-1)]) (n := 6) (Nat.le_of_ble_eq_true rfl)
  rw [lg_entry_eq]
  generalize (lg_sl ([.ref (q 1), .int (nI ww), .int (nI pp), .int (nI qq), .int (-1)]) ++ List.replicate (6 - (lg_sl ([.ref (q 1), .int (nI ww), .int (nI pp), .int (nI qq), .int (-1)])).length) Slot.unset).toArray = ls at hl ⊢
  have hl : lv_has ls 6 [(0, .ref (q 1)), (1, .int (nI ww)), (2, .int (nI pp)), (3, .int (nI qq)), (4, .int (-1))] := hl
  have g1 := gr_b (ph := ph) (pa := pa) (ch := ch) (sz := sz) (n := 0) (p := pp) hch (by omega)
  have g2 := gr_b (ph := (wt_gr ph pa ch sz 0 pp).1) (pa := (wt_gr ph pa ch sz 0 pp).2.1) (ch := (wt_gr ph pa ch sz 0 pp).2.2.1) (sz := (wt_gr ph pa ch sz 0 pp).2.2.2.1) (n := (wt_gr ph pa ch sz 0 pp).2.2.2.2) (p := qq) g1.1 (by omega)
  refine lv_aload_n hx hb dT_add_0 rfl (lv_at hl 0 rfl) ?_
  refine lv_iconst (v := nI 0) hx hb dT_add_1 (by decide) ?_
  refine lv_iload_n hx hb dT_add_2 rfl (lv_at hl 2 rfl) ?_
  refine wt_rwi (va_runV (As := [.int (nI 0), .int (nI pp)]) (rest := []) ⟨hx, hb, hml, hown, ht⟩ (c_T_grow l dC dI cI cZ cL q s.heap.size ph pa ch en sz pr gc gb sc sh sl ct tok wt pn lt wp sd 0 pp (by decide) hpp hch (by omega)) (cwV 2 ht (good_V m_162 m_164 ms_1 m_2 m_165) rfl rfl rfl (by decide +kernel) ⟨Nat.le_of_ble_eq_true rfl, Nat.le_of_ble_eq_true rfl⟩) (wt_preVw hK hN hP hD (va_recv hK hP (ci := 1) (q0 := 1) rfl rfl)) rfl rfl hl.1 rfl (lv_room (Nat.le_of_ble_eq_true rfl)) dT_add_3 ⟨Nat.le_of_ble_eq_true rfl, Nat.le_of_ble_eq_true rfl⟩) hD hS hA (fun H locs hP hD hS => ?_)
  have hP : va_P (dC, dI) vwCl (wX cI cZ cL q ((wt_gr ph pa ch sz 0 pp).1) ((wt_gr ph pa ch sz 0 pp).2.1) ((wt_gr ph pa ch sz 0 pp).2.2.1) en ((wt_gr ph pa ch sz 0 pp).2.2.2.1) pr gc gb sc sh sl ct tok wt pn lt wp sd) H := hP
  have hD : va_D A (wX cI cZ cL q ((wt_gr ph pa ch sz 0 pp).1) ((wt_gr ph pa ch sz 0 pp).2.1) ((wt_gr ph pa ch sz 0 pp).2.2.1) en ((wt_gr ph pa ch sz 0 pp).2.2.2.1) pr gc gb sc sh sl ct tok wt pn lt wp sd) := hD
  refine lv_istore (lv' := [(5, .int (nI ((wt_gr ph pa ch sz 0 pp).2.2.2.2))), (0, .ref (q 1)), (1, .int (nI ww)), (2, .int (nI pp)), (3, .int (nI qq)), (4, .int (-1))]) hx hb dT_add_6 hl (by decide) rfl (fun ls hl => ?_)
  refine lv_iload_n hx hb dT_add_8 rfl (lv_at hl 4 rfl) ?_
  refine lv_iconst (v := (-1)) hx hb dT_add_9 (by decide) ?_
  refine lv_icmp_eq (tgt := 22) hx hb dT_add_10 (by decide) (fun c_1 => ?_) (fun c_1 => ?_)
  · exact absurd c_1 (wt_nI_nem1 (by omega))
  · skip
    refine lv_aload_n hx hb dT_add_13 rfl (lv_at hl 1 rfl) ?_
    refine lv_iload hx hb dT_add_14 (lv_at hl 0 rfl) ?_
    refine lv_iload_n hx hb dT_add_16 rfl (lv_at hl 4 rfl) ?_
    refine wt_rwi (va_runV (As := [.int (nI ((wt_gr ph pa ch sz 0 pp).2.2.2.2)), .int (nI qq)]) (rest := []) ⟨hx, hb, hml, hown, ht⟩ (c_T_grow l dC dI cI cZ cL q H.size ((wt_gr ph pa ch sz 0 pp).1) ((wt_gr ph pa ch sz 0 pp).2.1) ((wt_gr ph pa ch sz 0 pp).2.2.1) en ((wt_gr ph pa ch sz 0 pp).2.2.2.1) pr gc gb sc sh sl ct tok wt pn lt wp sd ((wt_gr ph pa ch sz 0 pp).2.2.2.2) qq (by omega) hqq g1.1 (by omega)) (cwV 2 ht (good_V m_162 m_164 ms_1 m_2 m_165) rfl rfl rfl (by decide +kernel) ⟨Nat.le_of_ble_eq_true rfl, Nat.le_of_ble_eq_true rfl⟩) (wt_preVw hK hN hP hD (va_recv hK hP (ci := 1) (q0 := 1) rfl rfl)) rfl rfl hl.1 rfl (lv_room (Nat.le_of_ble_eq_true rfl)) dT_add_17 ⟨Nat.le_of_ble_eq_true rfl, Nat.le_of_ble_eq_true rfl⟩) hD hS hA (fun H locs hP hD hS => ?_)
    have hP : va_P (dC, dI) vwCl (wX cI cZ cL q ((wt_gr ((wt_gr ph pa ch sz 0 pp).1) ((wt_gr ph pa ch sz 0 pp).2.1) ((wt_gr ph pa ch sz 0 pp).2.2.1) ((wt_gr ph pa ch sz 0 pp).2.2.2.1) ((wt_gr ph pa ch sz 0 pp).2.2.2.2) qq).1) ((wt_gr ((wt_gr ph pa ch sz 0 pp).1) ((wt_gr ph pa ch sz 0 pp).2.1) ((wt_gr ph pa ch sz 0 pp).2.2.1) ((wt_gr ph pa ch sz 0 pp).2.2.2.1) ((wt_gr ph pa ch sz 0 pp).2.2.2.2) qq).2.1) ((wt_gr ((wt_gr ph pa ch sz 0 pp).1) ((wt_gr ph pa ch sz 0 pp).2.1) ((wt_gr ph pa ch sz 0 pp).2.2.1) ((wt_gr ph pa ch sz 0 pp).2.2.2.1) ((wt_gr ph pa ch sz 0 pp).2.2.2.2) qq).2.2.1) en ((wt_gr ((wt_gr ph pa ch sz 0 pp).1) ((wt_gr ph pa ch sz 0 pp).2.1) ((wt_gr ph pa ch sz 0 pp).2.2.1) ((wt_gr ph pa ch sz 0 pp).2.2.2.1) ((wt_gr ph pa ch sz 0 pp).2.2.2.2) qq).2.2.2.1) pr gc gb sc sh sl ct tok wt pn lt wp sd) H := hP
    have hD : va_D A (wX cI cZ cL q ((wt_gr ((wt_gr ph pa ch sz 0 pp).1) ((wt_gr ph pa ch sz 0 pp).2.1) ((wt_gr ph pa ch sz 0 pp).2.2.1) ((wt_gr ph pa ch sz 0 pp).2.2.2.1) ((wt_gr ph pa ch sz 0 pp).2.2.2.2) qq).1) ((wt_gr ((wt_gr ph pa ch sz 0 pp).1) ((wt_gr ph pa ch sz 0 pp).2.1) ((wt_gr ph pa ch sz 0 pp).2.2.1) ((wt_gr ph pa ch sz 0 pp).2.2.2.1) ((wt_gr ph pa ch sz 0 pp).2.2.2.2) qq).2.1) ((wt_gr ((wt_gr ph pa ch sz 0 pp).1) ((wt_gr ph pa ch sz 0 pp).2.1) ((wt_gr ph pa ch sz 0 pp).2.2.1) ((wt_gr ph pa ch sz 0 pp).2.2.2.1) ((wt_gr ph pa ch sz 0 pp).2.2.2.2) qq).2.2.1) en ((wt_gr ((wt_gr ph pa ch sz 0 pp).1) ((wt_gr ph pa ch sz 0 pp).2.1) ((wt_gr ph pa ch sz 0 pp).2.2.1) ((wt_gr ph pa ch sz 0 pp).2.2.2.1) ((wt_gr ph pa ch sz 0 pp).2.2.2.2) qq).2.2.2.1) pr gc gb sc sh sl ct tok wt pn lt wp sd) := hD
    refine lv_istore (lv' := [(5, .int (nI ((wt_gr ((wt_gr ph pa ch sz 0 pp).1) ((wt_gr ph pa ch sz 0 pp).2.1) ((wt_gr ph pa ch sz 0 pp).2.2.1) ((wt_gr ph pa ch sz 0 pp).2.2.2.1) ((wt_gr ph pa ch sz 0 pp).2.2.2.2) qq).2.2.2.2))), (0, .ref (q 1)), (1, .int (nI ww)), (2, .int (nI pp)), (3, .int (nI qq)), (4, .int (-1))]) hx hb dT_add_20 hl (by decide) rfl (fun ls hl => ?_)
    refine lv_iload hx hb dT_add_22 (lv_at hl 5 rfl) ?_
    refine lv_iconst (v := (-1)) hx hb dT_add_24 (by decide) ?_
    refine lv_icmp_eq (tgt := 38) hx hb dT_add_25 (by decide) (fun c_2 => ?_) (fun c_2 => ?_)
    · skip
      refine lv_aload_n hx hb dT_add_38 rfl (lv_at hl 1 rfl) ?_
      refine va_get (D := (dC, dI)) (ci := 1) (v := .ref (q 5)) (C := RT) (T := TT) (N := 6) hx hb ht inT hown hK hP 1 rfl rfl 3 (by decide) (ht _ m_27) (fun _ h9 => h9) rfl dT_add_39 ?_
      refine lv_iload hx hb dT_add_42 (lv_at hl 0 rfl) ?_
      refine lv_iconst (v := nI 4) hx hb dT_add_44 (by decide) ?_
      refine wt_imul hx hb dT_add_45 ?_
      refine lv_iload_n hx hb dT_add_46 rfl (lv_at hl 2 rfl) ?_
      refine wt_iadd hx hb dT_add_47 ?_
      refine lv_iconst (v := nI 1) hx hb dT_add_48 (by decide) ?_
      rw [show (.int (nI 1) : Value) = .int (wt_bI true) from rfl]
      refine wt_zast hx hb hK hP hD hS 5 1 rfl rfl (k := ((wt_gr ((wt_gr ph pa ch sz 0 pp).1) ((wt_gr ph pa ch sz 0 pp).2.1) ((wt_gr ph pa ch sz 0 pp).2.2.1) ((wt_gr ph pa ch sz 0 pp).2.2.2.1) ((wt_gr ph pa ch sz 0 pp).2.2.2.2) qq).2.2.2.2) * 4 + ww) (by omega) (by decide) dT_add_49 (fun H locs hP hD hS => ?_)
      have hP : va_P (dC, dI) vwCl (wX cI cZ cL q ((wt_gr ((wt_gr ph pa ch sz 0 pp).1) ((wt_gr ph pa ch sz 0 pp).2.1) ((wt_gr ph pa ch sz 0 pp).2.2.1) ((wt_gr ph pa ch sz 0 pp).2.2.2.1) ((wt_gr ph pa ch sz 0 pp).2.2.2.2) qq).1) ((wt_gr ((wt_gr ph pa ch sz 0 pp).1) ((wt_gr ph pa ch sz 0 pp).2.1) ((wt_gr ph pa ch sz 0 pp).2.2.1) ((wt_gr ph pa ch sz 0 pp).2.2.2.1) ((wt_gr ph pa ch sz 0 pp).2.2.2.2) qq).2.1) ((wt_gr ((wt_gr ph pa ch sz 0 pp).1) ((wt_gr ph pa ch sz 0 pp).2.1) ((wt_gr ph pa ch sz 0 pp).2.2.1) ((wt_gr ph pa ch sz 0 pp).2.2.2.1) ((wt_gr ph pa ch sz 0 pp).2.2.2.2) qq).2.2.1) (va_up en (((wt_gr ((wt_gr ph pa ch sz 0 pp).1) ((wt_gr ph pa ch sz 0 pp).2.1) ((wt_gr ph pa ch sz 0 pp).2.2.1) ((wt_gr ph pa ch sz 0 pp).2.2.2.1) ((wt_gr ph pa ch sz 0 pp).2.2.2.2) qq).2.2.2.2) * 4 + ww) true) ((wt_gr ((wt_gr ph pa ch sz 0 pp).1) ((wt_gr ph pa ch sz 0 pp).2.1) ((wt_gr ph pa ch sz 0 pp).2.2.1) ((wt_gr ph pa ch sz 0 pp).2.2.2.1) ((wt_gr ph pa ch sz 0 pp).2.2.2.2) qq).2.2.2.1) pr gc gb sc sh sl ct tok wt pn lt wp sd) H := hP
      have hD : va_D A (wX cI cZ cL q ((wt_gr ((wt_gr ph pa ch sz 0 pp).1) ((wt_gr ph pa ch sz 0 pp).2.1) ((wt_gr ph pa ch sz 0 pp).2.2.1) ((wt_gr ph pa ch sz 0 pp).2.2.2.1) ((wt_gr ph pa ch sz 0 pp).2.2.2.2) qq).1) ((wt_gr ((wt_gr ph pa ch sz 0 pp).1) ((wt_gr ph pa ch sz 0 pp).2.1) ((wt_gr ph pa ch sz 0 pp).2.2.1) ((wt_gr ph pa ch sz 0 pp).2.2.2.1) ((wt_gr ph pa ch sz 0 pp).2.2.2.2) qq).2.1) ((wt_gr ((wt_gr ph pa ch sz 0 pp).1) ((wt_gr ph pa ch sz 0 pp).2.1) ((wt_gr ph pa ch sz 0 pp).2.2.1) ((wt_gr ph pa ch sz 0 pp).2.2.2.1) ((wt_gr ph pa ch sz 0 pp).2.2.2.2) qq).2.2.1) (va_up en (((wt_gr ((wt_gr ph pa ch sz 0 pp).1) ((wt_gr ph pa ch sz 0 pp).2.1) ((wt_gr ph pa ch sz 0 pp).2.2.1) ((wt_gr ph pa ch sz 0 pp).2.2.2.1) ((wt_gr ph pa ch sz 0 pp).2.2.2.2) qq).2.2.2.2) * 4 + ww) true) ((wt_gr ((wt_gr ph pa ch sz 0 pp).1) ((wt_gr ph pa ch sz 0 pp).2.1) ((wt_gr ph pa ch sz 0 pp).2.2.1) ((wt_gr ph pa ch sz 0 pp).2.2.2.1) ((wt_gr ph pa ch sz 0 pp).2.2.2.2) qq).2.2.2.1) pr gc gb sc sh sl ct tok wt pn lt wp sd) := hD
      refine lv_aload_n hx hb dT_add_50 rfl (lv_at hl 1 rfl) ?_
      refine lv_dup hx hb dT_add_51 rfl ?_
      refine va_get (D := (dC, dI)) (ci := 1) (v := .int (nI pr)) (C := RT) (T := TT) (N := 6) hx hb ht inT hown hK hP 1 rfl rfl 5 (by decide) (ht _ m_29) (fun _ h9 => h9) rfl dT_add_52 ?_
      refine lv_iconst (v := nI 1) hx hb dT_add_55 (by decide) ?_
      refine wt_iadd hx hb dT_add_56 ?_
      refine va_put (D := (dC, dI)) (ci := 1) (v := .int (nI (pr + 1))) (ty := .int) (C := RT) (T := TT) (N := 6) hx hb ht inT tyT tyT_ok nmT hown hK hP hD hS 1 rfl rfl 5 (by decide) (ht _ m_29) (fun _ h9 => h9) rfl (by decide +kernel) rfl rfl (Nat.le_of_ble_eq_true rfl) dT_add_57 (fun H locs hP hD hS => ?_)
      have hP : va_P (dC, dI) vwCl (wX cI cZ cL q ((wt_gr ((wt_gr ph pa ch sz 0 pp).1) ((wt_gr ph pa ch sz 0 pp).2.1) ((wt_gr ph pa ch sz 0 pp).2.2.1) ((wt_gr ph pa ch sz 0 pp).2.2.2.1) ((wt_gr ph pa ch sz 0 pp).2.2.2.2) qq).1) ((wt_gr ((wt_gr ph pa ch sz 0 pp).1) ((wt_gr ph pa ch sz 0 pp).2.1) ((wt_gr ph pa ch sz 0 pp).2.2.1) ((wt_gr ph pa ch sz 0 pp).2.2.2.1) ((wt_gr ph pa ch sz 0 pp).2.2.2.2) qq).2.1) ((wt_gr ((wt_gr ph pa ch sz 0 pp).1) ((wt_gr ph pa ch sz 0 pp).2.1) ((wt_gr ph pa ch sz 0 pp).2.2.1) ((wt_gr ph pa ch sz 0 pp).2.2.2.1) ((wt_gr ph pa ch sz 0 pp).2.2.2.2) qq).2.2.1) (va_up en (((wt_gr ((wt_gr ph pa ch sz 0 pp).1) ((wt_gr ph pa ch sz 0 pp).2.1) ((wt_gr ph pa ch sz 0 pp).2.2.1) ((wt_gr ph pa ch sz 0 pp).2.2.2.1) ((wt_gr ph pa ch sz 0 pp).2.2.2.2) qq).2.2.2.2) * 4 + ww) true) ((wt_gr ((wt_gr ph pa ch sz 0 pp).1) ((wt_gr ph pa ch sz 0 pp).2.1) ((wt_gr ph pa ch sz 0 pp).2.2.1) ((wt_gr ph pa ch sz 0 pp).2.2.2.1) ((wt_gr ph pa ch sz 0 pp).2.2.2.2) qq).2.2.2.1) (pr + 1) gc gb sc sh sl ct tok wt pn lt wp sd) H := hP
      have hD : va_D A (wX cI cZ cL q ((wt_gr ((wt_gr ph pa ch sz 0 pp).1) ((wt_gr ph pa ch sz 0 pp).2.1) ((wt_gr ph pa ch sz 0 pp).2.2.1) ((wt_gr ph pa ch sz 0 pp).2.2.2.1) ((wt_gr ph pa ch sz 0 pp).2.2.2.2) qq).1) ((wt_gr ((wt_gr ph pa ch sz 0 pp).1) ((wt_gr ph pa ch sz 0 pp).2.1) ((wt_gr ph pa ch sz 0 pp).2.2.1) ((wt_gr ph pa ch sz 0 pp).2.2.2.1) ((wt_gr ph pa ch sz 0 pp).2.2.2.2) qq).2.1) ((wt_gr ((wt_gr ph pa ch sz 0 pp).1) ((wt_gr ph pa ch sz 0 pp).2.1) ((wt_gr ph pa ch sz 0 pp).2.2.1) ((wt_gr ph pa ch sz 0 pp).2.2.2.1) ((wt_gr ph pa ch sz 0 pp).2.2.2.2) qq).2.2.1) (va_up en (((wt_gr ((wt_gr ph pa ch sz 0 pp).1) ((wt_gr ph pa ch sz 0 pp).2.1) ((wt_gr ph pa ch sz 0 pp).2.2.1) ((wt_gr ph pa ch sz 0 pp).2.2.2.1) ((wt_gr ph pa ch sz 0 pp).2.2.2.2) qq).2.2.2.2) * 4 + ww) true) ((wt_gr ((wt_gr ph pa ch sz 0 pp).1) ((wt_gr ph pa ch sz 0 pp).2.1) ((wt_gr ph pa ch sz 0 pp).2.2.1) ((wt_gr ph pa ch sz 0 pp).2.2.2.1) ((wt_gr ph pa ch sz 0 pp).2.2.2.2) qq).2.2.2.1) (pr + 1) gc gb sc sh sl ct tok wt pn lt wp sd) := hD
      have hP9 : va_P (dC, dI) vwCl (wX cI cZ cL q ((wt_gr (wt_gr ph pa ch sz 0 pp).1 (wt_gr ph pa ch sz 0 pp).2.1 (wt_gr ph pa ch sz 0 pp).2.2.1 (wt_gr ph pa ch sz 0 pp).2.2.2.1 (wt_gr ph pa ch sz 0 pp).2.2.2.2 qq).1) ((wt_gr (wt_gr ph pa ch sz 0 pp).1 (wt_gr ph pa ch sz 0 pp).2.1 (wt_gr ph pa ch sz 0 pp).2.2.1 (wt_gr ph pa ch sz 0 pp).2.2.2.1 (wt_gr ph pa ch sz 0 pp).2.2.2.2 qq).2.1) ((wt_gr (wt_gr ph pa ch sz 0 pp).1 (wt_gr ph pa ch sz 0 pp).2.1 (wt_gr ph pa ch sz 0 pp).2.2.1 (wt_gr ph pa ch sz 0 pp).2.2.2.1 (wt_gr ph pa ch sz 0 pp).2.2.2.2 qq).2.2.1) (va_up en ((wt_gr (wt_gr ph pa ch sz 0 pp).1 (wt_gr ph pa ch sz 0 pp).2.1 (wt_gr ph pa ch sz 0 pp).2.2.1 (wt_gr ph pa ch sz 0 pp).2.2.2.1 (wt_gr ph pa ch sz 0 pp).2.2.2.2 qq).2.2.2.2 * 4 + ww) true) ((wt_gr (wt_gr ph pa ch sz 0 pp).1 (wt_gr ph pa ch sz 0 pp).2.1 (wt_gr ph pa ch sz 0 pp).2.2.1 (wt_gr ph pa ch sz 0 pp).2.2.2.1 (wt_gr ph pa ch sz 0 pp).2.2.2.2 qq).2.2.2.1) (pr + 1) gc gb sc sh sl ct tok wt pn lt wp sd) H := by exact hP
      have hD9 : va_D A (wX cI cZ cL q ((wt_gr (wt_gr ph pa ch sz 0 pp).1 (wt_gr ph pa ch sz 0 pp).2.1 (wt_gr ph pa ch sz 0 pp).2.2.1 (wt_gr ph pa ch sz 0 pp).2.2.2.1 (wt_gr ph pa ch sz 0 pp).2.2.2.2 qq).1) ((wt_gr (wt_gr ph pa ch sz 0 pp).1 (wt_gr ph pa ch sz 0 pp).2.1 (wt_gr ph pa ch sz 0 pp).2.2.1 (wt_gr ph pa ch sz 0 pp).2.2.2.1 (wt_gr ph pa ch sz 0 pp).2.2.2.2 qq).2.1) ((wt_gr (wt_gr ph pa ch sz 0 pp).1 (wt_gr ph pa ch sz 0 pp).2.1 (wt_gr ph pa ch sz 0 pp).2.2.1 (wt_gr ph pa ch sz 0 pp).2.2.2.1 (wt_gr ph pa ch sz 0 pp).2.2.2.2 qq).2.2.1) (va_up en ((wt_gr (wt_gr ph pa ch sz 0 pp).1 (wt_gr ph pa ch sz 0 pp).2.1 (wt_gr ph pa ch sz 0 pp).2.2.1 (wt_gr ph pa ch sz 0 pp).2.2.2.1 (wt_gr ph pa ch sz 0 pp).2.2.2.2 qq).2.2.2.2 * 4 + ww) true) ((wt_gr (wt_gr ph pa ch sz 0 pp).1 (wt_gr ph pa ch sz 0 pp).2.1 (wt_gr ph pa ch sz 0 pp).2.2.1 (wt_gr ph pa ch sz 0 pp).2.2.2.1 (wt_gr ph pa ch sz 0 pp).2.2.2.2 qq).2.2.2.1) (pr + 1) gc gb sc sh sl ct tok wt pn lt wp sd) := by exact hD
      exact W.vret hx hb hr (fun t ht hW => ⟨⟨(), rfl, trivial, by rw [ht]; exact hP9, hD9⟩, hS.F ht⟩) hS.2.2 dT_add_60
    · exact absurd rfl c_2

set_option maxHeartbeats 4000000 in
set_option maxRecDepth 100000 in
theorem c_T_add_3 (l : Launch) (dC : Nat → ClassId) (dI : Nat → Nat → Nat) (cI cZ cL : ClassId) (q : Nat → Nat) (sz0 : Nat) (ph : Nat → Nat) (pa : Nat → Nat) (ch : Nat → Nat) (en : Nat → Bool) (sz : Nat) (pr : Nat) (gc : Nat → Int32) (gb : Nat → Int32) (sc : Nat → Int32) (sh : Nat → Int32) (sl : Nat → Int32) (ct : Nat) (tok : Nat → Int64) (wt : Nat → Int64) (pn : Nat → Nat) (lt : Nat → Int64) (wp : Int64) (sd : Bool) (ww : Nat) (pp : Nat) (qq : Nat) (rr : Nat) (hww : ww < 4) (hpp : pp < 4) (hqq : qq < 4) (hrr : rr < 4) (hch : ∀ j, ch j ≤ 24) (hsz : sz + 3 ≤ 24) (hpr : pr ≤ 7) : Met l yT_add (Cond.code yT_add cT_add 6 none :: tb) ({ frames := 2, cells := 0, slots := 0, locals := 46 }) (va_Pc [.ref (q 1), .int (nI ww), .int (nI pp), .int (nI qq), .int (nI rr)] (wt_rw (dC, dI) vwCl [(cI, .int), (cZ, .boolean), (cL, .long)] (wX cI cZ cL q ph pa ch en sz pr gc gb sc sh sl ct tok wt pn lt wp sd) sz0)) (va_Qv (fun _ : Unit => True) (wt_B (dC, dI) vwCl (va_A (wX cI cZ cL q ph pa ch en sz pr gc gb sc sh sl ct tok wt pn lt wp sd) sz0) (wX cI cZ cL q ((wt_gr (wt_gr (wt_gr ph pa ch sz 0 pp).1 (wt_gr ph pa ch sz 0 pp).2.1 (wt_gr ph pa ch sz 0 pp).2.2.1 (wt_gr ph pa ch sz 0 pp).2.2.2.1 (wt_gr ph pa ch sz 0 pp).2.2.2.2 qq).1 (wt_gr (wt_gr ph pa ch sz 0 pp).1 (wt_gr ph pa ch sz 0 pp).2.1 (wt_gr ph pa ch sz 0 pp).2.2.1 (wt_gr ph pa ch sz 0 pp).2.2.2.1 (wt_gr ph pa ch sz 0 pp).2.2.2.2 qq).2.1 (wt_gr (wt_gr ph pa ch sz 0 pp).1 (wt_gr ph pa ch sz 0 pp).2.1 (wt_gr ph pa ch sz 0 pp).2.2.1 (wt_gr ph pa ch sz 0 pp).2.2.2.1 (wt_gr ph pa ch sz 0 pp).2.2.2.2 qq).2.2.1 (wt_gr (wt_gr ph pa ch sz 0 pp).1 (wt_gr ph pa ch sz 0 pp).2.1 (wt_gr ph pa ch sz 0 pp).2.2.1 (wt_gr ph pa ch sz 0 pp).2.2.2.1 (wt_gr ph pa ch sz 0 pp).2.2.2.2 qq).2.2.2.1 (wt_gr (wt_gr ph pa ch sz 0 pp).1 (wt_gr ph pa ch sz 0 pp).2.1 (wt_gr ph pa ch sz 0 pp).2.2.1 (wt_gr ph pa ch sz 0 pp).2.2.2.1 (wt_gr ph pa ch sz 0 pp).2.2.2.2 qq).2.2.2.2 rr).1) ((wt_gr (wt_gr (wt_gr ph pa ch sz 0 pp).1 (wt_gr ph pa ch sz 0 pp).2.1 (wt_gr ph pa ch sz 0 pp).2.2.1 (wt_gr ph pa ch sz 0 pp).2.2.2.1 (wt_gr ph pa ch sz 0 pp).2.2.2.2 qq).1 (wt_gr (wt_gr ph pa ch sz 0 pp).1 (wt_gr ph pa ch sz 0 pp).2.1 (wt_gr ph pa ch sz 0 pp).2.2.1 (wt_gr ph pa ch sz 0 pp).2.2.2.1 (wt_gr ph pa ch sz 0 pp).2.2.2.2 qq).2.1 (wt_gr (wt_gr ph pa ch sz 0 pp).1 (wt_gr ph pa ch sz 0 pp).2.1 (wt_gr ph pa ch sz 0 pp).2.2.1 (wt_gr ph pa ch sz 0 pp).2.2.2.1 (wt_gr ph pa ch sz 0 pp).2.2.2.2 qq).2.2.1 (wt_gr (wt_gr ph pa ch sz 0 pp).1 (wt_gr ph pa ch sz 0 pp).2.1 (wt_gr ph pa ch sz 0 pp).2.2.1 (wt_gr ph pa ch sz 0 pp).2.2.2.1 (wt_gr ph pa ch sz 0 pp).2.2.2.2 qq).2.2.2.1 (wt_gr (wt_gr ph pa ch sz 0 pp).1 (wt_gr ph pa ch sz 0 pp).2.1 (wt_gr ph pa ch sz 0 pp).2.2.1 (wt_gr ph pa ch sz 0 pp).2.2.2.1 (wt_gr ph pa ch sz 0 pp).2.2.2.2 qq).2.2.2.2 rr).2.1) ((wt_gr (wt_gr (wt_gr ph pa ch sz 0 pp).1 (wt_gr ph pa ch sz 0 pp).2.1 (wt_gr ph pa ch sz 0 pp).2.2.1 (wt_gr ph pa ch sz 0 pp).2.2.2.1 (wt_gr ph pa ch sz 0 pp).2.2.2.2 qq).1 (wt_gr (wt_gr ph pa ch sz 0 pp).1 (wt_gr ph pa ch sz 0 pp).2.1 (wt_gr ph pa ch sz 0 pp).2.2.1 (wt_gr ph pa ch sz 0 pp).2.2.2.1 (wt_gr ph pa ch sz 0 pp).2.2.2.2 qq).2.1 (wt_gr (wt_gr ph pa ch sz 0 pp).1 (wt_gr ph pa ch sz 0 pp).2.1 (wt_gr ph pa ch sz 0 pp).2.2.1 (wt_gr ph pa ch sz 0 pp).2.2.2.1 (wt_gr ph pa ch sz 0 pp).2.2.2.2 qq).2.2.1 (wt_gr (wt_gr ph pa ch sz 0 pp).1 (wt_gr ph pa ch sz 0 pp).2.1 (wt_gr ph pa ch sz 0 pp).2.2.1 (wt_gr ph pa ch sz 0 pp).2.2.2.1 (wt_gr ph pa ch sz 0 pp).2.2.2.2 qq).2.2.2.1 (wt_gr (wt_gr ph pa ch sz 0 pp).1 (wt_gr ph pa ch sz 0 pp).2.1 (wt_gr ph pa ch sz 0 pp).2.2.1 (wt_gr ph pa ch sz 0 pp).2.2.2.1 (wt_gr ph pa ch sz 0 pp).2.2.2.2 qq).2.2.2.2 rr).2.2.1) (va_up en ((wt_gr (wt_gr (wt_gr ph pa ch sz 0 pp).1 (wt_gr ph pa ch sz 0 pp).2.1 (wt_gr ph pa ch sz 0 pp).2.2.1 (wt_gr ph pa ch sz 0 pp).2.2.2.1 (wt_gr ph pa ch sz 0 pp).2.2.2.2 qq).1 (wt_gr (wt_gr ph pa ch sz 0 pp).1 (wt_gr ph pa ch sz 0 pp).2.1 (wt_gr ph pa ch sz 0 pp).2.2.1 (wt_gr ph pa ch sz 0 pp).2.2.2.1 (wt_gr ph pa ch sz 0 pp).2.2.2.2 qq).2.1 (wt_gr (wt_gr ph pa ch sz 0 pp).1 (wt_gr ph pa ch sz 0 pp).2.1 (wt_gr ph pa ch sz 0 pp).2.2.1 (wt_gr ph pa ch sz 0 pp).2.2.2.1 (wt_gr ph pa ch sz 0 pp).2.2.2.2 qq).2.2.1 (wt_gr (wt_gr ph pa ch sz 0 pp).1 (wt_gr ph pa ch sz 0 pp).2.1 (wt_gr ph pa ch sz 0 pp).2.2.1 (wt_gr ph pa ch sz 0 pp).2.2.2.1 (wt_gr ph pa ch sz 0 pp).2.2.2.2 qq).2.2.2.1 (wt_gr (wt_gr ph pa ch sz 0 pp).1 (wt_gr ph pa ch sz 0 pp).2.1 (wt_gr ph pa ch sz 0 pp).2.2.1 (wt_gr ph pa ch sz 0 pp).2.2.2.1 (wt_gr ph pa ch sz 0 pp).2.2.2.2 qq).2.2.2.2 rr).2.2.2.2 * 4 + ww) true) ((wt_gr (wt_gr (wt_gr ph pa ch sz 0 pp).1 (wt_gr ph pa ch sz 0 pp).2.1 (wt_gr ph pa ch sz 0 pp).2.2.1 (wt_gr ph pa ch sz 0 pp).2.2.2.1 (wt_gr ph pa ch sz 0 pp).2.2.2.2 qq).1 (wt_gr (wt_gr ph pa ch sz 0 pp).1 (wt_gr ph pa ch sz 0 pp).2.1 (wt_gr ph pa ch sz 0 pp).2.2.1 (wt_gr ph pa ch sz 0 pp).2.2.2.1 (wt_gr ph pa ch sz 0 pp).2.2.2.2 qq).2.1 (wt_gr (wt_gr ph pa ch sz 0 pp).1 (wt_gr ph pa ch sz 0 pp).2.1 (wt_gr ph pa ch sz 0 pp).2.2.1 (wt_gr ph pa ch sz 0 pp).2.2.2.1 (wt_gr ph pa ch sz 0 pp).2.2.2.2 qq).2.2.1 (wt_gr (wt_gr ph pa ch sz 0 pp).1 (wt_gr ph pa ch sz 0 pp).2.1 (wt_gr ph pa ch sz 0 pp).2.2.1 (wt_gr ph pa ch sz 0 pp).2.2.2.1 (wt_gr ph pa ch sz 0 pp).2.2.2.2 qq).2.2.2.1 (wt_gr (wt_gr ph pa ch sz 0 pp).1 (wt_gr ph pa ch sz 0 pp).2.1 (wt_gr ph pa ch sz 0 pp).2.2.1 (wt_gr ph pa ch sz 0 pp).2.2.2.1 (wt_gr ph pa ch sz 0 pp).2.2.2.2 qq).2.2.2.2 rr).2.2.2.1) (pr + 1) gc gb sc sh sl ct tok wt pn lt wp sd)) (va_A (wX cI cZ cL q ph pa ch en sz pr gc gb sc sh sl ct tok wt pn lt wp sd) sz0)) 0 0 (va_A (wX cI cZ cL q ph pa ch en sz pr gc gb sc sh sl ct tok wt pn lt wp sd) sz0) := by
  refine Met.ofW (cc := cT_add) (maxL := 6) (ret := none) (by decide) rfl ?_
  intro p e s m args below meth c s₁ B hml hv
  obtain ⟨rfl, hsz, hP, hK, hN, hD0⟩ := hv
  have hx := B.exec
  have hb := B.bytes
  have hr := B.returns
  have hts := atoms_spec (ws := (Cond.code yT_add cT_add 6 none :: tb)) B.pre
  have ht : ∀ w ∈ tb, w.before _ s = true := fun w h => hts w (List.mem_cons_of_mem _ h)
  have hown : s.vm.findClass RT = some m.cls := findClass_of_methodNamed B.named
  have hlocks := B.notSynchronized
  subst hsz
  have hD := hD0.self (sz := s.heap.size)
  generalize hAe : va_A (wX cI cZ cL q ph pa ch en sz pr gc gb sc sh sl ct tok wt pn lt wp sd) s.heap.size = A at hD ⊢
  have hA : ∀ q : Nat, s.heap.size ≤ q → A q := fun q h => by rw [← hAe]; exact Or.inr h
  clear hAe hD0
  have hS : va_S A s.heap s.heap [] := va_S.rf
  have hl := lv_entry ([.ref (q 1), .int (nI ww), .int (nI pp), .int (nI qq), .int (nI rr)]) (n := 6) (Nat.le_of_ble_eq_true rfl)
  rw [lg_entry_eq]
  generalize (lg_sl ([.ref (q 1), .int (nI ww), .int (nI pp), .int (nI qq), .int (nI rr)]) ++ List.replicate (6 - (lg_sl ([.ref (q 1), .int (nI ww), .int (nI pp), .int (nI qq), .int (nI rr)])).length) Slot.unset).toArray = ls at hl ⊢
  have hl : lv_has ls 6 [(0, .ref (q 1)), (1, .int (nI ww)), (2, .int (nI pp)), (3, .int (nI qq)), (4, .int (nI rr))] := hl
  have g1 := gr_b (ph := ph) (pa := pa) (ch := ch) (sz := sz) (n := 0) (p := pp) hch (by omega)
  have g2 := gr_b (ph := (wt_gr ph pa ch sz 0 pp).1) (pa := (wt_gr ph pa ch sz 0 pp).2.1) (ch := (wt_gr ph pa ch sz 0 pp).2.2.1) (sz := (wt_gr ph pa ch sz 0 pp).2.2.2.1) (n := (wt_gr ph pa ch sz 0 pp).2.2.2.2) (p := qq) g1.1 (by omega)
  have g3 := gr_b (ph := (wt_gr (wt_gr ph pa ch sz 0 pp).1 (wt_gr ph pa ch sz 0 pp).2.1 (wt_gr ph pa ch sz 0 pp).2.2.1 (wt_gr ph pa ch sz 0 pp).2.2.2.1 (wt_gr ph pa ch sz 0 pp).2.2.2.2 qq).1) (pa := (wt_gr (wt_gr ph pa ch sz 0 pp).1 (wt_gr ph pa ch sz 0 pp).2.1 (wt_gr ph pa ch sz 0 pp).2.2.1 (wt_gr ph pa ch sz 0 pp).2.2.2.1 (wt_gr ph pa ch sz 0 pp).2.2.2.2 qq).2.1) (ch := (wt_gr (wt_gr ph pa ch sz 0 pp).1 (wt_gr ph pa ch sz 0 pp).2.1 (wt_gr ph pa ch sz 0 pp).2.2.1 (wt_gr ph pa ch sz 0 pp).2.2.2.1 (wt_gr ph pa ch sz 0 pp).2.2.2.2 qq).2.2.1) (sz := (wt_gr (wt_gr ph pa ch sz 0 pp).1 (wt_gr ph pa ch sz 0 pp).2.1 (wt_gr ph pa ch sz 0 pp).2.2.1 (wt_gr ph pa ch sz 0 pp).2.2.2.1 (wt_gr ph pa ch sz 0 pp).2.2.2.2 qq).2.2.2.1) (n := (wt_gr (wt_gr ph pa ch sz 0 pp).1 (wt_gr ph pa ch sz 0 pp).2.1 (wt_gr ph pa ch sz 0 pp).2.2.1 (wt_gr ph pa ch sz 0 pp).2.2.2.1 (wt_gr ph pa ch sz 0 pp).2.2.2.2 qq).2.2.2.2) (p := rr) g2.1 (by omega)
  refine lv_aload_n hx hb dT_add_0 rfl (lv_at hl 0 rfl) ?_
  refine lv_iconst (v := nI 0) hx hb dT_add_1 (by decide) ?_
  refine lv_iload_n hx hb dT_add_2 rfl (lv_at hl 2 rfl) ?_
  refine wt_rwi (va_runV (As := [.int (nI 0), .int (nI pp)]) (rest := []) ⟨hx, hb, hml, hown, ht⟩ (c_T_grow l dC dI cI cZ cL q s.heap.size ph pa ch en sz pr gc gb sc sh sl ct tok wt pn lt wp sd 0 pp (by decide) hpp hch (by omega)) (cwV 2 ht (good_V m_162 m_164 ms_1 m_2 m_165) rfl rfl rfl (by decide +kernel) ⟨Nat.le_of_ble_eq_true rfl, Nat.le_of_ble_eq_true rfl⟩) (wt_preVw hK hN hP hD (va_recv hK hP (ci := 1) (q0 := 1) rfl rfl)) rfl rfl hl.1 rfl (lv_room (Nat.le_of_ble_eq_true rfl)) dT_add_3 ⟨Nat.le_of_ble_eq_true rfl, Nat.le_of_ble_eq_true rfl⟩) hD hS hA (fun H locs hP hD hS => ?_)
  have hP : va_P (dC, dI) vwCl (wX cI cZ cL q ((wt_gr ph pa ch sz 0 pp).1) ((wt_gr ph pa ch sz 0 pp).2.1) ((wt_gr ph pa ch sz 0 pp).2.2.1) en ((wt_gr ph pa ch sz 0 pp).2.2.2.1) pr gc gb sc sh sl ct tok wt pn lt wp sd) H := hP
  have hD : va_D A (wX cI cZ cL q ((wt_gr ph pa ch sz 0 pp).1) ((wt_gr ph pa ch sz 0 pp).2.1) ((wt_gr ph pa ch sz 0 pp).2.2.1) en ((wt_gr ph pa ch sz 0 pp).2.2.2.1) pr gc gb sc sh sl ct tok wt pn lt wp sd) := hD
  refine lv_istore (lv' := [(5, .int (nI ((wt_gr ph pa ch sz 0 pp).2.2.2.2))), (0, .ref (q 1)), (1, .int (nI ww)), (2, .int (nI pp)), (3, .int (nI qq)), (4, .int (nI rr))]) hx hb dT_add_6 hl (by decide) rfl (fun ls hl => ?_)
  refine lv_iload_n hx hb dT_add_8 rfl (lv_at hl 4 rfl) ?_
  refine lv_iconst (v := (-1)) hx hb dT_add_9 (by decide) ?_
  refine lv_icmp_eq (tgt := 22) hx hb dT_add_10 (by decide) (fun c_1 => ?_) (fun c_1 => ?_)
  · exact absurd c_1 (wt_nI_nem1 (by omega))
  · skip
    refine lv_aload_n hx hb dT_add_13 rfl (lv_at hl 1 rfl) ?_
    refine lv_iload hx hb dT_add_14 (lv_at hl 0 rfl) ?_
    refine lv_iload_n hx hb dT_add_16 rfl (lv_at hl 4 rfl) ?_
    refine wt_rwi (va_runV (As := [.int (nI ((wt_gr ph pa ch sz 0 pp).2.2.2.2)), .int (nI qq)]) (rest := []) ⟨hx, hb, hml, hown, ht⟩ (c_T_grow l dC dI cI cZ cL q H.size ((wt_gr ph pa ch sz 0 pp).1) ((wt_gr ph pa ch sz 0 pp).2.1) ((wt_gr ph pa ch sz 0 pp).2.2.1) en ((wt_gr ph pa ch sz 0 pp).2.2.2.1) pr gc gb sc sh sl ct tok wt pn lt wp sd ((wt_gr ph pa ch sz 0 pp).2.2.2.2) qq (by omega) hqq g1.1 (by omega)) (cwV 2 ht (good_V m_162 m_164 ms_1 m_2 m_165) rfl rfl rfl (by decide +kernel) ⟨Nat.le_of_ble_eq_true rfl, Nat.le_of_ble_eq_true rfl⟩) (wt_preVw hK hN hP hD (va_recv hK hP (ci := 1) (q0 := 1) rfl rfl)) rfl rfl hl.1 rfl (lv_room (Nat.le_of_ble_eq_true rfl)) dT_add_17 ⟨Nat.le_of_ble_eq_true rfl, Nat.le_of_ble_eq_true rfl⟩) hD hS hA (fun H locs hP hD hS => ?_)
    have hP : va_P (dC, dI) vwCl (wX cI cZ cL q ((wt_gr ((wt_gr ph pa ch sz 0 pp).1) ((wt_gr ph pa ch sz 0 pp).2.1) ((wt_gr ph pa ch sz 0 pp).2.2.1) ((wt_gr ph pa ch sz 0 pp).2.2.2.1) ((wt_gr ph pa ch sz 0 pp).2.2.2.2) qq).1) ((wt_gr ((wt_gr ph pa ch sz 0 pp).1) ((wt_gr ph pa ch sz 0 pp).2.1) ((wt_gr ph pa ch sz 0 pp).2.2.1) ((wt_gr ph pa ch sz 0 pp).2.2.2.1) ((wt_gr ph pa ch sz 0 pp).2.2.2.2) qq).2.1) ((wt_gr ((wt_gr ph pa ch sz 0 pp).1) ((wt_gr ph pa ch sz 0 pp).2.1) ((wt_gr ph pa ch sz 0 pp).2.2.1) ((wt_gr ph pa ch sz 0 pp).2.2.2.1) ((wt_gr ph pa ch sz 0 pp).2.2.2.2) qq).2.2.1) en ((wt_gr ((wt_gr ph pa ch sz 0 pp).1) ((wt_gr ph pa ch sz 0 pp).2.1) ((wt_gr ph pa ch sz 0 pp).2.2.1) ((wt_gr ph pa ch sz 0 pp).2.2.2.1) ((wt_gr ph pa ch sz 0 pp).2.2.2.2) qq).2.2.2.1) pr gc gb sc sh sl ct tok wt pn lt wp sd) H := hP
    have hD : va_D A (wX cI cZ cL q ((wt_gr ((wt_gr ph pa ch sz 0 pp).1) ((wt_gr ph pa ch sz 0 pp).2.1) ((wt_gr ph pa ch sz 0 pp).2.2.1) ((wt_gr ph pa ch sz 0 pp).2.2.2.1) ((wt_gr ph pa ch sz 0 pp).2.2.2.2) qq).1) ((wt_gr ((wt_gr ph pa ch sz 0 pp).1) ((wt_gr ph pa ch sz 0 pp).2.1) ((wt_gr ph pa ch sz 0 pp).2.2.1) ((wt_gr ph pa ch sz 0 pp).2.2.2.1) ((wt_gr ph pa ch sz 0 pp).2.2.2.2) qq).2.1) ((wt_gr ((wt_gr ph pa ch sz 0 pp).1) ((wt_gr ph pa ch sz 0 pp).2.1) ((wt_gr ph pa ch sz 0 pp).2.2.1) ((wt_gr ph pa ch sz 0 pp).2.2.2.1) ((wt_gr ph pa ch sz 0 pp).2.2.2.2) qq).2.2.1) en ((wt_gr ((wt_gr ph pa ch sz 0 pp).1) ((wt_gr ph pa ch sz 0 pp).2.1) ((wt_gr ph pa ch sz 0 pp).2.2.1) ((wt_gr ph pa ch sz 0 pp).2.2.2.1) ((wt_gr ph pa ch sz 0 pp).2.2.2.2) qq).2.2.2.1) pr gc gb sc sh sl ct tok wt pn lt wp sd) := hD
    refine lv_istore (lv' := [(5, .int (nI ((wt_gr ((wt_gr ph pa ch sz 0 pp).1) ((wt_gr ph pa ch sz 0 pp).2.1) ((wt_gr ph pa ch sz 0 pp).2.2.1) ((wt_gr ph pa ch sz 0 pp).2.2.2.1) ((wt_gr ph pa ch sz 0 pp).2.2.2.2) qq).2.2.2.2))), (0, .ref (q 1)), (1, .int (nI ww)), (2, .int (nI pp)), (3, .int (nI qq)), (4, .int (nI rr))]) hx hb dT_add_20 hl (by decide) rfl (fun ls hl => ?_)
    refine lv_iload hx hb dT_add_22 (lv_at hl 5 rfl) ?_
    refine lv_iconst (v := (-1)) hx hb dT_add_24 (by decide) ?_
    refine lv_icmp_eq (tgt := 38) hx hb dT_add_25 (by decide) (fun c_2 => ?_) (fun c_2 => ?_)
    · exact absurd c_2 (wt_nI_nem1 (by omega))
    · skip
      refine lv_aload_n hx hb dT_add_28 rfl (lv_at hl 1 rfl) ?_
      refine lv_iload hx hb dT_add_29 (lv_at hl 0 rfl) ?_
      refine lv_iload hx hb dT_add_31 (lv_at hl 5 rfl) ?_
      refine wt_rwi (va_runV (As := [.int (nI ((wt_gr ((wt_gr ph pa ch sz 0 pp).1) ((wt_gr ph pa ch sz 0 pp).2.1) ((wt_gr ph pa ch sz 0 pp).2.2.1) ((wt_gr ph pa ch sz 0 pp).2.2.2.1) ((wt_gr ph pa ch sz 0 pp).2.2.2.2) qq).2.2.2.2)), .int (nI rr)]) (rest := []) ⟨hx, hb, hml, hown, ht⟩ (c_T_grow l dC dI cI cZ cL q H.size ((wt_gr ((wt_gr ph pa ch sz 0 pp).1) ((wt_gr ph pa ch sz 0 pp).2.1) ((wt_gr ph pa ch sz 0 pp).2.2.1) ((wt_gr ph pa ch sz 0 pp).2.2.2.1) ((wt_gr ph pa ch sz 0 pp).2.2.2.2) qq).1) ((wt_gr ((wt_gr ph pa ch sz 0 pp).1) ((wt_gr ph pa ch sz 0 pp).2.1) ((wt_gr ph pa ch sz 0 pp).2.2.1) ((wt_gr ph pa ch sz 0 pp).2.2.2.1) ((wt_gr ph pa ch sz 0 pp).2.2.2.2) qq).2.1) ((wt_gr ((wt_gr ph pa ch sz 0 pp).1) ((wt_gr ph pa ch sz 0 pp).2.1) ((wt_gr ph pa ch sz 0 pp).2.2.1) ((wt_gr ph pa ch sz 0 pp).2.2.2.1) ((wt_gr ph pa ch sz 0 pp).2.2.2.2) qq).2.2.1) en ((wt_gr ((wt_gr ph pa ch sz 0 pp).1) ((wt_gr ph pa ch sz 0 pp).2.1) ((wt_gr ph pa ch sz 0 pp).2.2.1) ((wt_gr ph pa ch sz 0 pp).2.2.2.1) ((wt_gr ph pa ch sz 0 pp).2.2.2.2) qq).2.2.2.1) pr gc gb sc sh sl ct tok wt pn lt wp sd ((wt_gr ((wt_gr ph pa ch sz 0 pp).1) ((wt_gr ph pa ch sz 0 pp).2.1) ((wt_gr ph pa ch sz 0 pp).2.2.1) ((wt_gr ph pa ch sz 0 pp).2.2.2.1) ((wt_gr ph pa ch sz 0 pp).2.2.2.2) qq).2.2.2.2) rr (by omega) hrr g2.1 (by omega)) (cwV 2 ht (good_V m_162 m_164 ms_1 m_2 m_165) rfl rfl rfl (by decide +kernel) ⟨Nat.le_of_ble_eq_true rfl, Nat.le_of_ble_eq_true rfl⟩) (wt_preVw hK hN hP hD (va_recv hK hP (ci := 1) (q0 := 1) rfl rfl)) rfl rfl hl.1 rfl (lv_room (Nat.le_of_ble_eq_true rfl)) dT_add_33 ⟨Nat.le_of_ble_eq_true rfl, Nat.le_of_ble_eq_true rfl⟩) hD hS hA (fun H locs hP hD hS => ?_)
      have hP : va_P (dC, dI) vwCl (wX cI cZ cL q ((wt_gr ((wt_gr ((wt_gr ph pa ch sz 0 pp).1) ((wt_gr ph pa ch sz 0 pp).2.1) ((wt_gr ph pa ch sz 0 pp).2.2.1) ((wt_gr ph pa ch sz 0 pp).2.2.2.1) ((wt_gr ph pa ch sz 0 pp).2.2.2.2) qq).1) ((wt_gr ((wt_gr ph pa ch sz 0 pp).1) ((wt_gr ph pa ch sz 0 pp).2.1) ((wt_gr ph pa ch sz 0 pp).2.2.1) ((wt_gr ph pa ch sz 0 pp).2.2.2.1) ((wt_gr ph pa ch sz 0 pp).2.2.2.2) qq).2.1) ((wt_gr ((wt_gr ph pa ch sz 0 pp).1) ((wt_gr ph pa ch sz 0 pp).2.1) ((wt_gr ph pa ch sz 0 pp).2.2.1) ((wt_gr ph pa ch sz 0 pp).2.2.2.1) ((wt_gr ph pa ch sz 0 pp).2.2.2.2) qq).2.2.1) ((wt_gr ((wt_gr ph pa ch sz 0 pp).1) ((wt_gr ph pa ch sz 0 pp).2.1) ((wt_gr ph pa ch sz 0 pp).2.2.1) ((wt_gr ph pa ch sz 0 pp).2.2.2.1) ((wt_gr ph pa ch sz 0 pp).2.2.2.2) qq).2.2.2.1) ((wt_gr ((wt_gr ph pa ch sz 0 pp).1) ((wt_gr ph pa ch sz 0 pp).2.1) ((wt_gr ph pa ch sz 0 pp).2.2.1) ((wt_gr ph pa ch sz 0 pp).2.2.2.1) ((wt_gr ph pa ch sz 0 pp).2.2.2.2) qq).2.2.2.2) rr).1) ((wt_gr ((wt_gr ((wt_gr ph pa ch sz 0 pp).1) ((wt_gr ph pa ch sz 0 pp).2.1) ((wt_gr ph pa ch sz 0 pp).2.2.1) ((wt_gr ph pa ch sz 0 pp).2.2.2.1) ((wt_gr ph pa ch sz 0 pp).2.2.2.2) qq).1) ((wt_gr ((wt_gr ph pa ch sz 0 pp).1) ((wt_gr ph pa ch sz 0 pp).2.1) ((wt_gr ph pa ch sz 0 pp).2.2.1) ((wt_gr ph pa ch sz 0 pp).2.2.2.1) ((wt_gr ph pa ch sz 0 pp).2.2.2.2) qq).2.1) ((wt_gr ((wt_gr ph pa ch sz 0 pp).1) ((wt_gr ph pa ch sz 0 pp).2.1) ((wt_gr ph pa ch sz 0 pp).2.2.1) ((wt_gr ph pa ch sz 0 pp).2.2.2.1) ((wt_gr ph pa ch sz 0 pp).2.2.2.2) qq).2.2.1) ((wt_gr ((wt_gr ph pa ch sz 0 pp).1) ((wt_gr ph pa ch sz 0 pp).2.1) ((wt_gr ph pa ch sz 0 pp).2.2.1) ((wt_gr ph pa ch sz 0 pp).2.2.2.1) ((wt_gr ph pa ch sz 0 pp).2.2.2.2) qq).2.2.2.1) ((wt_gr ((wt_gr ph pa ch sz 0 pp).1) ((wt_gr ph pa ch sz 0 pp).2.1) ((wt_gr ph pa ch sz 0 pp).2.2.1) ((wt_gr ph pa ch sz 0 pp).2.2.2.1) ((wt_gr ph pa ch sz 0 pp).2.2.2.2) qq).2.2.2.2) rr).2.1) ((wt_gr ((wt_gr ((wt_gr ph pa ch sz 0 pp).1) ((wt_gr ph pa ch sz 0 pp).2.1) ((wt_gr ph pa ch sz 0 pp).2.2.1) ((wt_gr ph pa ch sz 0 pp).2.2.2.1) ((wt_gr ph pa ch sz 0 pp).2.2.2.2) qq).1) ((wt_gr ((wt_gr ph pa ch sz 0 pp).1) ((wt_gr ph pa ch sz 0 pp).2.1) ((wt_gr ph pa ch sz 0 pp).2.2.1) ((wt_gr ph pa ch sz 0 pp).2.2.2.1) ((wt_gr ph pa ch sz 0 pp).2.2.2.2) qq).2.1) ((wt_gr ((wt_gr ph pa ch sz 0 pp).1) ((wt_gr ph pa ch sz 0 pp).2.1) ((wt_gr ph pa ch sz 0 pp).2.2.1) ((wt_gr ph pa ch sz 0 pp).2.2.2.1) ((wt_gr ph pa ch sz 0 pp).2.2.2.2) qq).2.2.1) ((wt_gr ((wt_gr ph pa ch sz 0 pp).1) ((wt_gr ph pa ch sz 0 pp).2.1) ((wt_gr ph pa ch sz 0 pp).2.2.1) ((wt_gr ph pa ch sz 0 pp).2.2.2.1) ((wt_gr ph pa ch sz 0 pp).2.2.2.2) qq).2.2.2.1) ((wt_gr ((wt_gr ph pa ch sz 0 pp).1) ((wt_gr ph pa ch sz 0 pp).2.1) ((wt_gr ph pa ch sz 0 pp).2.2.1) ((wt_gr ph pa ch sz 0 pp).2.2.2.1) ((wt_gr ph pa ch sz 0 pp).2.2.2.2) qq).2.2.2.2) rr).2.2.1) en ((wt_gr ((wt_gr ((wt_gr ph pa ch sz 0 pp).1) ((wt_gr ph pa ch sz 0 pp).2.1) ((wt_gr ph pa ch sz 0 pp).2.2.1) ((wt_gr ph pa ch sz 0 pp).2.2.2.1) ((wt_gr ph pa ch sz 0 pp).2.2.2.2) qq).1) ((wt_gr ((wt_gr ph pa ch sz 0 pp).1) ((wt_gr ph pa ch sz 0 pp).2.1) ((wt_gr ph pa ch sz 0 pp).2.2.1) ((wt_gr ph pa ch sz 0 pp).2.2.2.1) ((wt_gr ph pa ch sz 0 pp).2.2.2.2) qq).2.1) ((wt_gr ((wt_gr ph pa ch sz 0 pp).1) ((wt_gr ph pa ch sz 0 pp).2.1) ((wt_gr ph pa ch sz 0 pp).2.2.1) ((wt_gr ph pa ch sz 0 pp).2.2.2.1) ((wt_gr ph pa ch sz 0 pp).2.2.2.2) qq).2.2.1) ((wt_gr ((wt_gr ph pa ch sz 0 pp).1) ((wt_gr ph pa ch sz 0 pp).2.1) ((wt_gr ph pa ch sz 0 pp).2.2.1) ((wt_gr ph pa ch sz 0 pp).2.2.2.1) ((wt_gr ph pa ch sz 0 pp).2.2.2.2) qq).2.2.2.1) ((wt_gr ((wt_gr ph pa ch sz 0 pp).1) ((wt_gr ph pa ch sz 0 pp).2.1) ((wt_gr ph pa ch sz 0 pp).2.2.1) ((wt_gr ph pa ch sz 0 pp).2.2.2.1) ((wt_gr ph pa ch sz 0 pp).2.2.2.2) qq).2.2.2.2) rr).2.2.2.1) pr gc gb sc sh sl ct tok wt pn lt wp sd) H := hP
      have hD : va_D A (wX cI cZ cL q ((wt_gr ((wt_gr ((wt_gr ph pa ch sz 0 pp).1) ((wt_gr ph pa ch sz 0 pp).2.1) ((wt_gr ph pa ch sz 0 pp).2.2.1) ((wt_gr ph pa ch sz 0 pp).2.2.2.1) ((wt_gr ph pa ch sz 0 pp).2.2.2.2) qq).1) ((wt_gr ((wt_gr ph pa ch sz 0 pp).1) ((wt_gr ph pa ch sz 0 pp).2.1) ((wt_gr ph pa ch sz 0 pp).2.2.1) ((wt_gr ph pa ch sz 0 pp).2.2.2.1) ((wt_gr ph pa ch sz 0 pp).2.2.2.2) qq).2.1) ((wt_gr ((wt_gr ph pa ch sz 0 pp).1) ((wt_gr ph pa ch sz 0 pp).2.1) ((wt_gr ph pa ch sz 0 pp).2.2.1) ((wt_gr ph pa ch sz 0 pp).2.2.2.1) ((wt_gr ph pa ch sz 0 pp).2.2.2.2) qq).2.2.1) ((wt_gr ((wt_gr ph pa ch sz 0 pp).1) ((wt_gr ph pa ch sz 0 pp).2.1) ((wt_gr ph pa ch sz 0 pp).2.2.1) ((wt_gr ph pa ch sz 0 pp).2.2.2.1) ((wt_gr ph pa ch sz 0 pp).2.2.2.2) qq).2.2.2.1) ((wt_gr ((wt_gr ph pa ch sz 0 pp).1) ((wt_gr ph pa ch sz 0 pp).2.1) ((wt_gr ph pa ch sz 0 pp).2.2.1) ((wt_gr ph pa ch sz 0 pp).2.2.2.1) ((wt_gr ph pa ch sz 0 pp).2.2.2.2) qq).2.2.2.2) rr).1) ((wt_gr ((wt_gr ((wt_gr ph pa ch sz 0 pp).1) ((wt_gr ph pa ch sz 0 pp).2.1) ((wt_gr ph pa ch sz 0 pp).2.2.1) ((wt_gr ph pa ch sz 0 pp).2.2.2.1) ((wt_gr ph pa ch sz 0 pp).2.2.2.2) qq).1) ((wt_gr ((wt_gr ph pa ch sz 0 pp).1) ((wt_gr ph pa ch sz 0 pp).2.1) ((wt_gr ph pa ch sz 0 pp).2.2.1) ((wt_gr ph pa ch sz 0 pp).2.2.2.1) ((wt_gr ph pa ch sz 0 pp).2.2.2.2) qq).2.1) ((wt_gr ((wt_gr ph pa ch sz 0 pp).1) ((wt_gr ph pa ch sz 0 pp).2.1) ((wt_gr ph pa ch sz 0 pp).2.2.1) ((wt_gr ph pa ch sz 0 pp).2.2.2.1) ((wt_gr ph pa ch sz 0 pp).2.2.2.2) qq).2.2.1) ((wt_gr ((wt_gr ph pa ch sz 0 pp).1) ((wt_gr ph pa ch sz 0 pp).2.1) ((wt_gr ph pa ch sz 0 pp).2.2.1) ((wt_gr ph pa ch sz 0 pp).2.2.2.1) ((wt_gr ph pa ch sz 0 pp).2.2.2.2) qq).2.2.2.1) ((wt_gr ((wt_gr ph pa ch sz 0 pp).1) ((wt_gr ph pa ch sz 0 pp).2.1) ((wt_gr ph pa ch sz 0 pp).2.2.1) ((wt_gr ph pa ch sz 0 pp).2.2.2.1) ((wt_gr ph pa ch sz 0 pp).2.2.2.2) qq).2.2.2.2) rr).2.1) ((wt_gr ((wt_gr ((wt_gr ph pa ch sz 0 pp).1) ((wt_gr ph pa ch sz 0 pp).2.1) ((wt_gr ph pa ch sz 0 pp).2.2.1) ((wt_gr ph pa ch sz 0 pp).2.2.2.1) ((wt_gr ph pa ch sz 0 pp).2.2.2.2) qq).1) ((wt_gr ((wt_gr ph pa ch sz 0 pp).1) ((wt_gr ph pa ch sz 0 pp).2.1) ((wt_gr ph pa ch sz 0 pp).2.2.1) ((wt_gr ph pa ch sz 0 pp).2.2.2.1) ((wt_gr ph pa ch sz 0 pp).2.2.2.2) qq).2.1) ((wt_gr ((wt_gr ph pa ch sz 0 pp).1) ((wt_gr ph pa ch sz 0 pp).2.1) ((wt_gr ph pa ch sz 0 pp).2.2.1) ((wt_gr ph pa ch sz 0 pp).2.2.2.1) ((wt_gr ph pa ch sz 0 pp).2.2.2.2) qq).2.2.1) ((wt_gr ((wt_gr ph pa ch sz 0 pp).1) ((wt_gr ph pa ch sz 0 pp).2.1) ((wt_gr ph pa ch sz 0 pp).2.2.1) ((wt_gr ph pa ch sz 0 pp).2.2.2.1) ((wt_gr ph pa ch sz 0 pp).2.2.2.2) qq).2.2.2.1) ((wt_gr ((wt_gr ph pa ch sz 0 pp).1) ((wt_gr ph pa ch sz 0 pp).2.1) ((wt_gr ph pa ch sz 0 pp).2.2.1) ((wt_gr ph pa ch sz 0 pp).2.2.2.1) ((wt_gr ph pa ch sz 0 pp).2.2.2.2) qq).2.2.2.2) rr).2.2.1) en ((wt_gr ((wt_gr ((wt_gr ph pa ch sz 0 pp).1) ((wt_gr ph pa ch sz 0 pp).2.1) ((wt_gr ph pa ch sz 0 pp).2.2.1) ((wt_gr ph pa ch sz 0 pp).2.2.2.1) ((wt_gr ph pa ch sz 0 pp).2.2.2.2) qq).1) ((wt_gr ((wt_gr ph pa ch sz 0 pp).1) ((wt_gr ph pa ch sz 0 pp).2.1) ((wt_gr ph pa ch sz 0 pp).2.2.1) ((wt_gr ph pa ch sz 0 pp).2.2.2.1) ((wt_gr ph pa ch sz 0 pp).2.2.2.2) qq).2.1) ((wt_gr ((wt_gr ph pa ch sz 0 pp).1) ((wt_gr ph pa ch sz 0 pp).2.1) ((wt_gr ph pa ch sz 0 pp).2.2.1) ((wt_gr ph pa ch sz 0 pp).2.2.2.1) ((wt_gr ph pa ch sz 0 pp).2.2.2.2) qq).2.2.1) ((wt_gr ((wt_gr ph pa ch sz 0 pp).1) ((wt_gr ph pa ch sz 0 pp).2.1) ((wt_gr ph pa ch sz 0 pp).2.2.1) ((wt_gr ph pa ch sz 0 pp).2.2.2.1) ((wt_gr ph pa ch sz 0 pp).2.2.2.2) qq).2.2.2.1) ((wt_gr ((wt_gr ph pa ch sz 0 pp).1) ((wt_gr ph pa ch sz 0 pp).2.1) ((wt_gr ph pa ch sz 0 pp).2.2.1) ((wt_gr ph pa ch sz 0 pp).2.2.2.1) ((wt_gr ph pa ch sz 0 pp).2.2.2.2) qq).2.2.2.2) rr).2.2.2.1) pr gc gb sc sh sl ct tok wt pn lt wp sd) := hD
      refine lv_istore (lv' := [(5, .int (nI ((wt_gr ((wt_gr ((wt_gr ph pa ch sz 0 pp).1) ((wt_gr ph pa ch sz 0 pp).2.1) ((wt_gr ph pa ch sz 0 pp).2.2.1) ((wt_gr ph pa ch sz 0 pp).2.2.2.1) ((wt_gr ph pa ch sz 0 pp).2.2.2.2) qq).1) ((wt_gr ((wt_gr ph pa ch sz 0 pp).1) ((wt_gr ph pa ch sz 0 pp).2.1) ((wt_gr ph pa ch sz 0 pp).2.2.1) ((wt_gr ph pa ch sz 0 pp).2.2.2.1) ((wt_gr ph pa ch sz 0 pp).2.2.2.2) qq).2.1) ((wt_gr ((wt_gr ph pa ch sz 0 pp).1) ((wt_gr ph pa ch sz 0 pp).2.1) ((wt_gr ph pa ch sz 0 pp).2.2.1) ((wt_gr ph pa ch sz 0 pp).2.2.2.1) ((wt_gr ph pa ch sz 0 pp).2.2.2.2) qq).2.2.1) ((wt_gr ((wt_gr ph pa ch sz 0 pp).1) ((wt_gr ph pa ch sz 0 pp).2.1) ((wt_gr ph pa ch sz 0 pp).2.2.1) ((wt_gr ph pa ch sz 0 pp).2.2.2.1) ((wt_gr ph pa ch sz 0 pp).2.2.2.2) qq).2.2.2.1) ((wt_gr ((wt_gr ph pa ch sz 0 pp).1) ((wt_gr ph pa ch sz 0 pp).2.1) ((wt_gr ph pa ch sz 0 pp).2.2.1) ((wt_gr ph pa ch sz 0 pp).2.2.2.1) ((wt_gr ph pa ch sz 0 pp).2.2.2.2) qq).2.2.2.2) rr).2.2.2.2))), (0, .ref (q 1)), (1, .int (nI ww)), (2, .int (nI pp)), (3, .int (nI qq)), (4, .int (nI rr))]) hx hb dT_add_36 hl (by decide) rfl (fun ls hl => ?_)
      refine lv_aload_n hx hb dT_add_38 rfl (lv_at hl 1 rfl) ?_
      refine va_get (D := (dC, dI)) (ci := 1) (v := .ref (q 5)) (C := RT) (T := TT) (N := 6) hx hb ht inT hown hK hP 1 rfl rfl 3 (by decide) (ht _ m_27) (fun _ h9 => h9) rfl dT_add_39 ?_
      refine lv_iload hx hb dT_add_42 (lv_at hl 0 rfl) ?_
      refine lv_iconst (v := nI 4) hx hb dT_add_44 (by decide) ?_
      refine wt_imul hx hb dT_add_45 ?_
      refine lv_iload_n hx hb dT_add_46 rfl (lv_at hl 2 rfl) ?_
      refine wt_iadd hx hb dT_add_47 ?_
      refine lv_iconst (v := nI 1) hx hb dT_add_48 (by decide) ?_
      rw [show (.int (nI 1) : Value) = .int (wt_bI true) from rfl]
      refine wt_zast hx hb hK hP hD hS 5 1 rfl rfl (k := ((wt_gr ((wt_gr ((wt_gr ph pa ch sz 0 pp).1) ((wt_gr ph pa ch sz 0 pp).2.1) ((wt_gr ph pa ch sz 0 pp).2.2.1) ((wt_gr ph pa ch sz 0 pp).2.2.2.1) ((wt_gr ph pa ch sz 0 pp).2.2.2.2) qq).1) ((wt_gr ((wt_gr ph pa ch sz 0 pp).1) ((wt_gr ph pa ch sz 0 pp).2.1) ((wt_gr ph pa ch sz 0 pp).2.2.1) ((wt_gr ph pa ch sz 0 pp).2.2.2.1) ((wt_gr ph pa ch sz 0 pp).2.2.2.2) qq).2.1) ((wt_gr ((wt_gr ph pa ch sz 0 pp).1) ((wt_gr ph pa ch sz 0 pp).2.1) ((wt_gr ph pa ch sz 0 pp).2.2.1) ((wt_gr ph pa ch sz 0 pp).2.2.2.1) ((wt_gr ph pa ch sz 0 pp).2.2.2.2) qq).2.2.1) ((wt_gr ((wt_gr ph pa ch sz 0 pp).1) ((wt_gr ph pa ch sz 0 pp).2.1) ((wt_gr ph pa ch sz 0 pp).2.2.1) ((wt_gr ph pa ch sz 0 pp).2.2.2.1) ((wt_gr ph pa ch sz 0 pp).2.2.2.2) qq).2.2.2.1) ((wt_gr ((wt_gr ph pa ch sz 0 pp).1) ((wt_gr ph pa ch sz 0 pp).2.1) ((wt_gr ph pa ch sz 0 pp).2.2.1) ((wt_gr ph pa ch sz 0 pp).2.2.2.1) ((wt_gr ph pa ch sz 0 pp).2.2.2.2) qq).2.2.2.2) rr).2.2.2.2) * 4 + ww) (by omega) (by decide) dT_add_49 (fun H locs hP hD hS => ?_)
      have hP : va_P (dC, dI) vwCl (wX cI cZ cL q ((wt_gr ((wt_gr ((wt_gr ph pa ch sz 0 pp).1) ((wt_gr ph pa ch sz 0 pp).2.1) ((wt_gr ph pa ch sz 0 pp).2.2.1) ((wt_gr ph pa ch sz 0 pp).2.2.2.1) ((wt_gr ph pa ch sz 0 pp).2.2.2.2) qq).1) ((wt_gr ((wt_gr ph pa ch sz 0 pp).1) ((wt_gr ph pa ch sz 0 pp).2.1) ((wt_gr ph pa ch sz 0 pp).2.2.1) ((wt_gr ph pa ch sz 0 pp).2.2.2.1) ((wt_gr ph pa ch sz 0 pp).2.2.2.2) qq).2.1) ((wt_gr ((wt_gr ph pa ch sz 0 pp).1) ((wt_gr ph pa ch sz 0 pp).2.1) ((wt_gr ph pa ch sz 0 pp).2.2.1) ((wt_gr ph pa ch sz 0 pp).2.2.2.1) ((wt_gr ph pa ch sz 0 pp).2.2.2.2) qq).2.2.1) ((wt_gr ((wt_gr ph pa ch sz 0 pp).1) ((wt_gr ph pa ch sz 0 pp).2.1) ((wt_gr ph pa ch sz 0 pp).2.2.1) ((wt_gr ph pa ch sz 0 pp).2.2.2.1) ((wt_gr ph pa ch sz 0 pp).2.2.2.2) qq).2.2.2.1) ((wt_gr ((wt_gr ph pa ch sz 0 pp).1) ((wt_gr ph pa ch sz 0 pp).2.1) ((wt_gr ph pa ch sz 0 pp).2.2.1) ((wt_gr ph pa ch sz 0 pp).2.2.2.1) ((wt_gr ph pa ch sz 0 pp).2.2.2.2) qq).2.2.2.2) rr).1) ((wt_gr ((wt_gr ((wt_gr ph pa ch sz 0 pp).1) ((wt_gr ph pa ch sz 0 pp).2.1) ((wt_gr ph pa ch sz 0 pp).2.2.1) ((wt_gr ph pa ch sz 0 pp).2.2.2.1) ((wt_gr ph pa ch sz 0 pp).2.2.2.2) qq).1) ((wt_gr ((wt_gr ph pa ch sz 0 pp).1) ((wt_gr ph pa ch sz 0 pp).2.1) ((wt_gr ph pa ch sz 0 pp).2.2.1) ((wt_gr ph pa ch sz 0 pp).2.2.2.1) ((wt_gr ph pa ch sz 0 pp).2.2.2.2) qq).2.1) ((wt_gr ((wt_gr ph pa ch sz 0 pp).1) ((wt_gr ph pa ch sz 0 pp).2.1) ((wt_gr ph pa ch sz 0 pp).2.2.1) ((wt_gr ph pa ch sz 0 pp).2.2.2.1) ((wt_gr ph pa ch sz 0 pp).2.2.2.2) qq).2.2.1) ((wt_gr ((wt_gr ph pa ch sz 0 pp).1) ((wt_gr ph pa ch sz 0 pp).2.1) ((wt_gr ph pa ch sz 0 pp).2.2.1) ((wt_gr ph pa ch sz 0 pp).2.2.2.1) ((wt_gr ph pa ch sz 0 pp).2.2.2.2) qq).2.2.2.1) ((wt_gr ((wt_gr ph pa ch sz 0 pp).1) ((wt_gr ph pa ch sz 0 pp).2.1) ((wt_gr ph pa ch sz 0 pp).2.2.1) ((wt_gr ph pa ch sz 0 pp).2.2.2.1) ((wt_gr ph pa ch sz 0 pp).2.2.2.2) qq).2.2.2.2) rr).2.1) ((wt_gr ((wt_gr ((wt_gr ph pa ch sz 0 pp).1) ((wt_gr ph pa ch sz 0 pp).2.1) ((wt_gr ph pa ch sz 0 pp).2.2.1) ((wt_gr ph pa ch sz 0 pp).2.2.2.1) ((wt_gr ph pa ch sz 0 pp).2.2.2.2) qq).1) ((wt_gr ((wt_gr ph pa ch sz 0 pp).1) ((wt_gr ph pa ch sz 0 pp).2.1) ((wt_gr ph pa ch sz 0 pp).2.2.1) ((wt_gr ph pa ch sz 0 pp).2.2.2.1) ((wt_gr ph pa ch sz 0 pp).2.2.2.2) qq).2.1) ((wt_gr ((wt_gr ph pa ch sz 0 pp).1) ((wt_gr ph pa ch sz 0 pp).2.1) ((wt_gr ph pa ch sz 0 pp).2.2.1) ((wt_gr ph pa ch sz 0 pp).2.2.2.1) ((wt_gr ph pa ch sz 0 pp).2.2.2.2) qq).2.2.1) ((wt_gr ((wt_gr ph pa ch sz 0 pp).1) ((wt_gr ph pa ch sz 0 pp).2.1) ((wt_gr ph pa ch sz 0 pp).2.2.1) ((wt_gr ph pa ch sz 0 pp).2.2.2.1) ((wt_gr ph pa ch sz 0 pp).2.2.2.2) qq).2.2.2.1) ((wt_gr ((wt_gr ph pa ch sz 0 pp).1) ((wt_gr ph pa ch sz 0 pp).2.1) ((wt_gr ph pa ch sz 0 pp).2.2.1) ((wt_gr ph pa ch sz 0 pp).2.2.2.1) ((wt_gr ph pa ch sz 0 pp).2.2.2.2) qq).2.2.2.2) rr).2.2.1) (va_up en (((wt_gr ((wt_gr ((wt_gr ph pa ch sz 0 pp).1) ((wt_gr ph pa ch sz 0 pp).2.1) ((wt_gr ph pa ch sz 0 pp).2.2.1) ((wt_gr ph pa ch sz 0 pp).2.2.2.1) ((wt_gr ph pa ch sz 0 pp).2.2.2.2) qq).1) ((wt_gr ((wt_gr ph pa ch sz 0 pp).1) ((wt_gr ph pa ch sz 0 pp).2.1) ((wt_gr ph pa ch sz 0 pp).2.2.1) ((wt_gr ph pa ch sz 0 pp).2.2.2.1) ((wt_gr ph pa ch sz 0 pp).2.2.2.2) qq).2.1) ((wt_gr ((wt_gr ph pa ch sz 0 pp).1) ((wt_gr ph pa ch sz 0 pp).2.1) ((wt_gr ph pa ch sz 0 pp).2.2.1) ((wt_gr ph pa ch sz 0 pp).2.2.2.1) ((wt_gr ph pa ch sz 0 pp).2.2.2.2) qq).2.2.1) ((wt_gr ((wt_gr ph pa ch sz 0 pp).1) ((wt_gr ph pa ch sz 0 pp).2.1) ((wt_gr ph pa ch sz 0 pp).2.2.1) ((wt_gr ph pa ch sz 0 pp).2.2.2.1) ((wt_gr ph pa ch sz 0 pp).2.2.2.2) qq).2.2.2.1) ((wt_gr ((wt_gr ph pa ch sz 0 pp).1) ((wt_gr ph pa ch sz 0 pp).2.1) ((wt_gr ph pa ch sz 0 pp).2.2.1) ((wt_gr ph pa ch sz 0 pp).2.2.2.1) ((wt_gr ph pa ch sz 0 pp).2.2.2.2) qq).2.2.2.2) rr).2.2.2.2) * 4 + ww) true) ((wt_gr ((wt_gr ((wt_gr ph pa ch sz 0 pp).1) ((wt_gr ph pa ch sz 0 pp).2.1) ((wt_gr ph pa ch sz 0 pp).2.2.1) ((wt_gr ph pa ch sz 0 pp).2.2.2.1) ((wt_gr ph pa ch sz 0 pp).2.2.2.2) qq).1) ((wt_gr ((wt_gr ph pa ch sz 0 pp).1) ((wt_gr ph pa ch sz 0 pp).2.1) ((wt_gr ph pa ch sz 0 pp).2.2.1) ((wt_gr ph pa ch sz 0 pp).2.2.2.1) ((wt_gr ph pa ch sz 0 pp).2.2.2.2) qq).2.1) ((wt_gr ((wt_gr ph pa ch sz 0 pp).1) ((wt_gr ph pa ch sz 0 pp).2.1) ((wt_gr ph pa ch sz 0 pp).2.2.1) ((wt_gr ph pa ch sz 0 pp).2.2.2.1) ((wt_gr ph pa ch sz 0 pp).2.2.2.2) qq).2.2.1) ((wt_gr ((wt_gr ph pa ch sz 0 pp).1) ((wt_gr ph pa ch sz 0 pp).2.1) ((wt_gr ph pa ch sz 0 pp).2.2.1) ((wt_gr ph pa ch sz 0 pp).2.2.2.1) ((wt_gr ph pa ch sz 0 pp).2.2.2.2) qq).2.2.2.1) ((wt_gr ((wt_gr ph pa ch sz 0 pp).1) ((wt_gr ph pa ch sz 0 pp).2.1) ((wt_gr ph pa ch sz 0 pp).2.2.1) ((wt_gr ph pa ch sz 0 pp).2.2.2.1) ((wt_gr ph pa ch sz 0 pp).2.2.2.2) qq).2.2.2.2) rr).2.2.2.1) pr gc gb sc sh sl ct tok wt pn lt wp sd) H := hP
      have hD : va_D A (wX cI cZ cL q ((wt_gr ((wt_gr ((wt_gr ph pa ch sz 0 pp).1) ((wt_gr ph pa ch sz 0 pp).2.1) ((wt_gr ph pa ch sz 0 pp).2.2.1) ((wt_gr ph pa ch sz 0 pp).2.2.2.1) ((wt_gr ph pa ch sz 0 pp).2.2.2.2) qq).1) ((wt_gr ((wt_gr ph pa ch sz 0 pp).1) ((wt_gr ph pa ch sz 0 pp).2.1) ((wt_gr ph pa ch sz 0 pp).2.2.1) ((wt_gr ph pa ch sz 0 pp).2.2.2.1) ((wt_gr ph pa ch sz 0 pp).2.2.2.2) qq).2.1) ((wt_gr ((wt_gr ph pa ch sz 0 pp).1) ((wt_gr ph pa ch sz 0 pp).2.1) ((wt_gr ph pa ch sz 0 pp).2.2.1) ((wt_gr ph pa ch sz 0 pp).2.2.2.1) ((wt_gr ph pa ch sz 0 pp).2.2.2.2) qq).2.2.1) ((wt_gr ((wt_gr ph pa ch sz 0 pp).1) ((wt_gr ph pa ch sz 0 pp).2.1) ((wt_gr ph pa ch sz 0 pp).2.2.1) ((wt_gr ph pa ch sz 0 pp).2.2.2.1) ((wt_gr ph pa ch sz 0 pp).2.2.2.2) qq).2.2.2.1) ((wt_gr ((wt_gr ph pa ch sz 0 pp).1) ((wt_gr ph pa ch sz 0 pp).2.1) ((wt_gr ph pa ch sz 0 pp).2.2.1) ((wt_gr ph pa ch sz 0 pp).2.2.2.1) ((wt_gr ph pa ch sz 0 pp).2.2.2.2) qq).2.2.2.2) rr).1) ((wt_gr ((wt_gr ((wt_gr ph pa ch sz 0 pp).1) ((wt_gr ph pa ch sz 0 pp).2.1) ((wt_gr ph pa ch sz 0 pp).2.2.1) ((wt_gr ph pa ch sz 0 pp).2.2.2.1) ((wt_gr ph pa ch sz 0 pp).2.2.2.2) qq).1) ((wt_gr ((wt_gr ph pa ch sz 0 pp).1) ((wt_gr ph pa ch sz 0 pp).2.1) ((wt_gr ph pa ch sz 0 pp).2.2.1) ((wt_gr ph pa ch sz 0 pp).2.2.2.1) ((wt_gr ph pa ch sz 0 pp).2.2.2.2) qq).2.1) ((wt_gr ((wt_gr ph pa ch sz 0 pp).1) ((wt_gr ph pa ch sz 0 pp).2.1) ((wt_gr ph pa ch sz 0 pp).2.2.1) ((wt_gr ph pa ch sz 0 pp).2.2.2.1) ((wt_gr ph pa ch sz 0 pp).2.2.2.2) qq).2.2.1) ((wt_gr ((wt_gr ph pa ch sz 0 pp).1) ((wt_gr ph pa ch sz 0 pp).2.1) ((wt_gr ph pa ch sz 0 pp).2.2.1) ((wt_gr ph pa ch sz 0 pp).2.2.2.1) ((wt_gr ph pa ch sz 0 pp).2.2.2.2) qq).2.2.2.1) ((wt_gr ((wt_gr ph pa ch sz 0 pp).1) ((wt_gr ph pa ch sz 0 pp).2.1) ((wt_gr ph pa ch sz 0 pp).2.2.1) ((wt_gr ph pa ch sz 0 pp).2.2.2.1) ((wt_gr ph pa ch sz 0 pp).2.2.2.2) qq).2.2.2.2) rr).2.1) ((wt_gr ((wt_gr ((wt_gr ph pa ch sz 0 pp).1) ((wt_gr ph pa ch sz 0 pp).2.1) ((wt_gr ph pa ch sz 0 pp).2.2.1) ((wt_gr ph pa ch sz 0 pp).2.2.2.1) ((wt_gr ph pa ch sz 0 pp).2.2.2.2) qq).1) ((wt_gr ((wt_gr ph pa ch sz 0 pp).1) ((wt_gr ph pa ch sz 0 pp).2.1) ((wt_gr ph pa ch sz 0 pp).2.2.1) ((wt_gr ph pa ch sz 0 pp).2.2.2.1) ((wt_gr ph pa ch sz 0 pp).2.2.2.2) qq).2.1) ((wt_gr ((wt_gr ph pa ch sz 0 pp).1) ((wt_gr ph pa ch sz 0 pp).2.1) ((wt_gr ph pa ch sz 0 pp).2.2.1) ((wt_gr ph pa ch sz 0 pp).2.2.2.1) ((wt_gr ph pa ch sz 0 pp).2.2.2.2) qq).2.2.1) ((wt_gr ((wt_gr ph pa ch sz 0 pp).1) ((wt_gr ph pa ch sz 0 pp).2.1) ((wt_gr ph pa ch sz 0 pp).2.2.1) ((wt_gr ph pa ch sz 0 pp).2.2.2.1) ((wt_gr ph pa ch sz 0 pp).2.2.2.2) qq).2.2.2.1) ((wt_gr ((wt_gr ph pa ch sz 0 pp).1) ((wt_gr ph pa ch sz 0 pp).2.1) ((wt_gr ph pa ch sz 0 pp).2.2.1) ((wt_gr ph pa ch sz 0 pp).2.2.2.1) ((wt_gr ph pa ch sz 0 pp).2.2.2.2) qq).2.2.2.2) rr).2.2.1) (va_up en (((wt_gr ((wt_gr ((wt_gr ph pa ch sz 0 pp).1) ((wt_gr ph pa ch sz 0 pp).2.1) ((wt_gr ph pa ch sz 0 pp).2.2.1) ((wt_gr ph pa ch sz 0 pp).2.2.2.1) ((wt_gr ph pa ch sz 0 pp).2.2.2.2) qq).1) ((wt_gr ((wt_gr ph pa ch sz 0 pp).1) ((wt_gr ph pa ch sz 0 pp).2.1) ((wt_gr ph pa ch sz 0 pp).2.2.1) ((wt_gr ph pa ch sz 0 pp).2.2.2.1) ((wt_gr ph pa ch sz 0 pp).2.2.2.2) qq).2.1) ((wt_gr ((wt_gr ph pa ch sz 0 pp).1) ((wt_gr ph pa ch sz 0 pp).2.1) ((wt_gr ph pa ch sz 0 pp).2.2.1) ((wt_gr ph pa ch sz 0 pp).2.2.2.1) ((wt_gr ph pa ch sz 0 pp).2.2.2.2) qq).2.2.1) ((wt_gr ((wt_gr ph pa ch sz 0 pp).1) ((wt_gr ph pa ch sz 0 pp).2.1) ((wt_gr ph pa ch sz 0 pp).2.2.1) ((wt_gr ph pa ch sz 0 pp).2.2.2.1) ((wt_gr ph pa ch sz 0 pp).2.2.2.2) qq).2.2.2.1) ((wt_gr ((wt_gr ph pa ch sz 0 pp).1) ((wt_gr ph pa ch sz 0 pp).2.1) ((wt_gr ph pa ch sz 0 pp).2.2.1) ((wt_gr ph pa ch sz 0 pp).2.2.2.1) ((wt_gr ph pa ch sz 0 pp).2.2.2.2) qq).2.2.2.2) rr).2.2.2.2) * 4 + ww) true) ((wt_gr ((wt_gr ((wt_gr ph pa ch sz 0 pp).1) ((wt_gr ph pa ch sz 0 pp).2.1) ((wt_gr ph pa ch sz 0 pp).2.2.1) ((wt_gr ph pa ch sz 0 pp).2.2.2.1) ((wt_gr ph pa ch sz 0 pp).2.2.2.2) qq).1) ((wt_gr ((wt_gr ph pa ch sz 0 pp).1) ((wt_gr ph pa ch sz 0 pp).2.1) ((wt_gr ph pa ch sz 0 pp).2.2.1) ((wt_gr ph pa ch sz 0 pp).2.2.2.1) ((wt_gr ph pa ch sz 0 pp).2.2.2.2) qq).2.1) ((wt_gr ((wt_gr ph pa ch sz 0 pp).1) ((wt_gr ph pa ch sz 0 pp).2.1) ((wt_gr ph pa ch sz 0 pp).2.2.1) ((wt_gr ph pa ch sz 0 pp).2.2.2.1) ((wt_gr ph pa ch sz 0 pp).2.2.2.2) qq).2.2.1) ((wt_gr ((wt_gr ph pa ch sz 0 pp).1) ((wt_gr ph pa ch sz 0 pp).2.1) ((wt_gr ph pa ch sz 0 pp).2.2.1) ((wt_gr ph pa ch sz 0 pp).2.2.2.1) ((wt_gr ph pa ch sz 0 pp).2.2.2.2) qq).2.2.2.1) ((wt_gr ((wt_gr ph pa ch sz 0 pp).1) ((wt_gr ph pa ch sz 0 pp).2.1) ((wt_gr ph pa ch sz 0 pp).2.2.1) ((wt_gr ph pa ch sz 0 pp).2.2.2.1) ((wt_gr ph pa ch sz 0 pp).2.2.2.2) qq).2.2.2.2) rr).2.2.2.1) pr gc gb sc sh sl ct tok wt pn lt wp sd) := hD
      refine lv_aload_n hx hb dT_add_50 rfl (lv_at hl 1 rfl) ?_
      refine lv_dup hx hb dT_add_51 rfl ?_
      refine va_get (D := (dC, dI)) (ci := 1) (v := .int (nI pr)) (C := RT) (T := TT) (N := 6) hx hb ht inT hown hK hP 1 rfl rfl 5 (by decide) (ht _ m_29) (fun _ h9 => h9) rfl dT_add_52 ?_
      refine lv_iconst (v := nI 1) hx hb dT_add_55 (by decide) ?_
      refine wt_iadd hx hb dT_add_56 ?_
      refine va_put (D := (dC, dI)) (ci := 1) (v := .int (nI (pr + 1))) (ty := .int) (C := RT) (T := TT) (N := 6) hx hb ht inT tyT tyT_ok nmT hown hK hP hD hS 1 rfl rfl 5 (by decide) (ht _ m_29) (fun _ h9 => h9) rfl (by decide +kernel) rfl rfl (Nat.le_of_ble_eq_true rfl) dT_add_57 (fun H locs hP hD hS => ?_)
      have hP : va_P (dC, dI) vwCl (wX cI cZ cL q ((wt_gr ((wt_gr ((wt_gr ph pa ch sz 0 pp).1) ((wt_gr ph pa ch sz 0 pp).2.1) ((wt_gr ph pa ch sz 0 pp).2.2.1) ((wt_gr ph pa ch sz 0 pp).2.2.2.1) ((wt_gr ph pa ch sz 0 pp).2.2.2.2) qq).1) ((wt_gr ((wt_gr ph pa ch sz 0 pp).1) ((wt_gr ph pa ch sz 0 pp).2.1) ((wt_gr ph pa ch sz 0 pp).2.2.1) ((wt_gr ph pa ch sz 0 pp).2.2.2.1) ((wt_gr ph pa ch sz 0 pp).2.2.2.2) qq).2.1) ((wt_gr ((wt_gr ph pa ch sz 0 pp).1) ((wt_gr ph pa ch sz 0 pp).2.1) ((wt_gr ph pa ch sz 0 pp).2.2.1) ((wt_gr ph pa ch sz 0 pp).2.2.2.1) ((wt_gr ph pa ch sz 0 pp).2.2.2.2) qq).2.2.1) ((wt_gr ((wt_gr ph pa ch sz 0 pp).1) ((wt_gr ph pa ch sz 0 pp).2.1) ((wt_gr ph pa ch sz 0 pp).2.2.1) ((wt_gr ph pa ch sz 0 pp).2.2.2.1) ((wt_gr ph pa ch sz 0 pp).2.2.2.2) qq).2.2.2.1) ((wt_gr ((wt_gr ph pa ch sz 0 pp).1) ((wt_gr ph pa ch sz 0 pp).2.1) ((wt_gr ph pa ch sz 0 pp).2.2.1) ((wt_gr ph pa ch sz 0 pp).2.2.2.1) ((wt_gr ph pa ch sz 0 pp).2.2.2.2) qq).2.2.2.2) rr).1) ((wt_gr ((wt_gr ((wt_gr ph pa ch sz 0 pp).1) ((wt_gr ph pa ch sz 0 pp).2.1) ((wt_gr ph pa ch sz 0 pp).2.2.1) ((wt_gr ph pa ch sz 0 pp).2.2.2.1) ((wt_gr ph pa ch sz 0 pp).2.2.2.2) qq).1) ((wt_gr ((wt_gr ph pa ch sz 0 pp).1) ((wt_gr ph pa ch sz 0 pp).2.1) ((wt_gr ph pa ch sz 0 pp).2.2.1) ((wt_gr ph pa ch sz 0 pp).2.2.2.1) ((wt_gr ph pa ch sz 0 pp).2.2.2.2) qq).2.1) ((wt_gr ((wt_gr ph pa ch sz 0 pp).1) ((wt_gr ph pa ch sz 0 pp).2.1) ((wt_gr ph pa ch sz 0 pp).2.2.1) ((wt_gr ph pa ch sz 0 pp).2.2.2.1) ((wt_gr ph pa ch sz 0 pp).2.2.2.2) qq).2.2.1) ((wt_gr ((wt_gr ph pa ch sz 0 pp).1) ((wt_gr ph pa ch sz 0 pp).2.1) ((wt_gr ph pa ch sz 0 pp).2.2.1) ((wt_gr ph pa ch sz 0 pp).2.2.2.1) ((wt_gr ph pa ch sz 0 pp).2.2.2.2) qq).2.2.2.1) ((wt_gr ((wt_gr ph pa ch sz 0 pp).1) ((wt_gr ph pa ch sz 0 pp).2.1) ((wt_gr ph pa ch sz 0 pp).2.2.1) ((wt_gr ph pa ch sz 0 pp).2.2.2.1) ((wt_gr ph pa ch sz 0 pp).2.2.2.2) qq).2.2.2.2) rr).2.1) ((wt_gr ((wt_gr ((wt_gr ph pa ch sz 0 pp).1) ((wt_gr ph pa ch sz 0 pp).2.1) ((wt_gr ph pa ch sz 0 pp).2.2.1) ((wt_gr ph pa ch sz 0 pp).2.2.2.1) ((wt_gr ph pa ch sz 0 pp).2.2.2.2) qq).1) ((wt_gr ((wt_gr ph pa ch sz 0 pp).1) ((wt_gr ph pa ch sz 0 pp).2.1) ((wt_gr ph pa ch sz 0 pp).2.2.1) ((wt_gr ph pa ch sz 0 pp).2.2.2.1) ((wt_gr ph pa ch sz 0 pp).2.2.2.2) qq).2.1) ((wt_gr ((wt_gr ph pa ch sz 0 pp).1) ((wt_gr ph pa ch sz 0 pp).2.1) ((wt_gr ph pa ch sz 0 pp).2.2.1) ((wt_gr ph pa ch sz 0 pp).2.2.2.1) ((wt_gr ph pa ch sz 0 pp).2.2.2.2) qq).2.2.1) ((wt_gr ((wt_gr ph pa ch sz 0 pp).1) ((wt_gr ph pa ch sz 0 pp).2.1) ((wt_gr ph pa ch sz 0 pp).2.2.1) ((wt_gr ph pa ch sz 0 pp).2.2.2.1) ((wt_gr ph pa ch sz 0 pp).2.2.2.2) qq).2.2.2.1) ((wt_gr ((wt_gr ph pa ch sz 0 pp).1) ((wt_gr ph pa ch sz 0 pp).2.1) ((wt_gr ph pa ch sz 0 pp).2.2.1) ((wt_gr ph pa ch sz 0 pp).2.2.2.1) ((wt_gr ph pa ch sz 0 pp).2.2.2.2) qq).2.2.2.2) rr).2.2.1) (va_up en (((wt_gr ((wt_gr ((wt_gr ph pa ch sz 0 pp).1) ((wt_gr ph pa ch sz 0 pp).2.1) ((wt_gr ph pa ch sz 0 pp).2.2.1) ((wt_gr ph pa ch sz 0 pp).2.2.2.1) ((wt_gr ph pa ch sz 0 pp).2.2.2.2) qq).1) ((wt_gr ((wt_gr ph pa ch sz 0 pp).1) ((wt_gr ph pa ch sz 0 pp).2.1) ((wt_gr ph pa ch sz 0 pp).2.2.1) ((wt_gr ph pa ch sz 0 pp).2.2.2.1) ((wt_gr ph pa ch sz 0 pp).2.2.2.2) qq).2.1) ((wt_gr ((wt_gr ph pa ch sz 0 pp).1) ((wt_gr ph pa ch sz 0 pp).2.1) ((wt_gr ph pa ch sz 0 pp).2.2.1) ((wt_gr ph pa ch sz 0 pp).2.2.2.1) ((wt_gr ph pa ch sz 0 pp).2.2.2.2) qq).2.2.1) ((wt_gr ((wt_gr ph pa ch sz 0 pp).1) ((wt_gr ph pa ch sz 0 pp).2.1) ((wt_gr ph pa ch sz 0 pp).2.2.1) ((wt_gr ph pa ch sz 0 pp).2.2.2.1) ((wt_gr ph pa ch sz 0 pp).2.2.2.2) qq).2.2.2.1) ((wt_gr ((wt_gr ph pa ch sz 0 pp).1) ((wt_gr ph pa ch sz 0 pp).2.1) ((wt_gr ph pa ch sz 0 pp).2.2.1) ((wt_gr ph pa ch sz 0 pp).2.2.2.1) ((wt_gr ph pa ch sz 0 pp).2.2.2.2) qq).2.2.2.2) rr).2.2.2.2) * 4 + ww) true) ((wt_gr ((wt_gr ((wt_gr ph pa ch sz 0 pp).1) ((wt_gr ph pa ch sz 0 pp).2.1) ((wt_gr ph pa ch sz 0 pp).2.2.1) ((wt_gr ph pa ch sz 0 pp).2.2.2.1) ((wt_gr ph pa ch sz 0 pp).2.2.2.2) qq).1) ((wt_gr ((wt_gr ph pa ch sz 0 pp).1) ((wt_gr ph pa ch sz 0 pp).2.1) ((wt_gr ph pa ch sz 0 pp).2.2.1) ((wt_gr ph pa ch sz 0 pp).2.2.2.1) ((wt_gr ph pa ch sz 0 pp).2.2.2.2) qq).2.1) ((wt_gr ((wt_gr ph pa ch sz 0 pp).1) ((wt_gr ph pa ch sz 0 pp).2.1) ((wt_gr ph pa ch sz 0 pp).2.2.1) ((wt_gr ph pa ch sz 0 pp).2.2.2.1) ((wt_gr ph pa ch sz 0 pp).2.2.2.2) qq).2.2.1) ((wt_gr ((wt_gr ph pa ch sz 0 pp).1) ((wt_gr ph pa ch sz 0 pp).2.1) ((wt_gr ph pa ch sz 0 pp).2.2.1) ((wt_gr ph pa ch sz 0 pp).2.2.2.1) ((wt_gr ph pa ch sz 0 pp).2.2.2.2) qq).2.2.2.1) ((wt_gr ((wt_gr ph pa ch sz 0 pp).1) ((wt_gr ph pa ch sz 0 pp).2.1) ((wt_gr ph pa ch sz 0 pp).2.2.1) ((wt_gr ph pa ch sz 0 pp).2.2.2.1) ((wt_gr ph pa ch sz 0 pp).2.2.2.2) qq).2.2.2.2) rr).2.2.2.1) (pr + 1) gc gb sc sh sl ct tok wt pn lt wp sd) H := hP
      have hD : va_D A (wX cI cZ cL q ((wt_gr ((wt_gr ((wt_gr ph pa ch sz 0 pp).1) ((wt_gr ph pa ch sz 0 pp).2.1) ((wt_gr ph pa ch sz 0 pp).2.2.1) ((wt_gr ph pa ch sz 0 pp).2.2.2.1) ((wt_gr ph pa ch sz 0 pp).2.2.2.2) qq).1) ((wt_gr ((wt_gr ph pa ch sz 0 pp).1) ((wt_gr ph pa ch sz 0 pp).2.1) ((wt_gr ph pa ch sz 0 pp).2.2.1) ((wt_gr ph pa ch sz 0 pp).2.2.2.1) ((wt_gr ph pa ch sz 0 pp).2.2.2.2) qq).2.1) ((wt_gr ((wt_gr ph pa ch sz 0 pp).1) ((wt_gr ph pa ch sz 0 pp).2.1) ((wt_gr ph pa ch sz 0 pp).2.2.1) ((wt_gr ph pa ch sz 0 pp).2.2.2.1) ((wt_gr ph pa ch sz 0 pp).2.2.2.2) qq).2.2.1) ((wt_gr ((wt_gr ph pa ch sz 0 pp).1) ((wt_gr ph pa ch sz 0 pp).2.1) ((wt_gr ph pa ch sz 0 pp).2.2.1) ((wt_gr ph pa ch sz 0 pp).2.2.2.1) ((wt_gr ph pa ch sz 0 pp).2.2.2.2) qq).2.2.2.1) ((wt_gr ((wt_gr ph pa ch sz 0 pp).1) ((wt_gr ph pa ch sz 0 pp).2.1) ((wt_gr ph pa ch sz 0 pp).2.2.1) ((wt_gr ph pa ch sz 0 pp).2.2.2.1) ((wt_gr ph pa ch sz 0 pp).2.2.2.2) qq).2.2.2.2) rr).1) ((wt_gr ((wt_gr ((wt_gr ph pa ch sz 0 pp).1) ((wt_gr ph pa ch sz 0 pp).2.1) ((wt_gr ph pa ch sz 0 pp).2.2.1) ((wt_gr ph pa ch sz 0 pp).2.2.2.1) ((wt_gr ph pa ch sz 0 pp).2.2.2.2) qq).1) ((wt_gr ((wt_gr ph pa ch sz 0 pp).1) ((wt_gr ph pa ch sz 0 pp).2.1) ((wt_gr ph pa ch sz 0 pp).2.2.1) ((wt_gr ph pa ch sz 0 pp).2.2.2.1) ((wt_gr ph pa ch sz 0 pp).2.2.2.2) qq).2.1) ((wt_gr ((wt_gr ph pa ch sz 0 pp).1) ((wt_gr ph pa ch sz 0 pp).2.1) ((wt_gr ph pa ch sz 0 pp).2.2.1) ((wt_gr ph pa ch sz 0 pp).2.2.2.1) ((wt_gr ph pa ch sz 0 pp).2.2.2.2) qq).2.2.1) ((wt_gr ((wt_gr ph pa ch sz 0 pp).1) ((wt_gr ph pa ch sz 0 pp).2.1) ((wt_gr ph pa ch sz 0 pp).2.2.1) ((wt_gr ph pa ch sz 0 pp).2.2.2.1) ((wt_gr ph pa ch sz 0 pp).2.2.2.2) qq).2.2.2.1) ((wt_gr ((wt_gr ph pa ch sz 0 pp).1) ((wt_gr ph pa ch sz 0 pp).2.1) ((wt_gr ph pa ch sz 0 pp).2.2.1) ((wt_gr ph pa ch sz 0 pp).2.2.2.1) ((wt_gr ph pa ch sz 0 pp).2.2.2.2) qq).2.2.2.2) rr).2.1) ((wt_gr ((wt_gr ((wt_gr ph pa ch sz 0 pp).1) ((wt_gr ph pa ch sz 0 pp).2.1) ((wt_gr ph pa ch sz 0 pp).2.2.1) ((wt_gr ph pa ch sz 0 pp).2.2.2.1) ((wt_gr ph pa ch sz 0 pp).2.2.2.2) qq).1) ((wt_gr ((wt_gr ph pa ch sz 0 pp).1) ((wt_gr ph pa ch sz 0 pp).2.1) ((wt_gr ph pa ch sz 0 pp).2.2.1) ((wt_gr ph pa ch sz 0 pp).2.2.2.1) ((wt_gr ph pa ch sz 0 pp).2.2.2.2) qq).2.1) ((wt_gr ((wt_gr ph pa ch sz 0 pp).1) ((wt_gr ph pa ch sz 0 pp).2.1) ((wt_gr ph pa ch sz 0 pp).2.2.1) ((wt_gr ph pa ch sz 0 pp).2.2.2.1) ((wt_gr ph pa ch sz 0 pp).2.2.2.2) qq).2.2.1) ((wt_gr ((wt_gr ph pa ch sz 0 pp).1) ((wt_gr ph pa ch sz 0 pp).2.1) ((wt_gr ph pa ch sz 0 pp).2.2.1) ((wt_gr ph pa ch sz 0 pp).2.2.2.1) ((wt_gr ph pa ch sz 0 pp).2.2.2.2) qq).2.2.2.1) ((wt_gr ((wt_gr ph pa ch sz 0 pp).1) ((wt_gr ph pa ch sz 0 pp).2.1) ((wt_gr ph pa ch sz 0 pp).2.2.1) ((wt_gr ph pa ch sz 0 pp).2.2.2.1) ((wt_gr ph pa ch sz 0 pp).2.2.2.2) qq).2.2.2.2) rr).2.2.1) (va_up en (((wt_gr ((wt_gr ((wt_gr ph pa ch sz 0 pp).1) ((wt_gr ph pa ch sz 0 pp).2.1) ((wt_gr ph pa ch sz 0 pp).2.2.1) ((wt_gr ph pa ch sz 0 pp).2.2.2.1) ((wt_gr ph pa ch sz 0 pp).2.2.2.2) qq).1) ((wt_gr ((wt_gr ph pa ch sz 0 pp).1) ((wt_gr ph pa ch sz 0 pp).2.1) ((wt_gr ph pa ch sz 0 pp).2.2.1) ((wt_gr ph pa ch sz 0 pp).2.2.2.1) ((wt_gr ph pa ch sz 0 pp).2.2.2.2) qq).2.1) ((wt_gr ((wt_gr ph pa ch sz 0 pp).1) ((wt_gr ph pa ch sz 0 pp).2.1) ((wt_gr ph pa ch sz 0 pp).2.2.1) ((wt_gr ph pa ch sz 0 pp).2.2.2.1) ((wt_gr ph pa ch sz 0 pp).2.2.2.2) qq).2.2.1) ((wt_gr ((wt_gr ph pa ch sz 0 pp).1) ((wt_gr ph pa ch sz 0 pp).2.1) ((wt_gr ph pa ch sz 0 pp).2.2.1) ((wt_gr ph pa ch sz 0 pp).2.2.2.1) ((wt_gr ph pa ch sz 0 pp).2.2.2.2) qq).2.2.2.1) ((wt_gr ((wt_gr ph pa ch sz 0 pp).1) ((wt_gr ph pa ch sz 0 pp).2.1) ((wt_gr ph pa ch sz 0 pp).2.2.1) ((wt_gr ph pa ch sz 0 pp).2.2.2.1) ((wt_gr ph pa ch sz 0 pp).2.2.2.2) qq).2.2.2.2) rr).2.2.2.2) * 4 + ww) true) ((wt_gr ((wt_gr ((wt_gr ph pa ch sz 0 pp).1) ((wt_gr ph pa ch sz 0 pp).2.1) ((wt_gr ph pa ch sz 0 pp).2.2.1) ((wt_gr ph pa ch sz 0 pp).2.2.2.1) ((wt_gr ph pa ch sz 0 pp).2.2.2.2) qq).1) ((wt_gr ((wt_gr ph pa ch sz 0 pp).1) ((wt_gr ph pa ch sz 0 pp).2.1) ((wt_gr ph pa ch sz 0 pp).2.2.1) ((wt_gr ph pa ch sz 0 pp).2.2.2.1) ((wt_gr ph pa ch sz 0 pp).2.2.2.2) qq).2.1) ((wt_gr ((wt_gr ph pa ch sz 0 pp).1) ((wt_gr ph pa ch sz 0 pp).2.1) ((wt_gr ph pa ch sz 0 pp).2.2.1) ((wt_gr ph pa ch sz 0 pp).2.2.2.1) ((wt_gr ph pa ch sz 0 pp).2.2.2.2) qq).2.2.1) ((wt_gr ((wt_gr ph pa ch sz 0 pp).1) ((wt_gr ph pa ch sz 0 pp).2.1) ((wt_gr ph pa ch sz 0 pp).2.2.1) ((wt_gr ph pa ch sz 0 pp).2.2.2.1) ((wt_gr ph pa ch sz 0 pp).2.2.2.2) qq).2.2.2.1) ((wt_gr ((wt_gr ph pa ch sz 0 pp).1) ((wt_gr ph pa ch sz 0 pp).2.1) ((wt_gr ph pa ch sz 0 pp).2.2.1) ((wt_gr ph pa ch sz 0 pp).2.2.2.1) ((wt_gr ph pa ch sz 0 pp).2.2.2.2) qq).2.2.2.2) rr).2.2.2.1) (pr + 1) gc gb sc sh sl ct tok wt pn lt wp sd) := hD
      have hP9 : va_P (dC, dI) vwCl (wX cI cZ cL q ((wt_gr (wt_gr (wt_gr ph pa ch sz 0 pp).1 (wt_gr ph pa ch sz 0 pp).2.1 (wt_gr ph pa ch sz 0 pp).2.2.1 (wt_gr ph pa ch sz 0 pp).2.2.2.1 (wt_gr ph pa ch sz 0 pp).2.2.2.2 qq).1 (wt_gr (wt_gr ph pa ch sz 0 pp).1 (wt_gr ph pa ch sz 0 pp).2.1 (wt_gr ph pa ch sz 0 pp).2.2.1 (wt_gr ph pa ch sz 0 pp).2.2.2.1 (wt_gr ph pa ch sz 0 pp).2.2.2.2 qq).2.1 (wt_gr (wt_gr ph pa ch sz 0 pp).1 (wt_gr ph pa ch sz 0 pp).2.1 (wt_gr ph pa ch sz 0 pp).2.2.1 (wt_gr ph pa ch sz 0 pp).2.2.2.1 (wt_gr ph pa ch sz 0 pp).2.2.2.2 qq).2.2.1 (wt_gr (wt_gr ph pa ch sz 0 pp).1 (wt_gr ph pa ch sz 0 pp).2.1 (wt_gr ph pa ch sz 0 pp).2.2.1 (wt_gr ph pa ch sz 0 pp).2.2.2.1 (wt_gr ph pa ch sz 0 pp).2.2.2.2 qq).2.2.2.1 (wt_gr (wt_gr ph pa ch sz 0 pp).1 (wt_gr ph pa ch sz 0 pp).2.1 (wt_gr ph pa ch sz 0 pp).2.2.1 (wt_gr ph pa ch sz 0 pp).2.2.2.1 (wt_gr ph pa ch sz 0 pp).2.2.2.2 qq).2.2.2.2 rr).1) ((wt_gr (wt_gr (wt_gr ph pa ch sz 0 pp).1 (wt_gr ph pa ch sz 0 pp).2.1 (wt_gr ph pa ch sz 0 pp).2.2.1 (wt_gr ph pa ch sz 0 pp).2.2.2.1 (wt_gr ph pa ch sz 0 pp).2.2.2.2 qq).1 (wt_gr (wt_gr ph pa ch sz 0 pp).1 (wt_gr ph pa ch sz 0 pp).2.1 (wt_gr ph pa ch sz 0 pp).2.2.1 (wt_gr ph pa ch sz 0 pp).2.2.2.1 (wt_gr ph pa ch sz 0 pp).2.2.2.2 qq).2.1 (wt_gr (wt_gr ph pa ch sz 0 pp).1 (wt_gr ph pa ch sz 0 pp).2.1 (wt_gr ph pa ch sz 0 pp).2.2.1 (wt_gr ph pa ch sz 0 pp).2.2.2.1 (wt_gr ph pa ch sz 0 pp).2.2.2.2 qq).2.2.1 (wt_gr (wt_gr ph pa ch sz 0 pp).1 (wt_gr ph pa ch sz 0 pp).2.1 (wt_gr ph pa ch sz 0 pp).2.2.1 (wt_gr ph pa ch sz 0 pp).2.2.2.1 (wt_gr ph pa ch sz 0 pp).2.2.2.2 qq).2.2.2.1 (wt_gr (wt_gr ph pa ch sz 0 pp).1 (wt_gr ph pa ch sz 0 pp).2.1 (wt_gr ph pa ch sz 0 pp).2.2.1 (wt_gr ph pa ch sz 0 pp).2.2.2.1 (wt_gr ph pa ch sz 0 pp).2.2.2.2 qq).2.2.2.2 rr).2.1) ((wt_gr (wt_gr (wt_gr ph pa ch sz 0 pp).1 (wt_gr ph pa ch sz 0 pp).2.1 (wt_gr ph pa ch sz 0 pp).2.2.1 (wt_gr ph pa ch sz 0 pp).2.2.2.1 (wt_gr ph pa ch sz 0 pp).2.2.2.2 qq).1 (wt_gr (wt_gr ph pa ch sz 0 pp).1 (wt_gr ph pa ch sz 0 pp).2.1 (wt_gr ph pa ch sz 0 pp).2.2.1 (wt_gr ph pa ch sz 0 pp).2.2.2.1 (wt_gr ph pa ch sz 0 pp).2.2.2.2 qq).2.1 (wt_gr (wt_gr ph pa ch sz 0 pp).1 (wt_gr ph pa ch sz 0 pp).2.1 (wt_gr ph pa ch sz 0 pp).2.2.1 (wt_gr ph pa ch sz 0 pp).2.2.2.1 (wt_gr ph pa ch sz 0 pp).2.2.2.2 qq).2.2.1 (wt_gr (wt_gr ph pa ch sz 0 pp).1 (wt_gr ph pa ch sz 0 pp).2.1 (wt_gr ph pa ch sz 0 pp).2.2.1 (wt_gr ph pa ch sz 0 pp).2.2.2.1 (wt_gr ph pa ch sz 0 pp).2.2.2.2 qq).2.2.2.1 (wt_gr (wt_gr ph pa ch sz 0 pp).1 (wt_gr ph pa ch sz 0 pp).2.1 (wt_gr ph pa ch sz 0 pp).2.2.1 (wt_gr ph pa ch sz 0 pp).2.2.2.1 (wt_gr ph pa ch sz 0 pp).2.2.2.2 qq).2.2.2.2 rr).2.2.1) (va_up en ((wt_gr (wt_gr (wt_gr ph pa ch sz 0 pp).1 (wt_gr ph pa ch sz 0 pp).2.1 (wt_gr ph pa ch sz 0 pp).2.2.1 (wt_gr ph pa ch sz 0 pp).2.2.2.1 (wt_gr ph pa ch sz 0 pp).2.2.2.2 qq).1 (wt_gr (wt_gr ph pa ch sz 0 pp).1 (wt_gr ph pa ch sz 0 pp).2.1 (wt_gr ph pa ch sz 0 pp).2.2.1 (wt_gr ph pa ch sz 0 pp).2.2.2.1 (wt_gr ph pa ch sz 0 pp).2.2.2.2 qq).2.1 (wt_gr (wt_gr ph pa ch sz 0 pp).1 (wt_gr ph pa ch sz 0 pp).2.1 (wt_gr ph pa ch sz 0 pp).2.2.1 (wt_gr ph pa ch sz 0 pp).2.2.2.1 (wt_gr ph pa ch sz 0 pp).2.2.2.2 qq).2.2.1 (wt_gr (wt_gr ph pa ch sz 0 pp).1 (wt_gr ph pa ch sz 0 pp).2.1 (wt_gr ph pa ch sz 0 pp).2.2.1 (wt_gr ph pa ch sz 0 pp).2.2.2.1 (wt_gr ph pa ch sz 0 pp).2.2.2.2 qq).2.2.2.1 (wt_gr (wt_gr ph pa ch sz 0 pp).1 (wt_gr ph pa ch sz 0 pp).2.1 (wt_gr ph pa ch sz 0 pp).2.2.1 (wt_gr ph pa ch sz 0 pp).2.2.2.1 (wt_gr ph pa ch sz 0 pp).2.2.2.2 qq).2.2.2.2 rr).2.2.2.2 * 4 + ww) true) ((wt_gr (wt_gr (wt_gr ph pa ch sz 0 pp).1 (wt_gr ph pa ch sz 0 pp).2.1 (wt_gr ph pa ch sz 0 pp).2.2.1 (wt_gr ph pa ch sz 0 pp).2.2.2.1 (wt_gr ph pa ch sz 0 pp).2.2.2.2 qq).1 (wt_gr (wt_gr ph pa ch sz 0 pp).1 (wt_gr ph pa ch sz 0 pp).2.1 (wt_gr ph pa ch sz 0 pp).2.2.1 (wt_gr ph pa ch sz 0 pp).2.2.2.1 (wt_gr ph pa ch sz 0 pp).2.2.2.2 qq).2.1 (wt_gr (wt_gr ph pa ch sz 0 pp).1 (wt_gr ph pa ch sz 0 pp).2.1 (wt_gr ph pa ch sz 0 pp).2.2.1 (wt_gr ph pa ch sz 0 pp).2.2.2.1 (wt_gr ph pa ch sz 0 pp).2.2.2.2 qq).2.2.1 (wt_gr (wt_gr ph pa ch sz 0 pp).1 (wt_gr ph pa ch sz 0 pp).2.1 (wt_gr ph pa ch sz 0 pp).2.2.1 (wt_gr ph pa ch sz 0 pp).2.2.2.1 (wt_gr ph pa ch sz 0 pp).2.2.2.2 qq).2.2.2.1 (wt_gr (wt_gr ph pa ch sz 0 pp).1 (wt_gr ph pa ch sz 0 pp).2.1 (wt_gr ph pa ch sz 0 pp).2.2.1 (wt_gr ph pa ch sz 0 pp).2.2.2.1 (wt_gr ph pa ch sz 0 pp).2.2.2.2 qq).2.2.2.2 rr).2.2.2.1) (pr + 1) gc gb sc sh sl ct tok wt pn lt wp sd) H := by exact hP
      have hD9 : va_D A (wX cI cZ cL q ((wt_gr (wt_gr (wt_gr ph pa ch sz 0 pp).1 (wt_gr ph pa ch sz 0 pp).2.1 (wt_gr ph pa ch sz 0 pp).2.2.1 (wt_gr ph pa ch sz 0 pp).2.2.2.1 (wt_gr ph pa ch sz 0 pp).2.2.2.2 qq).1 (wt_gr (wt_gr ph pa ch sz 0 pp).1 (wt_gr ph pa ch sz 0 pp).2.1 (wt_gr ph pa ch sz 0 pp).2.2.1 (wt_gr ph pa ch sz 0 pp).2.2.2.1 (wt_gr ph pa ch sz 0 pp).2.2.2.2 qq).2.1 (wt_gr (wt_gr ph pa ch sz 0 pp).1 (wt_gr ph pa ch sz 0 pp).2.1 (wt_gr ph pa ch sz 0 pp).2.2.1 (wt_gr ph pa ch sz 0 pp).2.2.2.1 (wt_gr ph pa ch sz 0 pp).2.2.2.2 qq).2.2.1 (wt_gr (wt_gr ph pa ch sz 0 pp).1 (wt_gr ph pa ch sz 0 pp).2.1 (wt_gr ph pa ch sz 0 pp).2.2.1 (wt_gr ph pa ch sz 0 pp).2.2.2.1 (wt_gr ph pa ch sz 0 pp).2.2.2.2 qq).2.2.2.1 (wt_gr (wt_gr ph pa ch sz 0 pp).1 (wt_gr ph pa ch sz 0 pp).2.1 (wt_gr ph pa ch sz 0 pp).2.2.1 (wt_gr ph pa ch sz 0 pp).2.2.2.1 (wt_gr ph pa ch sz 0 pp).2.2.2.2 qq).2.2.2.2 rr).1) ((wt_gr (wt_gr (wt_gr ph pa ch sz 0 pp).1 (wt_gr ph pa ch sz 0 pp).2.1 (wt_gr ph pa ch sz 0 pp).2.2.1 (wt_gr ph pa ch sz 0 pp).2.2.2.1 (wt_gr ph pa ch sz 0 pp).2.2.2.2 qq).1 (wt_gr (wt_gr ph pa ch sz 0 pp).1 (wt_gr ph pa ch sz 0 pp).2.1 (wt_gr ph pa ch sz 0 pp).2.2.1 (wt_gr ph pa ch sz 0 pp).2.2.2.1 (wt_gr ph pa ch sz 0 pp).2.2.2.2 qq).2.1 (wt_gr (wt_gr ph pa ch sz 0 pp).1 (wt_gr ph pa ch sz 0 pp).2.1 (wt_gr ph pa ch sz 0 pp).2.2.1 (wt_gr ph pa ch sz 0 pp).2.2.2.1 (wt_gr ph pa ch sz 0 pp).2.2.2.2 qq).2.2.1 (wt_gr (wt_gr ph pa ch sz 0 pp).1 (wt_gr ph pa ch sz 0 pp).2.1 (wt_gr ph pa ch sz 0 pp).2.2.1 (wt_gr ph pa ch sz 0 pp).2.2.2.1 (wt_gr ph pa ch sz 0 pp).2.2.2.2 qq).2.2.2.1 (wt_gr (wt_gr ph pa ch sz 0 pp).1 (wt_gr ph pa ch sz 0 pp).2.1 (wt_gr ph pa ch sz 0 pp).2.2.1 (wt_gr ph pa ch sz 0 pp).2.2.2.1 (wt_gr ph pa ch sz 0 pp).2.2.2.2 qq).2.2.2.2 rr).2.1) ((wt_gr (wt_gr (wt_gr ph pa ch sz 0 pp).1 (wt_gr ph pa ch sz 0 pp).2.1 (wt_gr ph pa ch sz 0 pp).2.2.1 (wt_gr ph pa ch sz 0 pp).2.2.2.1 (wt_gr ph pa ch sz 0 pp).2.2.2.2 qq).1 (wt_gr (wt_gr ph pa ch sz 0 pp).1 (wt_gr ph pa ch sz 0 pp).2.1 (wt_gr ph pa ch sz 0 pp).2.2.1 (wt_gr ph pa ch sz 0 pp).2.2.2.1 (wt_gr ph pa ch sz 0 pp).2.2.2.2 qq).2.1 (wt_gr (wt_gr ph pa ch sz 0 pp).1 (wt_gr ph pa ch sz 0 pp).2.1 (wt_gr ph pa ch sz 0 pp).2.2.1 (wt_gr ph pa ch sz 0 pp).2.2.2.1 (wt_gr ph pa ch sz 0 pp).2.2.2.2 qq).2.2.1 (wt_gr (wt_gr ph pa ch sz 0 pp).1 (wt_gr ph pa ch sz 0 pp).2.1 (wt_gr ph pa ch sz 0 pp).2.2.1 (wt_gr ph pa ch sz 0 pp).2.2.2.1 (wt_gr ph pa ch sz 0 pp).2.2.2.2 qq).2.2.2.1 (wt_gr (wt_gr ph pa ch sz 0 pp).1 (wt_gr ph pa ch sz 0 pp).2.1 (wt_gr ph pa ch sz 0 pp).2.2.1 (wt_gr ph pa ch sz 0 pp).2.2.2.1 (wt_gr ph pa ch sz 0 pp).2.2.2.2 qq).2.2.2.2 rr).2.2.1) (va_up en ((wt_gr (wt_gr (wt_gr ph pa ch sz 0 pp).1 (wt_gr ph pa ch sz 0 pp).2.1 (wt_gr ph pa ch sz 0 pp).2.2.1 (wt_gr ph pa ch sz 0 pp).2.2.2.1 (wt_gr ph pa ch sz 0 pp).2.2.2.2 qq).1 (wt_gr (wt_gr ph pa ch sz 0 pp).1 (wt_gr ph pa ch sz 0 pp).2.1 (wt_gr ph pa ch sz 0 pp).2.2.1 (wt_gr ph pa ch sz 0 pp).2.2.2.1 (wt_gr ph pa ch sz 0 pp).2.2.2.2 qq).2.1 (wt_gr (wt_gr ph pa ch sz 0 pp).1 (wt_gr ph pa ch sz 0 pp).2.1 (wt_gr ph pa ch sz 0 pp).2.2.1 (wt_gr ph pa ch sz 0 pp).2.2.2.1 (wt_gr ph pa ch sz 0 pp).2.2.2.2 qq).2.2.1 (wt_gr (wt_gr ph pa ch sz 0 pp).1 (wt_gr ph pa ch sz 0 pp).2.1 (wt_gr ph pa ch sz 0 pp).2.2.1 (wt_gr ph pa ch sz 0 pp).2.2.2.1 (wt_gr ph pa ch sz 0 pp).2.2.2.2 qq).2.2.2.1 (wt_gr (wt_gr ph pa ch sz 0 pp).1 (wt_gr ph pa ch sz 0 pp).2.1 (wt_gr ph pa ch sz 0 pp).2.2.1 (wt_gr ph pa ch sz 0 pp).2.2.2.1 (wt_gr ph pa ch sz 0 pp).2.2.2.2 qq).2.2.2.2 rr).2.2.2.2 * 4 + ww) true) ((wt_gr (wt_gr (wt_gr ph pa ch sz 0 pp).1 (wt_gr ph pa ch sz 0 pp).2.1 (wt_gr ph pa ch sz 0 pp).2.2.1 (wt_gr ph pa ch sz 0 pp).2.2.2.1 (wt_gr ph pa ch sz 0 pp).2.2.2.2 qq).1 (wt_gr (wt_gr ph pa ch sz 0 pp).1 (wt_gr ph pa ch sz 0 pp).2.1 (wt_gr ph pa ch sz 0 pp).2.2.1 (wt_gr ph pa ch sz 0 pp).2.2.2.1 (wt_gr ph pa ch sz 0 pp).2.2.2.2 qq).2.1 (wt_gr (wt_gr ph pa ch sz 0 pp).1 (wt_gr ph pa ch sz 0 pp).2.1 (wt_gr ph pa ch sz 0 pp).2.2.1 (wt_gr ph pa ch sz 0 pp).2.2.2.1 (wt_gr ph pa ch sz 0 pp).2.2.2.2 qq).2.2.1 (wt_gr (wt_gr ph pa ch sz 0 pp).1 (wt_gr ph pa ch sz 0 pp).2.1 (wt_gr ph pa ch sz 0 pp).2.2.1 (wt_gr ph pa ch sz 0 pp).2.2.2.1 (wt_gr ph pa ch sz 0 pp).2.2.2.2 qq).2.2.2.1 (wt_gr (wt_gr ph pa ch sz 0 pp).1 (wt_gr ph pa ch sz 0 pp).2.1 (wt_gr ph pa ch sz 0 pp).2.2.1 (wt_gr ph pa ch sz 0 pp).2.2.2.1 (wt_gr ph pa ch sz 0 pp).2.2.2.2 qq).2.2.2.2 rr).2.2.2.1) (pr + 1) gc gb sc sh sl ct tok wt pn lt wp sd) := by exact hD
      exact W.vret hx hb hr (fun t ht hW => ⟨⟨(), rfl, trivial, by rw [ht]; exact hP9, hD9⟩, hS.F ht⟩) hS.2.2 dT_add_60

set_option maxHeartbeats 4000000 in
set_option maxRecDepth 100000 in
theorem c_T_has_1 (l : Launch) (dC : Nat → ClassId) (dI : Nat → Nat → Nat) (cI cZ cL : ClassId) (q : Nat → Nat) (ph : Nat → Nat) (pa : Nat → Nat) (ch : Nat → Nat) (en : Nat → Bool) (sz : Nat) (pr : Nat) (gc : Nat → Int32) (gb : Nat → Int32) (sc : Nat → Int32) (sh : Nat → Int32) (sl : Nat → Int32) (ct : Nat) (tok : Nat → Int64) (wt : Nat → Int64) (pn : Nat → Nat) (lt : Nat → Int64) (wp : Int64) (sd : Bool) (ww : Nat) (pp : Nat) (hww : ww < 4) (hpp : pp < 4) (hch : ∀ j, ch j ≤ 24) : Met l yT_has (Cond.code yT_has cT_has 6 (some .boolean) :: tb) ({ frames := 1, cells := 0, slots := 0, locals := 23 }) (va_Pc [.ref (q 1), .int (nI ww), .int (nI pp), .int (-1), .int (-1)] (wt_ro (dC, dI) vwCl [(cI, .int), (cZ, .boolean), (cL, .long)] (wX cI cZ cL q ph pa ch en sz pr gc gb sc sh sl ct tok wt pn lt wp sd))) (vp_Si (fun r => r = (wt_bI (decide (¬ ch (0 * 4 + pp) = 0) && en (ch (0 * 4 + pp) * 4 + ww))))) 0 0 (fun _ => False) := by
  refine Met.ofW (cc := cT_has) (maxL := 6) (ret := (some .boolean)) (by decide) rfl ?_
  intro p e s m args below meth c s₁ B hml hv
  obtain ⟨rfl, hP, hK, hN⟩ := hv
  have hx := B.exec
  have hb := B.bytes
  have hr := B.returns
  have hts := atoms_spec (ws := (Cond.code yT_has cT_has 6 (some .boolean) :: tb)) B.pre
  have ht : ∀ w ∈ tb, w.before _ s = true := fun w h => hts w (List.mem_cons_of_mem _ h)
  have hown : s.vm.findClass RT = some m.cls := findClass_of_methodNamed B.named
  have hlocks := B.notSynchronized
  have hl := lv_entry ([.ref (q 1), .int (nI ww), .int (nI pp), .int (-1), .int (-1)]) (n := 6) (Nat.le_of_ble_eq_true rfl)
  rw [lg_entry_eq]
  generalize (lg_sl ([.ref (q 1), .int (nI ww), .int (nI pp), .int (-1), .int (-1)]) ++ List.replicate (6 - (lg_sl ([.ref (q 1), .int (nI ww), .int (nI pp), .int (-1), .int (-1)])).length) Slot.unset).toArray = ls at hl ⊢
  have hl : lv_has ls 6 [(0, .ref (q 1)), (1, .int (nI ww)), (2, .int (nI pp)), (3, .int (-1)), (4, .int (-1))] := hl
  refine lv_aload_n hx hb dT_has_0 rfl (lv_at hl 0 rfl) ?_
  refine lv_iconst (v := nI 0) hx hb dT_has_1 (by decide) ?_
  refine lv_iload_n hx hb dT_has_2 rfl (lv_at hl 2 rfl) ?_
  rcases Nat.eq_zero_or_pos (ch (0 * 4 + pp)) with hz3 | hz3
  · skip
    refine wt_roi (va_runV (As := [.int (nI 0), .int (nI pp)]) (rest := []) ⟨hx, hb, hml, hown, ht⟩ (c_T_childOf_0 l dC dI cI cZ cL q ph pa ch en sz pr gc gb sc sh sl ct tok wt pn lt wp sd 0 pp (by first | omega | (have := hch (0 * 4 + pp); omega) | (have := hch (ch (0 * 4 + pp) * 4 + qq); omega) | (have := hch (ch (ch (0 * 4 + pp) * 4 + qq) * 4 + rr); omega)) hpp hch hz3) (cwV 2 ht (good_V m_150 m_152 ms_0 m_2 m_153) rfl rfl rfl (by decide +kernel) ⟨Nat.le_of_ble_eq_true rfl, Nat.le_of_ble_eq_true rfl⟩) (wt_preV hK hN hP (va_recv hK hP (ci := 1) (q0 := 1) rfl rfl)) rfl rfl hl.1 rfl (lv_room (Nat.le_of_ble_eq_true rfl)) dT_has_3 ⟨Nat.le_of_ble_eq_true rfl, Nat.le_of_ble_eq_true rfl⟩) ?_
    refine lv_istore (lv' := [(5, .int (-1)), (0, .ref (q 1)), (1, .int (nI ww)), (2, .int (nI pp)), (3, .int (-1)), (4, .int (-1))]) hx hb dT_has_6 hl (by decide) rfl (fun ls hl => ?_)
    refine lv_iload hx hb dT_has_8 (lv_at hl 0 rfl) ?_
    refine lv_iconst (v := (-1)) hx hb dT_has_10 (by decide) ?_
    refine lv_icmp_eq (tgt := 28) hx hb dT_has_11 (by decide) (fun c_1 => ?_) (fun c_1 => ?_)
    · skip
      refine lv_iload hx hb dT_has_28 (lv_at hl 0 rfl) ?_
      refine lv_iconst (v := (-1)) hx hb dT_has_30 (by decide) ?_
      refine lv_icmp_eq (tgt := 50) hx hb dT_has_31 (by decide) (fun c_2 => ?_) (fun c_2 => ?_)
      · skip
        refine lv_iload hx hb dT_has_50 (lv_at hl 0 rfl) ?_
        refine lv_iconst (v := (-1)) hx hb dT_has_52 (by decide) ?_
        refine lv_icmp_eq (tgt := 70) hx hb dT_has_53 (by decide) (fun c_3 => ?_) (fun c_3 => ?_)
        · skip
          refine lv_iconst (v := nI 0) hx hb dT_has_70 (by decide) ?_
          exact W.zret (v := nI 0) hx hb hr rfl (fun t ht hW => ⟨_, rfl, (by first | exact wt_ht hz3 c_3 | exact wt_hf c_3 | exact wt_hz hz3), ht⟩) (fun q h => by cases h) dT_has_71
        · exact absurd rfl c_3
      · exact absurd rfl c_2
    · exact absurd rfl c_1
  · skip
    refine wt_roi (va_runV (As := [.int (nI 0), .int (nI pp)]) (rest := []) ⟨hx, hb, hml, hown, ht⟩ (c_T_childOf_1 l dC dI cI cZ cL q ph pa ch en sz pr gc gb sc sh sl ct tok wt pn lt wp sd 0 pp (by first | omega | (have := hch (0 * 4 + pp); omega) | (have := hch (ch (0 * 4 + pp) * 4 + qq); omega) | (have := hch (ch (ch (0 * 4 + pp) * 4 + qq) * 4 + rr); omega)) hpp hch hz3) (cwV 2 ht (good_V m_150 m_152 ms_0 m_2 m_153) rfl rfl rfl (by decide +kernel) ⟨Nat.le_of_ble_eq_true rfl, Nat.le_of_ble_eq_true rfl⟩) (wt_preV hK hN hP (va_recv hK hP (ci := 1) (q0 := 1) rfl rfl)) rfl rfl hl.1 rfl (lv_room (Nat.le_of_ble_eq_true rfl)) dT_has_3 ⟨Nat.le_of_ble_eq_true rfl, Nat.le_of_ble_eq_true rfl⟩) ?_
    refine lv_istore (lv' := [(5, .int (nI (ch (0 * 4 + pp)))), (0, .ref (q 1)), (1, .int (nI ww)), (2, .int (nI pp)), (3, .int (-1)), (4, .int (-1))]) hx hb dT_has_6 hl (by decide) rfl (fun ls hl => ?_)
    refine lv_iload hx hb dT_has_8 (lv_at hl 0 rfl) ?_
    refine lv_iconst (v := (-1)) hx hb dT_has_10 (by decide) ?_
    refine lv_icmp_eq (tgt := 28) hx hb dT_has_11 (by decide) (fun c_4 => ?_) (fun c_4 => ?_)
    · exact absurd c_4 (wt_nI_nem1 (by first | omega | (have := hch (0 * 4 + pp); omega) | (have := hch (ch (0 * 4 + pp) * 4 + qq); omega) | (have := hch (ch (ch (0 * 4 + pp) * 4 + qq) * 4 + rr); omega)))
    · skip
      refine lv_iload_n hx hb dT_has_14 rfl (lv_at hl 4 rfl) ?_
      refine lv_iconst (v := (-1)) hx hb dT_has_15 (by decide) ?_
      refine lv_icmp_eq (tgt := 28) hx hb dT_has_16 (by decide) (fun c_5 => ?_) (fun c_5 => ?_)
      · skip
        refine lv_iload hx hb dT_has_28 (lv_at hl 0 rfl) ?_
        refine lv_iconst (v := (-1)) hx hb dT_has_30 (by decide) ?_
        refine lv_icmp_eq (tgt := 50) hx hb dT_has_31 (by decide) (fun c_6 => ?_) (fun c_6 => ?_)
        · exact absurd c_6 (wt_nI_nem1 (by first | omega | (have := hch (0 * 4 + pp); omega) | (have := hch (ch (0 * 4 + pp) * 4 + qq); omega) | (have := hch (ch (ch (0 * 4 + pp) * 4 + qq) * 4 + rr); omega)))
        · skip
          refine lv_iload hx hb dT_has_34 (lv_at hl 5 rfl) ?_
          refine lv_iconst (v := (-1)) hx hb dT_has_36 (by decide) ?_
          refine lv_icmp_eq (tgt := 50) hx hb dT_has_37 (by decide) (fun c_7 => ?_) (fun c_7 => ?_)
          · skip
            refine lv_iload hx hb dT_has_50 (lv_at hl 0 rfl) ?_
            refine lv_iconst (v := (-1)) hx hb dT_has_52 (by decide) ?_
            refine lv_icmp_eq (tgt := 70) hx hb dT_has_53 (by decide) (fun c_8 => ?_) (fun c_8 => ?_)
            · exact absurd c_8 (wt_nI_nem1 (by first | omega | (have := hch (0 * 4 + pp); omega) | (have := hch (ch (0 * 4 + pp) * 4 + qq); omega) | (have := hch (ch (ch (0 * 4 + pp) * 4 + qq) * 4 + rr); omega)))
            · skip
              refine lv_aload_n hx hb dT_has_56 rfl (lv_at hl 1 rfl) ?_
              refine lv_iload hx hb dT_has_57 (lv_at hl 0 rfl) ?_
              refine lv_iload_n hx hb dT_has_59 rfl (lv_at hl 2 rfl) ?_
              refine wt_roi (va_runV (As := [.int (nI (ch (0 * 4 + pp))), .int (nI ww)]) (rest := []) ⟨hx, hb, hml, hown, ht⟩ (c_T_endsWord l dC dI cI cZ cL q ph pa ch en sz pr gc gb sc sh sl ct tok wt pn lt wp sd (ch (0 * 4 + pp)) ww (by first | omega | (have := hch (0 * 4 + pp); omega) | (have := hch (ch (0 * 4 + pp) * 4 + qq); omega) | (have := hch (ch (ch (0 * 4 + pp) * 4 + qq) * 4 + rr); omega)) hww) (cwV 2 ht (good_V m_154 m_155 m_156 m_2 m_157) rfl rfl rfl (by decide +kernel) ⟨Nat.le_of_ble_eq_true rfl, Nat.le_of_ble_eq_true rfl⟩) (wt_preV hK hN hP (va_recv hK hP (ci := 1) (q0 := 1) rfl rfl)) rfl rfl hl.1 rfl (lv_room (Nat.le_of_ble_eq_true rfl)) dT_has_60 ⟨Nat.le_of_ble_eq_true rfl, Nat.le_of_ble_eq_true rfl⟩) ?_
              refine wt_bif_eq (tgt := 70) hx hb dT_has_63 (by decide) (fun c_9 => ?_) (fun c_9 => ?_)
              · skip
                refine lv_iconst (v := nI 0) hx hb dT_has_70 (by decide) ?_
                exact W.zret (v := nI 0) hx hb hr rfl (fun t ht hW => ⟨_, rfl, (by first | exact wt_ht hz3 c_9 | exact wt_hf c_9 | exact wt_hz hz3), ht⟩) (fun q h => by cases h) dT_has_71
              · skip
                refine lv_iconst (v := nI 1) hx hb dT_has_66 (by decide) ?_
                refine lv_goto (tgt := 71) hx hb dT_has_67 (by decide) ?_
                exact W.zret (v := nI 1) hx hb hr rfl (fun t ht hW => ⟨_, rfl, (by first | exact wt_ht hz3 c_9 | exact wt_hf c_9 | exact wt_hz hz3), ht⟩) (fun q h => by cases h) dT_has_71
          · exact absurd rfl c_7
      · exact absurd rfl c_5

set_option maxHeartbeats 4000000 in
set_option maxRecDepth 100000 in
theorem c_T_has_2 (l : Launch) (dC : Nat → ClassId) (dI : Nat → Nat → Nat) (cI cZ cL : ClassId) (q : Nat → Nat) (ph : Nat → Nat) (pa : Nat → Nat) (ch : Nat → Nat) (en : Nat → Bool) (sz : Nat) (pr : Nat) (gc : Nat → Int32) (gb : Nat → Int32) (sc : Nat → Int32) (sh : Nat → Int32) (sl : Nat → Int32) (ct : Nat) (tok : Nat → Int64) (wt : Nat → Int64) (pn : Nat → Nat) (lt : Nat → Int64) (wp : Int64) (sd : Bool) (ww : Nat) (pp : Nat) (qq : Nat) (hww : ww < 4) (hpp : pp < 4) (hqq : qq < 4) (hch : ∀ j, ch j ≤ 24) : Met l yT_has (Cond.code yT_has cT_has 6 (some .boolean) :: tb) ({ frames := 1, cells := 0, slots := 0, locals := 23 }) (va_Pc [.ref (q 1), .int (nI ww), .int (nI pp), .int (nI qq), .int (-1)] (wt_ro (dC, dI) vwCl [(cI, .int), (cZ, .boolean), (cL, .long)] (wX cI cZ cL q ph pa ch en sz pr gc gb sc sh sl ct tok wt pn lt wp sd))) (vp_Si (fun r => r = (wt_bI (decide (¬ wt_d2 ch pp qq = 0) && en (wt_d2 ch pp qq * 4 + ww))))) 0 0 (fun _ => False) := by
  refine Met.ofW (cc := cT_has) (maxL := 6) (ret := (some .boolean)) (by decide) rfl ?_
  intro p e s m args below meth c s₁ B hml hv
  obtain ⟨rfl, hP, hK, hN⟩ := hv
  have hx := B.exec
  have hb := B.bytes
  have hr := B.returns
  have hts := atoms_spec (ws := (Cond.code yT_has cT_has 6 (some .boolean) :: tb)) B.pre
  have ht : ∀ w ∈ tb, w.before _ s = true := fun w h => hts w (List.mem_cons_of_mem _ h)
  have hown : s.vm.findClass RT = some m.cls := findClass_of_methodNamed B.named
  have hlocks := B.notSynchronized
  have hl := lv_entry ([.ref (q 1), .int (nI ww), .int (nI pp), .int (nI qq), .int (-1)]) (n := 6) (Nat.le_of_ble_eq_true rfl)
  rw [lg_entry_eq]
  generalize (lg_sl ([.ref (q 1), .int (nI ww), .int (nI pp), .int (nI qq), .int (-1)]) ++ List.replicate (6 - (lg_sl ([.ref (q 1), .int (nI ww), .int (nI pp), .int (nI qq), .int (-1)])).length) Slot.unset).toArray = ls at hl ⊢
  have hl : lv_has ls 6 [(0, .ref (q 1)), (1, .int (nI ww)), (2, .int (nI pp)), (3, .int (nI qq)), (4, .int (-1))] := hl
  refine lv_aload_n hx hb dT_has_0 rfl (lv_at hl 0 rfl) ?_
  refine lv_iconst (v := nI 0) hx hb dT_has_1 (by decide) ?_
  refine lv_iload_n hx hb dT_has_2 rfl (lv_at hl 2 rfl) ?_
  rcases Nat.eq_zero_or_pos (ch (0 * 4 + pp)) with hz3 | hz3
  · skip
    refine wt_roi (va_runV (As := [.int (nI 0), .int (nI pp)]) (rest := []) ⟨hx, hb, hml, hown, ht⟩ (c_T_childOf_0 l dC dI cI cZ cL q ph pa ch en sz pr gc gb sc sh sl ct tok wt pn lt wp sd 0 pp (by first | omega | (have := hch (0 * 4 + pp); omega) | (have := hch (ch (0 * 4 + pp) * 4 + qq); omega) | (have := hch (ch (ch (0 * 4 + pp) * 4 + qq) * 4 + rr); omega)) hpp hch hz3) (cwV 2 ht (good_V m_150 m_152 ms_0 m_2 m_153) rfl rfl rfl (by decide +kernel) ⟨Nat.le_of_ble_eq_true rfl, Nat.le_of_ble_eq_true rfl⟩) (wt_preV hK hN hP (va_recv hK hP (ci := 1) (q0 := 1) rfl rfl)) rfl rfl hl.1 rfl (lv_room (Nat.le_of_ble_eq_true rfl)) dT_has_3 ⟨Nat.le_of_ble_eq_true rfl, Nat.le_of_ble_eq_true rfl⟩) ?_
    refine lv_istore (lv' := [(5, .int (-1)), (0, .ref (q 1)), (1, .int (nI ww)), (2, .int (nI pp)), (3, .int (nI qq)), (4, .int (-1))]) hx hb dT_has_6 hl (by decide) rfl (fun ls hl => ?_)
    refine lv_iload hx hb dT_has_8 (lv_at hl 0 rfl) ?_
    refine lv_iconst (v := (-1)) hx hb dT_has_10 (by decide) ?_
    refine lv_icmp_eq (tgt := 28) hx hb dT_has_11 (by decide) (fun c_1 => ?_) (fun c_1 => ?_)
    · skip
      refine lv_iload hx hb dT_has_28 (lv_at hl 0 rfl) ?_
      refine lv_iconst (v := (-1)) hx hb dT_has_30 (by decide) ?_
      refine lv_icmp_eq (tgt := 50) hx hb dT_has_31 (by decide) (fun c_2 => ?_) (fun c_2 => ?_)
      · skip
        refine lv_iload hx hb dT_has_50 (lv_at hl 0 rfl) ?_
        refine lv_iconst (v := (-1)) hx hb dT_has_52 (by decide) ?_
        refine lv_icmp_eq (tgt := 70) hx hb dT_has_53 (by decide) (fun c_3 => ?_) (fun c_3 => ?_)
        · skip
          refine lv_iconst (v := nI 0) hx hb dT_has_70 (by decide) ?_
          exact W.zret (v := nI 0) hx hb hr rfl (fun t ht hW => ⟨_, rfl, (by first | (rw [show wt_d2 ch pp qq = ch (ch (0 * 4 + pp) * 4 + qq) from if_neg (Nat.ne_of_gt hz3)]; first | exact wt_ht hz23 c_3 | exact wt_hf c_3 | exact wt_hz hz23) | exact wt_hz (if_pos hz3)), ht⟩) (fun q h => by cases h) dT_has_71
        · exact absurd rfl c_3
      · exact absurd rfl c_2
    · exact absurd rfl c_1
  · skip
    refine wt_roi (va_runV (As := [.int (nI 0), .int (nI pp)]) (rest := []) ⟨hx, hb, hml, hown, ht⟩ (c_T_childOf_1 l dC dI cI cZ cL q ph pa ch en sz pr gc gb sc sh sl ct tok wt pn lt wp sd 0 pp (by first | omega | (have := hch (0 * 4 + pp); omega) | (have := hch (ch (0 * 4 + pp) * 4 + qq); omega) | (have := hch (ch (ch (0 * 4 + pp) * 4 + qq) * 4 + rr); omega)) hpp hch hz3) (cwV 2 ht (good_V m_150 m_152 ms_0 m_2 m_153) rfl rfl rfl (by decide +kernel) ⟨Nat.le_of_ble_eq_true rfl, Nat.le_of_ble_eq_true rfl⟩) (wt_preV hK hN hP (va_recv hK hP (ci := 1) (q0 := 1) rfl rfl)) rfl rfl hl.1 rfl (lv_room (Nat.le_of_ble_eq_true rfl)) dT_has_3 ⟨Nat.le_of_ble_eq_true rfl, Nat.le_of_ble_eq_true rfl⟩) ?_
    refine lv_istore (lv' := [(5, .int (nI (ch (0 * 4 + pp)))), (0, .ref (q 1)), (1, .int (nI ww)), (2, .int (nI pp)), (3, .int (nI qq)), (4, .int (-1))]) hx hb dT_has_6 hl (by decide) rfl (fun ls hl => ?_)
    refine lv_iload hx hb dT_has_8 (lv_at hl 0 rfl) ?_
    refine lv_iconst (v := (-1)) hx hb dT_has_10 (by decide) ?_
    refine lv_icmp_eq (tgt := 28) hx hb dT_has_11 (by decide) (fun c_4 => ?_) (fun c_4 => ?_)
    · exact absurd c_4 (wt_nI_nem1 (by first | omega | (have := hch (0 * 4 + pp); omega) | (have := hch (ch (0 * 4 + pp) * 4 + qq); omega) | (have := hch (ch (ch (0 * 4 + pp) * 4 + qq) * 4 + rr); omega)))
    · skip
      refine lv_iload_n hx hb dT_has_14 rfl (lv_at hl 4 rfl) ?_
      refine lv_iconst (v := (-1)) hx hb dT_has_15 (by decide) ?_
      refine lv_icmp_eq (tgt := 28) hx hb dT_has_16 (by decide) (fun c_5 => ?_) (fun c_5 => ?_)
      · exact absurd c_5 (wt_nI_nem1 (by first | omega | (have := hch (0 * 4 + pp); omega) | (have := hch (ch (0 * 4 + pp) * 4 + qq); omega) | (have := hch (ch (ch (0 * 4 + pp) * 4 + qq) * 4 + rr); omega)))
      · skip
        refine lv_aload_n hx hb dT_has_19 rfl (lv_at hl 1 rfl) ?_
        refine lv_iload hx hb dT_has_20 (lv_at hl 0 rfl) ?_
        refine lv_iload_n hx hb dT_has_22 rfl (lv_at hl 4 rfl) ?_
        rcases Nat.eq_zero_or_pos (ch ((ch (0 * 4 + pp)) * 4 + qq)) with hz23 | hz23
        · skip
          refine wt_roi (va_runV (As := [.int (nI (ch (0 * 4 + pp))), .int (nI qq)]) (rest := []) ⟨hx, hb, hml, hown, ht⟩ (c_T_childOf_0 l dC dI cI cZ cL q ph pa ch en sz pr gc gb sc sh sl ct tok wt pn lt wp sd (ch (0 * 4 + pp)) qq (by first | omega | (have := hch (0 * 4 + pp); omega) | (have := hch (ch (0 * 4 + pp) * 4 + qq); omega) | (have := hch (ch (ch (0 * 4 + pp) * 4 + qq) * 4 + rr); omega)) hqq hch hz23) (cwV 2 ht (good_V m_150 m_152 ms_0 m_2 m_153) rfl rfl rfl (by decide +kernel) ⟨Nat.le_of_ble_eq_true rfl, Nat.le_of_ble_eq_true rfl⟩) (wt_preV hK hN hP (va_recv hK hP (ci := 1) (q0 := 1) rfl rfl)) rfl rfl hl.1 rfl (lv_room (Nat.le_of_ble_eq_true rfl)) dT_has_23 ⟨Nat.le_of_ble_eq_true rfl, Nat.le_of_ble_eq_true rfl⟩) ?_
          refine lv_istore (lv' := [(5, .int (-1)), (0, .ref (q 1)), (1, .int (nI ww)), (2, .int (nI pp)), (3, .int (nI qq)), (4, .int (-1))]) hx hb dT_has_26 hl (by decide) rfl (fun ls hl => ?_)
          refine lv_iload hx hb dT_has_28 (lv_at hl 0 rfl) ?_
          refine lv_iconst (v := (-1)) hx hb dT_has_30 (by decide) ?_
          refine lv_icmp_eq (tgt := 50) hx hb dT_has_31 (by decide) (fun c_6 => ?_) (fun c_6 => ?_)
          · skip
            refine lv_iload hx hb dT_has_50 (lv_at hl 0 rfl) ?_
            refine lv_iconst (v := (-1)) hx hb dT_has_52 (by decide) ?_
            refine lv_icmp_eq (tgt := 70) hx hb dT_has_53 (by decide) (fun c_7 => ?_) (fun c_7 => ?_)
            · skip
              refine lv_iconst (v := nI 0) hx hb dT_has_70 (by decide) ?_
              exact W.zret (v := nI 0) hx hb hr rfl (fun t ht hW => ⟨_, rfl, (by first | (rw [show wt_d2 ch pp qq = ch (ch (0 * 4 + pp) * 4 + qq) from if_neg (Nat.ne_of_gt hz3)]; first | exact wt_ht hz23 c_7 | exact wt_hf c_7 | exact wt_hz hz23) | exact wt_hz (if_pos hz3)), ht⟩) (fun q h => by cases h) dT_has_71
            · exact absurd rfl c_7
          · exact absurd rfl c_6
        · skip
          refine wt_roi (va_runV (As := [.int (nI (ch (0 * 4 + pp))), .int (nI qq)]) (rest := []) ⟨hx, hb, hml, hown, ht⟩ (c_T_childOf_1 l dC dI cI cZ cL q ph pa ch en sz pr gc gb sc sh sl ct tok wt pn lt wp sd (ch (0 * 4 + pp)) qq (by first | omega | (have := hch (0 * 4 + pp); omega) | (have := hch (ch (0 * 4 + pp) * 4 + qq); omega) | (have := hch (ch (ch (0 * 4 + pp) * 4 + qq) * 4 + rr); omega)) hqq hch hz23) (cwV 2 ht (good_V m_150 m_152 ms_0 m_2 m_153) rfl rfl rfl (by decide +kernel) ⟨Nat.le_of_ble_eq_true rfl, Nat.le_of_ble_eq_true rfl⟩) (wt_preV hK hN hP (va_recv hK hP (ci := 1) (q0 := 1) rfl rfl)) rfl rfl hl.1 rfl (lv_room (Nat.le_of_ble_eq_true rfl)) dT_has_23 ⟨Nat.le_of_ble_eq_true rfl, Nat.le_of_ble_eq_true rfl⟩) ?_
          refine lv_istore (lv' := [(5, .int (nI (ch ((ch (0 * 4 + pp)) * 4 + qq)))), (0, .ref (q 1)), (1, .int (nI ww)), (2, .int (nI pp)), (3, .int (nI qq)), (4, .int (-1))]) hx hb dT_has_26 hl (by decide) rfl (fun ls hl => ?_)
          refine lv_iload hx hb dT_has_28 (lv_at hl 0 rfl) ?_
          refine lv_iconst (v := (-1)) hx hb dT_has_30 (by decide) ?_
          refine lv_icmp_eq (tgt := 50) hx hb dT_has_31 (by decide) (fun c_8 => ?_) (fun c_8 => ?_)
          · exact absurd c_8 (wt_nI_nem1 (by first | omega | (have := hch (0 * 4 + pp); omega) | (have := hch (ch (0 * 4 + pp) * 4 + qq); omega) | (have := hch (ch (ch (0 * 4 + pp) * 4 + qq) * 4 + rr); omega)))
          · skip
            refine lv_iload hx hb dT_has_34 (lv_at hl 5 rfl) ?_
            refine lv_iconst (v := (-1)) hx hb dT_has_36 (by decide) ?_
            refine lv_icmp_eq (tgt := 50) hx hb dT_has_37 (by decide) (fun c_9 => ?_) (fun c_9 => ?_)
            · skip
              refine lv_iload hx hb dT_has_50 (lv_at hl 0 rfl) ?_
              refine lv_iconst (v := (-1)) hx hb dT_has_52 (by decide) ?_
              refine lv_icmp_eq (tgt := 70) hx hb dT_has_53 (by decide) (fun c_10 => ?_) (fun c_10 => ?_)
              · exact absurd c_10 (wt_nI_nem1 (by first | omega | (have := hch (0 * 4 + pp); omega) | (have := hch (ch (0 * 4 + pp) * 4 + qq); omega) | (have := hch (ch (ch (0 * 4 + pp) * 4 + qq) * 4 + rr); omega)))
              · skip
                refine lv_aload_n hx hb dT_has_56 rfl (lv_at hl 1 rfl) ?_
                refine lv_iload hx hb dT_has_57 (lv_at hl 0 rfl) ?_
                refine lv_iload_n hx hb dT_has_59 rfl (lv_at hl 2 rfl) ?_
                refine wt_roi (va_runV (As := [.int (nI (ch ((ch (0 * 4 + pp)) * 4 + qq))), .int (nI ww)]) (rest := []) ⟨hx, hb, hml, hown, ht⟩ (c_T_endsWord l dC dI cI cZ cL q ph pa ch en sz pr gc gb sc sh sl ct tok wt pn lt wp sd (ch ((ch (0 * 4 + pp)) * 4 + qq)) ww (by first | omega | (have := hch (0 * 4 + pp); omega) | (have := hch (ch (0 * 4 + pp) * 4 + qq); omega) | (have := hch (ch (ch (0 * 4 + pp) * 4 + qq) * 4 + rr); omega)) hww) (cwV 2 ht (good_V m_154 m_155 m_156 m_2 m_157) rfl rfl rfl (by decide +kernel) ⟨Nat.le_of_ble_eq_true rfl, Nat.le_of_ble_eq_true rfl⟩) (wt_preV hK hN hP (va_recv hK hP (ci := 1) (q0 := 1) rfl rfl)) rfl rfl hl.1 rfl (lv_room (Nat.le_of_ble_eq_true rfl)) dT_has_60 ⟨Nat.le_of_ble_eq_true rfl, Nat.le_of_ble_eq_true rfl⟩) ?_
                refine wt_bif_eq (tgt := 70) hx hb dT_has_63 (by decide) (fun c_11 => ?_) (fun c_11 => ?_)
                · skip
                  refine lv_iconst (v := nI 0) hx hb dT_has_70 (by decide) ?_
                  exact W.zret (v := nI 0) hx hb hr rfl (fun t ht hW => ⟨_, rfl, (by first | (rw [show wt_d2 ch pp qq = ch (ch (0 * 4 + pp) * 4 + qq) from if_neg (Nat.ne_of_gt hz3)]; first | exact wt_ht hz23 c_11 | exact wt_hf c_11 | exact wt_hz hz23) | exact wt_hz (if_pos hz3)), ht⟩) (fun q h => by cases h) dT_has_71
                · skip
                  refine lv_iconst (v := nI 1) hx hb dT_has_66 (by decide) ?_
                  refine lv_goto (tgt := 71) hx hb dT_has_67 (by decide) ?_
                  exact W.zret (v := nI 1) hx hb hr rfl (fun t ht hW => ⟨_, rfl, (by first | (rw [show wt_d2 ch pp qq = ch (ch (0 * 4 + pp) * 4 + qq) from if_neg (Nat.ne_of_gt hz3)]; first | exact wt_ht hz23 c_11 | exact wt_hf c_11 | exact wt_hz hz23) | exact wt_hz (if_pos hz3)), ht⟩) (fun q h => by cases h) dT_has_71
            · exact absurd rfl c_9

set_option maxHeartbeats 4000000 in
set_option maxRecDepth 100000 in
theorem c_T_has_3 (l : Launch) (dC : Nat → ClassId) (dI : Nat → Nat → Nat) (cI cZ cL : ClassId) (q : Nat → Nat) (ph : Nat → Nat) (pa : Nat → Nat) (ch : Nat → Nat) (en : Nat → Bool) (sz : Nat) (pr : Nat) (gc : Nat → Int32) (gb : Nat → Int32) (sc : Nat → Int32) (sh : Nat → Int32) (sl : Nat → Int32) (ct : Nat) (tok : Nat → Int64) (wt : Nat → Int64) (pn : Nat → Nat) (lt : Nat → Int64) (wp : Int64) (sd : Bool) (ww : Nat) (pp : Nat) (qq : Nat) (rr : Nat) (hww : ww < 4) (hpp : pp < 4) (hqq : qq < 4) (hrr : rr < 4) (hch : ∀ j, ch j ≤ 24) : Met l yT_has (Cond.code yT_has cT_has 6 (some .boolean) :: tb) ({ frames := 1, cells := 0, slots := 0, locals := 23 }) (va_Pc [.ref (q 1), .int (nI ww), .int (nI pp), .int (nI qq), .int (nI rr)] (wt_ro (dC, dI) vwCl [(cI, .int), (cZ, .boolean), (cL, .long)] (wX cI cZ cL q ph pa ch en sz pr gc gb sc sh sl ct tok wt pn lt wp sd))) (vp_Si (fun r => r = (wt_bI (decide (¬ wt_d3 ch pp qq rr = 0) && en (wt_d3 ch pp qq rr * 4 + ww))))) 0 0 (fun _ => False) := by
  refine Met.ofW (cc := cT_has) (maxL := 6) (ret := (some .boolean)) (by decide) rfl ?_
  intro p e s m args below meth c s₁ B hml hv
  obtain ⟨rfl, hP, hK, hN⟩ := hv
  have hx := B.exec
  have hb := B.bytes
  have hr := B.returns
  have hts := atoms_spec (ws := (Cond.code yT_has cT_has 6 (some .boolean) :: tb)) B.pre
  have ht : ∀ w ∈ tb, w.before _ s = true := fun w h => hts w (List.mem_cons_of_mem _ h)
  have hown : s.vm.findClass RT = some m.cls := findClass_of_methodNamed B.named
  have hlocks := B.notSynchronized
  have hl := lv_entry ([.ref (q 1), .int (nI ww), .int (nI pp), .int (nI qq), .int (nI rr)]) (n := 6) (Nat.le_of_ble_eq_true rfl)
  rw [lg_entry_eq]
  generalize (lg_sl ([.ref (q 1), .int (nI ww), .int (nI pp), .int (nI qq), .int (nI rr)]) ++ List.replicate (6 - (lg_sl ([.ref (q 1), .int (nI ww), .int (nI pp), .int (nI qq), .int (nI rr)])).length) Slot.unset).toArray = ls at hl ⊢
  have hl : lv_has ls 6 [(0, .ref (q 1)), (1, .int (nI ww)), (2, .int (nI pp)), (3, .int (nI qq)), (4, .int (nI rr))] := hl
  refine lv_aload_n hx hb dT_has_0 rfl (lv_at hl 0 rfl) ?_
  refine lv_iconst (v := nI 0) hx hb dT_has_1 (by decide) ?_
  refine lv_iload_n hx hb dT_has_2 rfl (lv_at hl 2 rfl) ?_
  rcases Nat.eq_zero_or_pos (ch (0 * 4 + pp)) with hz3 | hz3
  · skip
    refine wt_roi (va_runV (As := [.int (nI 0), .int (nI pp)]) (rest := []) ⟨hx, hb, hml, hown, ht⟩ (c_T_childOf_0 l dC dI cI cZ cL q ph pa ch en sz pr gc gb sc sh sl ct tok wt pn lt wp sd 0 pp (by first | omega | (have := hch (0 * 4 + pp); omega) | (have := hch (ch (0 * 4 + pp) * 4 + qq); omega) | (have := hch (ch (ch (0 * 4 + pp) * 4 + qq) * 4 + rr); omega)) hpp hch hz3) (cwV 2 ht (good_V m_150 m_152 ms_0 m_2 m_153) rfl rfl rfl (by decide +kernel) ⟨Nat.le_of_ble_eq_true rfl, Nat.le_of_ble_eq_true rfl⟩) (wt_preV hK hN hP (va_recv hK hP (ci := 1) (q0 := 1) rfl rfl)) rfl rfl hl.1 rfl (lv_room (Nat.le_of_ble_eq_true rfl)) dT_has_3 ⟨Nat.le_of_ble_eq_true rfl, Nat.le_of_ble_eq_true rfl⟩) ?_
    refine lv_istore (lv' := [(5, .int (-1)), (0, .ref (q 1)), (1, .int (nI ww)), (2, .int (nI pp)), (3, .int (nI qq)), (4, .int (nI rr))]) hx hb dT_has_6 hl (by decide) rfl (fun ls hl => ?_)
    refine lv_iload hx hb dT_has_8 (lv_at hl 0 rfl) ?_
    refine lv_iconst (v := (-1)) hx hb dT_has_10 (by decide) ?_
    refine lv_icmp_eq (tgt := 28) hx hb dT_has_11 (by decide) (fun c_1 => ?_) (fun c_1 => ?_)
    · skip
      refine lv_iload hx hb dT_has_28 (lv_at hl 0 rfl) ?_
      refine lv_iconst (v := (-1)) hx hb dT_has_30 (by decide) ?_
      refine lv_icmp_eq (tgt := 50) hx hb dT_has_31 (by decide) (fun c_2 => ?_) (fun c_2 => ?_)
      · skip
        refine lv_iload hx hb dT_has_50 (lv_at hl 0 rfl) ?_
        refine lv_iconst (v := (-1)) hx hb dT_has_52 (by decide) ?_
        refine lv_icmp_eq (tgt := 70) hx hb dT_has_53 (by decide) (fun c_3 => ?_) (fun c_3 => ?_)
        · skip
          refine lv_iconst (v := nI 0) hx hb dT_has_70 (by decide) ?_
          exact W.zret (v := nI 0) hx hb hr rfl (fun t ht hW => ⟨_, rfl, (by first | (have e2 : wt_d2 ch pp qq = ch (ch (0 * 4 + pp) * 4 + qq) := if_neg (Nat.ne_of_gt hz3); first | (have e3 : wt_d3 ch pp qq rr = ch (ch (ch (0 * 4 + pp) * 4 + qq) * 4 + rr) := (if_neg (by rw [e2]; exact Nat.ne_of_gt hz23)).trans (by rw [e2]); rw [e3]; first | exact wt_ht hz45 c_3 | exact wt_hf c_3 | exact wt_hz hz45) | exact wt_hz (if_pos (e2.trans hz23))) | exact wt_hz (if_pos (if_pos hz3))), ht⟩) (fun q h => by cases h) dT_has_71
        · exact absurd rfl c_3
      · exact absurd rfl c_2
    · exact absurd rfl c_1
  · skip
    refine wt_roi (va_runV (As := [.int (nI 0), .int (nI pp)]) (rest := []) ⟨hx, hb, hml, hown, ht⟩ (c_T_childOf_1 l dC dI cI cZ cL q ph pa ch en sz pr gc gb sc sh sl ct tok wt pn lt wp sd 0 pp (by first | omega | (have := hch (0 * 4 + pp); omega) | (have := hch (ch (0 * 4 + pp) * 4 + qq); omega) | (have := hch (ch (ch (0 * 4 + pp) * 4 + qq) * 4 + rr); omega)) hpp hch hz3) (cwV 2 ht (good_V m_150 m_152 ms_0 m_2 m_153) rfl rfl rfl (by decide +kernel) ⟨Nat.le_of_ble_eq_true rfl, Nat.le_of_ble_eq_true rfl⟩) (wt_preV hK hN hP (va_recv hK hP (ci := 1) (q0 := 1) rfl rfl)) rfl rfl hl.1 rfl (lv_room (Nat.le_of_ble_eq_true rfl)) dT_has_3 ⟨Nat.le_of_ble_eq_true rfl, Nat.le_of_ble_eq_true rfl⟩) ?_
    refine lv_istore (lv' := [(5, .int (nI (ch (0 * 4 + pp)))), (0, .ref (q 1)), (1, .int (nI ww)), (2, .int (nI pp)), (3, .int (nI qq)), (4, .int (nI rr))]) hx hb dT_has_6 hl (by decide) rfl (fun ls hl => ?_)
    refine lv_iload hx hb dT_has_8 (lv_at hl 0 rfl) ?_
    refine lv_iconst (v := (-1)) hx hb dT_has_10 (by decide) ?_
    refine lv_icmp_eq (tgt := 28) hx hb dT_has_11 (by decide) (fun c_4 => ?_) (fun c_4 => ?_)
    · exact absurd c_4 (wt_nI_nem1 (by first | omega | (have := hch (0 * 4 + pp); omega) | (have := hch (ch (0 * 4 + pp) * 4 + qq); omega) | (have := hch (ch (ch (0 * 4 + pp) * 4 + qq) * 4 + rr); omega)))
    · skip
      refine lv_iload_n hx hb dT_has_14 rfl (lv_at hl 4 rfl) ?_
      refine lv_iconst (v := (-1)) hx hb dT_has_15 (by decide) ?_
      refine lv_icmp_eq (tgt := 28) hx hb dT_has_16 (by decide) (fun c_5 => ?_) (fun c_5 => ?_)
      · exact absurd c_5 (wt_nI_nem1 (by first | omega | (have := hch (0 * 4 + pp); omega) | (have := hch (ch (0 * 4 + pp) * 4 + qq); omega) | (have := hch (ch (ch (0 * 4 + pp) * 4 + qq) * 4 + rr); omega)))
      · skip
        refine lv_aload_n hx hb dT_has_19 rfl (lv_at hl 1 rfl) ?_
        refine lv_iload hx hb dT_has_20 (lv_at hl 0 rfl) ?_
        refine lv_iload_n hx hb dT_has_22 rfl (lv_at hl 4 rfl) ?_
        rcases Nat.eq_zero_or_pos (ch ((ch (0 * 4 + pp)) * 4 + qq)) with hz23 | hz23
        · skip
          refine wt_roi (va_runV (As := [.int (nI (ch (0 * 4 + pp))), .int (nI qq)]) (rest := []) ⟨hx, hb, hml, hown, ht⟩ (c_T_childOf_0 l dC dI cI cZ cL q ph pa ch en sz pr gc gb sc sh sl ct tok wt pn lt wp sd (ch (0 * 4 + pp)) qq (by first | omega | (have := hch (0 * 4 + pp); omega) | (have := hch (ch (0 * 4 + pp) * 4 + qq); omega) | (have := hch (ch (ch (0 * 4 + pp) * 4 + qq) * 4 + rr); omega)) hqq hch hz23) (cwV 2 ht (good_V m_150 m_152 ms_0 m_2 m_153) rfl rfl rfl (by decide +kernel) ⟨Nat.le_of_ble_eq_true rfl, Nat.le_of_ble_eq_true rfl⟩) (wt_preV hK hN hP (va_recv hK hP (ci := 1) (q0 := 1) rfl rfl)) rfl rfl hl.1 rfl (lv_room (Nat.le_of_ble_eq_true rfl)) dT_has_23 ⟨Nat.le_of_ble_eq_true rfl, Nat.le_of_ble_eq_true rfl⟩) ?_
          refine lv_istore (lv' := [(5, .int (-1)), (0, .ref (q 1)), (1, .int (nI ww)), (2, .int (nI pp)), (3, .int (nI qq)), (4, .int (nI rr))]) hx hb dT_has_26 hl (by decide) rfl (fun ls hl => ?_)
          refine lv_iload hx hb dT_has_28 (lv_at hl 0 rfl) ?_
          refine lv_iconst (v := (-1)) hx hb dT_has_30 (by decide) ?_
          refine lv_icmp_eq (tgt := 50) hx hb dT_has_31 (by decide) (fun c_6 => ?_) (fun c_6 => ?_)
          · skip
            refine lv_iload hx hb dT_has_50 (lv_at hl 0 rfl) ?_
            refine lv_iconst (v := (-1)) hx hb dT_has_52 (by decide) ?_
            refine lv_icmp_eq (tgt := 70) hx hb dT_has_53 (by decide) (fun c_7 => ?_) (fun c_7 => ?_)
            · skip
              refine lv_iconst (v := nI 0) hx hb dT_has_70 (by decide) ?_
              exact W.zret (v := nI 0) hx hb hr rfl (fun t ht hW => ⟨_, rfl, (by first | (have e2 : wt_d2 ch pp qq = ch (ch (0 * 4 + pp) * 4 + qq) := if_neg (Nat.ne_of_gt hz3); first | (have e3 : wt_d3 ch pp qq rr = ch (ch (ch (0 * 4 + pp) * 4 + qq) * 4 + rr) := (if_neg (by rw [e2]; exact Nat.ne_of_gt hz23)).trans (by rw [e2]); rw [e3]; first | exact wt_ht hz45 c_7 | exact wt_hf c_7 | exact wt_hz hz45) | exact wt_hz (if_pos (e2.trans hz23))) | exact wt_hz (if_pos (if_pos hz3))), ht⟩) (fun q h => by cases h) dT_has_71
            · exact absurd rfl c_7
          · exact absurd rfl c_6
        · skip
          refine wt_roi (va_runV (As := [.int (nI (ch (0 * 4 + pp))), .int (nI qq)]) (rest := []) ⟨hx, hb, hml, hown, ht⟩ (c_T_childOf_1 l dC dI cI cZ cL q ph pa ch en sz pr gc gb sc sh sl ct tok wt pn lt wp sd (ch (0 * 4 + pp)) qq (by first | omega | (have := hch (0 * 4 + pp); omega) | (have := hch (ch (0 * 4 + pp) * 4 + qq); omega) | (have := hch (ch (ch (0 * 4 + pp) * 4 + qq) * 4 + rr); omega)) hqq hch hz23) (cwV 2 ht (good_V m_150 m_152 ms_0 m_2 m_153) rfl rfl rfl (by decide +kernel) ⟨Nat.le_of_ble_eq_true rfl, Nat.le_of_ble_eq_true rfl⟩) (wt_preV hK hN hP (va_recv hK hP (ci := 1) (q0 := 1) rfl rfl)) rfl rfl hl.1 rfl (lv_room (Nat.le_of_ble_eq_true rfl)) dT_has_23 ⟨Nat.le_of_ble_eq_true rfl, Nat.le_of_ble_eq_true rfl⟩) ?_
          refine lv_istore (lv' := [(5, .int (nI (ch ((ch (0 * 4 + pp)) * 4 + qq)))), (0, .ref (q 1)), (1, .int (nI ww)), (2, .int (nI pp)), (3, .int (nI qq)), (4, .int (nI rr))]) hx hb dT_has_26 hl (by decide) rfl (fun ls hl => ?_)
          refine lv_iload hx hb dT_has_28 (lv_at hl 0 rfl) ?_
          refine lv_iconst (v := (-1)) hx hb dT_has_30 (by decide) ?_
          refine lv_icmp_eq (tgt := 50) hx hb dT_has_31 (by decide) (fun c_8 => ?_) (fun c_8 => ?_)
          · exact absurd c_8 (wt_nI_nem1 (by first | omega | (have := hch (0 * 4 + pp); omega) | (have := hch (ch (0 * 4 + pp) * 4 + qq); omega) | (have := hch (ch (ch (0 * 4 + pp) * 4 + qq) * 4 + rr); omega)))
          · skip
            refine lv_iload hx hb dT_has_34 (lv_at hl 5 rfl) ?_
            refine lv_iconst (v := (-1)) hx hb dT_has_36 (by decide) ?_
            refine lv_icmp_eq (tgt := 50) hx hb dT_has_37 (by decide) (fun c_9 => ?_) (fun c_9 => ?_)
            · exact absurd c_9 (wt_nI_nem1 (by first | omega | (have := hch (0 * 4 + pp); omega) | (have := hch (ch (0 * 4 + pp) * 4 + qq); omega) | (have := hch (ch (ch (0 * 4 + pp) * 4 + qq) * 4 + rr); omega)))
            · skip
              refine lv_aload_n hx hb dT_has_40 rfl (lv_at hl 1 rfl) ?_
              refine lv_iload hx hb dT_has_41 (lv_at hl 0 rfl) ?_
              refine lv_iload hx hb dT_has_43 (lv_at hl 5 rfl) ?_
              rcases Nat.eq_zero_or_pos (ch ((ch ((ch (0 * 4 + pp)) * 4 + qq)) * 4 + rr)) with hz45 | hz45
              · skip
                refine wt_roi (va_runV (As := [.int (nI (ch ((ch (0 * 4 + pp)) * 4 + qq))), .int (nI rr)]) (rest := []) ⟨hx, hb, hml, hown, ht⟩ (c_T_childOf_0 l dC dI cI cZ cL q ph pa ch en sz pr gc gb sc sh sl ct tok wt pn lt wp sd (ch ((ch (0 * 4 + pp)) * 4 + qq)) rr (by first | omega | (have := hch (0 * 4 + pp); omega) | (have := hch (ch (0 * 4 + pp) * 4 + qq); omega) | (have := hch (ch (ch (0 * 4 + pp) * 4 + qq) * 4 + rr); omega)) hrr hch hz45) (cwV 2 ht (good_V m_150 m_152 ms_0 m_2 m_153) rfl rfl rfl (by decide +kernel) ⟨Nat.le_of_ble_eq_true rfl, Nat.le_of_ble_eq_true rfl⟩) (wt_preV hK hN hP (va_recv hK hP (ci := 1) (q0 := 1) rfl rfl)) rfl rfl hl.1 rfl (lv_room (Nat.le_of_ble_eq_true rfl)) dT_has_45 ⟨Nat.le_of_ble_eq_true rfl, Nat.le_of_ble_eq_true rfl⟩) ?_
                refine lv_istore (lv' := [(5, .int (-1)), (0, .ref (q 1)), (1, .int (nI ww)), (2, .int (nI pp)), (3, .int (nI qq)), (4, .int (nI rr))]) hx hb dT_has_48 hl (by decide) rfl (fun ls hl => ?_)
                refine lv_iload hx hb dT_has_50 (lv_at hl 0 rfl) ?_
                refine lv_iconst (v := (-1)) hx hb dT_has_52 (by decide) ?_
                refine lv_icmp_eq (tgt := 70) hx hb dT_has_53 (by decide) (fun c_10 => ?_) (fun c_10 => ?_)
                · skip
                  refine lv_iconst (v := nI 0) hx hb dT_has_70 (by decide) ?_
                  exact W.zret (v := nI 0) hx hb hr rfl (fun t ht hW => ⟨_, rfl, (by first | (have e2 : wt_d2 ch pp qq = ch (ch (0 * 4 + pp) * 4 + qq) := if_neg (Nat.ne_of_gt hz3); first | (have e3 : wt_d3 ch pp qq rr = ch (ch (ch (0 * 4 + pp) * 4 + qq) * 4 + rr) := (if_neg (by rw [e2]; exact Nat.ne_of_gt hz23)).trans (by rw [e2]); rw [e3]; first | exact wt_ht hz45 c_10 | exact wt_hf c_10 | exact wt_hz hz45) | exact wt_hz (if_pos (e2.trans hz23))) | exact wt_hz (if_pos (if_pos hz3))), ht⟩) (fun q h => by cases h) dT_has_71
                · exact absurd rfl c_10
              · skip
                refine wt_roi (va_runV (As := [.int (nI (ch ((ch (0 * 4 + pp)) * 4 + qq))), .int (nI rr)]) (rest := []) ⟨hx, hb, hml, hown, ht⟩ (c_T_childOf_1 l dC dI cI cZ cL q ph pa ch en sz pr gc gb sc sh sl ct tok wt pn lt wp sd (ch ((ch (0 * 4 + pp)) * 4 + qq)) rr (by first | omega | (have := hch (0 * 4 + pp); omega) | (have := hch (ch (0 * 4 + pp) * 4 + qq); omega) | (have := hch (ch (ch (0 * 4 + pp) * 4 + qq) * 4 + rr); omega)) hrr hch hz45) (cwV 2 ht (good_V m_150 m_152 ms_0 m_2 m_153) rfl rfl rfl (by decide +kernel) ⟨Nat.le_of_ble_eq_true rfl, Nat.le_of_ble_eq_true rfl⟩) (wt_preV hK hN hP (va_recv hK hP (ci := 1) (q0 := 1) rfl rfl)) rfl rfl hl.1 rfl (lv_room (Nat.le_of_ble_eq_true rfl)) dT_has_45 ⟨Nat.le_of_ble_eq_true rfl, Nat.le_of_ble_eq_true rfl⟩) ?_
                refine lv_istore (lv' := [(5, .int (nI (ch ((ch ((ch (0 * 4 + pp)) * 4 + qq)) * 4 + rr)))), (0, .ref (q 1)), (1, .int (nI ww)), (2, .int (nI pp)), (3, .int (nI qq)), (4, .int (nI rr))]) hx hb dT_has_48 hl (by decide) rfl (fun ls hl => ?_)
                refine lv_iload hx hb dT_has_50 (lv_at hl 0 rfl) ?_
                refine lv_iconst (v := (-1)) hx hb dT_has_52 (by decide) ?_
                refine lv_icmp_eq (tgt := 70) hx hb dT_has_53 (by decide) (fun c_11 => ?_) (fun c_11 => ?_)
                · exact absurd c_11 (wt_nI_nem1 (by first | omega | (have := hch (0 * 4 + pp); omega) | (have := hch (ch (0 * 4 + pp) * 4 + qq); omega) | (have := hch (ch (ch (0 * 4 + pp) * 4 + qq) * 4 + rr); omega)))
                · skip
                  refine lv_aload_n hx hb dT_has_56 rfl (lv_at hl 1 rfl) ?_
                  refine lv_iload hx hb dT_has_57 (lv_at hl 0 rfl) ?_
                  refine lv_iload_n hx hb dT_has_59 rfl (lv_at hl 2 rfl) ?_
                  refine wt_roi (va_runV (As := [.int (nI (ch ((ch ((ch (0 * 4 + pp)) * 4 + qq)) * 4 + rr))), .int (nI ww)]) (rest := []) ⟨hx, hb, hml, hown, ht⟩ (c_T_endsWord l dC dI cI cZ cL q ph pa ch en sz pr gc gb sc sh sl ct tok wt pn lt wp sd (ch ((ch ((ch (0 * 4 + pp)) * 4 + qq)) * 4 + rr)) ww (by first | omega | (have := hch (0 * 4 + pp); omega) | (have := hch (ch (0 * 4 + pp) * 4 + qq); omega) | (have := hch (ch (ch (0 * 4 + pp) * 4 + qq) * 4 + rr); omega)) hww) (cwV 2 ht (good_V m_154 m_155 m_156 m_2 m_157) rfl rfl rfl (by decide +kernel) ⟨Nat.le_of_ble_eq_true rfl, Nat.le_of_ble_eq_true rfl⟩) (wt_preV hK hN hP (va_recv hK hP (ci := 1) (q0 := 1) rfl rfl)) rfl rfl hl.1 rfl (lv_room (Nat.le_of_ble_eq_true rfl)) dT_has_60 ⟨Nat.le_of_ble_eq_true rfl, Nat.le_of_ble_eq_true rfl⟩) ?_
                  refine wt_bif_eq (tgt := 70) hx hb dT_has_63 (by decide) (fun c_12 => ?_) (fun c_12 => ?_)
                  · skip
                    refine lv_iconst (v := nI 0) hx hb dT_has_70 (by decide) ?_
                    exact W.zret (v := nI 0) hx hb hr rfl (fun t ht hW => ⟨_, rfl, (by first | (have e2 : wt_d2 ch pp qq = ch (ch (0 * 4 + pp) * 4 + qq) := if_neg (Nat.ne_of_gt hz3); first | (have e3 : wt_d3 ch pp qq rr = ch (ch (ch (0 * 4 + pp) * 4 + qq) * 4 + rr) := (if_neg (by rw [e2]; exact Nat.ne_of_gt hz23)).trans (by rw [e2]); rw [e3]; first | exact wt_ht hz45 c_12 | exact wt_hf c_12 | exact wt_hz hz45) | exact wt_hz (if_pos (e2.trans hz23))) | exact wt_hz (if_pos (if_pos hz3))), ht⟩) (fun q h => by cases h) dT_has_71
                  · skip
                    refine lv_iconst (v := nI 1) hx hb dT_has_66 (by decide) ?_
                    refine lv_goto (tgt := 71) hx hb dT_has_67 (by decide) ?_
                    exact W.zret (v := nI 1) hx hb hr rfl (fun t ht hW => ⟨_, rfl, (by first | (have e2 : wt_d2 ch pp qq = ch (ch (0 * 4 + pp) * 4 + qq) := if_neg (Nat.ne_of_gt hz3); first | (have e3 : wt_d3 ch pp qq rr = ch (ch (ch (0 * 4 + pp) * 4 + qq) * 4 + rr) := (if_neg (by rw [e2]; exact Nat.ne_of_gt hz23)).trans (by rw [e2]); rw [e3]; first | exact wt_ht hz45 c_12 | exact wt_hf c_12 | exact wt_hz hz45) | exact wt_hz (if_pos (e2.trans hz23))) | exact wt_hz (if_pos (if_pos hz3))), ht⟩) (fun q h => by cases h) dT_has_71
