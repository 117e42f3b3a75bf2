/-! the reference's search, as it computes -/
theorem bet_1 {v d w nx nd nc : Int32} (h : nx < 0) : wt_bet v d w nx nd nc = true := by unfold wt_bet; rw [decide_eq_true h]; rfl
theorem bet_2 {v d w nx nd nc : Int32} (h : v < nx) : wt_bet v d w nx nd nc = true := by unfold wt_bet; rw [decide_eq_true h, Bool.true_or, Bool.or_true]
theorem bet_3 {v d w nx nd nc : Int32} (h : v = nx) (h2 : d < nd) : wt_bet v d w nx nd nc = true := by unfold wt_bet; rw [decide_eq_true h, decide_eq_true h2, Bool.true_or, Bool.true_and, Bool.or_true, Bool.or_true]
theorem bet_4 {v d w nx nd nc : Int32} (h : v = nx) (h2 : d = nd) (h3 : ¬ nc ≤ w) : wt_bet v d w nx nd nc = true := by unfold wt_bet; rw [decide_eq_true h, decide_eq_true h2, decide_eq_true (Int32.not_le.mp h3)]; simp
theorem bet_f1 {v d w nx nd nc : Int32} (h : ¬ nx < 0) (h2 : ¬ v < nx) (h3 : ¬ v = nx) : wt_bet v d w nx nd nc = false := by unfold wt_bet; rw [decide_eq_false h, decide_eq_false h2, decide_eq_false h3]; rfl
theorem bet_f2 {v d w nx nd nc : Int32} (h : ¬ nx < 0) (h2 : ¬ v < nx) (h3 : ¬ d < nd) (h4 : ¬ d = nd) : wt_bet v d w nx nd nc = false := by unfold wt_bet; rw [decide_eq_false h, decide_eq_false h2, decide_eq_false h3, decide_eq_false h4]; simp
theorem bet_f3 {v d w nx nd nc : Int32} (h : ¬ nx < 0) (h2 : ¬ v < nx) (h3 : ¬ d < nd) (h4 : nc ≤ w) : wt_bet v d w nx nd nc = false := by unfold wt_bet; rw [decide_eq_false h, decide_eq_false h2, decide_eq_false h3, decide_eq_false (fun q => absurd h4 (Int32.not_le.mpr q))]; simp
theorem wt_ext {D : va_G} {cl : List vw_C} {ws : va_W} {H : Heap} {k a : Nat} {cA : ClassId} {x y : vp_A} (h : va_P D cl ws H) (hk : ws[k]? = some (a, .inl (cA, x))) (e : vp_cell cA x = vp_cell cA y) : va_P D cl (ws.set k (a, .inl (cA, y))) H := by
  intro j q hj
  by_cases hjk : j = k
  · subst hjk
    rw [List.getElem?_set_self (List.getElem?_eq_some_iff.mp hk).1] at hj
    cases hj
    have h0 := h j _ hk
    show H[a]? = some (vp_cell cA y)
    rw [← e]
    exact h0
  · rw [List.getElem?_set_ne (Ne.symm hjk)] at hj
    exact h j q hj
/-- what lives is at a place -/
def pv (mn : Nat) (zs : Nat → Nat) (i : Nat) : Prop := i / 225 < mn ∧ i / 25 % 9 < 3 * zs (i / 225) ∧ (i % 5 = 4 → i / 5 % 5 = 4)
def pvs (mn : Nat) (zs : Nat → Nat) (f : Nat → Int32) : Prop := ∀ i, i < 1800 → 0 ≤ f i → pv mn zs i
theorem pvs_put {mn : Nat} {zs : Nat → Nat} {x : wt_N} {to : Nat} {v d w : Int32} (h : pvs mn zs x.1) (hto : pv mn zs to) : pvs mn zs (wt_put x to v d w).1 := by
  unfold wt_put
  split
  · intro i hi hp
    by_cases q : i = to
    · subst q; exact hto
    · exact h i hi (by have e : upd x.1 to v i = x.1 i := pk_un q; rw [← e]; exact hp)
  · exact h
theorem pv_of {mn k p uv : Nat} {zs : Nat → Nat} (hk : k < mn) (hp9 : p < 9) (hp : p < 3 * zs k) (huv : uv < 25) (hv : uv % 5 = 4 → uv / 5 = 4) : pv mn zs (225 * k + 25 * p + uv) := by
  have e1 : (225 * k + 25 * p + uv) / 225 = k := by omega
  have e2 : (225 * k + 25 * p + uv) / 25 % 9 = p := by omega
  refine ⟨by rw [e1]; exact hk, by rw [e1, e2]; exact hp, fun q => ?_⟩
  have := hv (by omega)
  omega
theorem pvs_up {mn : Nat} {zs : Nat → Nat} {step : Nat → wt_N → wt_N} : ∀ (r i : Nat) (x : wt_N), pvs mn zs x.1 → (∀ j y, i ≤ j → j < i + r → pvs mn zs y.1 → pvs mn zs (step j y).1) → pvs mn zs (wt_up step r i x).1
  | 0, _, _, h, _ => h
  | r + 1, i, x, h, hs => pvs_up r (i + 1) (step i x) (hs i x (Nat.le_refl i) (by omega) h) (fun j y h1 h2 => hs j y (by omega) (by omega))
theorem pvs_go {mn : Nat} {zs wd pn : Nat → Nat} {kn : Nat → Bool} {co bo ho lv so ea dn cd : Nat → Int32} {t i : Nat} {x : wt_N} (hmn : mn ≤ 8) (hz1 : ∀ k, k < mn → 1 ≤ zs k) (hzs : ∀ k, zs k ≤ 3) (hwd : ∀ k, wd k < 4) (hi : i < 1800) (hp : pv mn zs i) (h : pvs mn zs x.1) : pvs mn zs (wt_go pn wd zs mn kn co bo ho lv so ea dn cd t i x).1 := by
  have h3 := hzs (i / 225)
  have hw := hwd (i / 225)
  have hy : pvs mn zs (wt_come pn so t (i / 225) (i / 25 % 9) (i % 25) (ea i + ho (i / 25 % 9 % 3)) (dn i) (cd i) x).1 := pvs_put h (pv_of hp.1 (by omega) hp.2.1 (by omega) (fun q => by have := hp.2.2 (by omega); omega))
  unfold wt_go wt_goB
  split
  · exact pvs_put hy (pv_of hp.1 (by omega) (by assumption) (by omega) (fun q => by have := hp.2.2 (by omega); omega))
  · split
    · exact hy
    · exact pvs_up mn 0 _ hy (fun j y _ hj hy => pvs_put hy (pv_of (by omega) (by omega) (by have := hz1 j (by omega); omega) (by omega) (fun q => by omega)))
theorem m1_neg : ¬ (0 : Int32) ≤ -1 := by decide

set_option maxHeartbeats 4000000 in
set_option maxRecDepth 100000 in
theorem c_M_come (l : Launch) (dC : Nat → ClassId) (dI : Nat → Nat → Nat) (cI cZ cL : ClassId) (q : Nat → Nat) (sz0 : Nat) (kn : Nat → Bool) (co : Nat → Int32) (bo : Nat → Int32) (mn : Nat) (wd : Nat → Nat) (zs : Nat → Nat) (fp : Nat → Int32) (ho : Nat → Int32) (lv : Nat → Int32) (fr : Nat) (so : Nat → Int32) (ea : Nat → Int32) (dn : Nat → Int32) (cd : Nat → Int32) (nx : Nat → Int32) (nd : Nat → Int32) (nc : Nat → Int32) (al : Int32) (wo : Int32) (wh : Int32) (pn : Nat → Nat) (tt : Nat) (kk : Nat) (pp : Nat) (uv : Nat) (c0 : Int32) (d0 : Int32) (w0 : Int32) (htt : tt < 15) (hkk : kk < 8) (hpp : pp < 9) (huv : uv < 25) (hfp : fp (3 * kk + pp / 3) = nI (pn (3 * kk + pp / 3))) (hpn : pn (3 * kk + pp / 3) < 4) : Met l yM_come (Cond.code yM_come cM_come 11 none :: tb) ({ frames := 0, cells := 0, slots := 0, locals := 0 }) (va_Pc [.ref (q 0), .int (nI tt), .int (nI kk), .int (nI pp), .int (nI uv), .int c0, .int d0, .int w0] (wt_rw (dC, dI) vwCl [(cI, .int), (cZ, .boolean), (cL, .long)] (wM cI cZ cL q kn co bo mn wd zs fp ho lv fr so ea dn cd nx nd nc al wo wh) sz0)) (va_Qv (fun _ : Unit => True) (wt_B (dC, dI) vwCl (va_A (wM cI cZ cL q kn co bo mn wd zs fp ho lv fr so ea dn cd nx nd nc al wo wh) sz0) (wM cI cZ cL q kn co bo mn wd zs fp ho lv fr so ea dn cd ((wt_come pn so tt kk pp uv c0 d0 w0 (nx, nd, nc)).1) ((wt_come pn so tt kk pp uv c0 d0 w0 (nx, nd, nc)).2.1) ((wt_come pn so tt kk pp uv c0 d0 w0 (nx, nd, nc)).2.2) al wo wh)) (va_A (wM cI cZ cL q kn co bo mn wd zs fp ho lv fr so ea dn cd nx nd nc al wo wh) sz0)) 0 0 (va_A (wM cI cZ cL q kn co bo mn wd zs fp ho lv fr so ea dn cd nx nd nc al wo wh) sz0) := by
  refine Met.ofW (cc := cM_come) (maxL := 11) (ret := none) (by decide) rfl ?_
  intro p e s m args below meth c s₁ B hml hv
  obtain ⟨rfl, hsz, hP, hK, hN, hD0⟩ := hv
  have hx := B.exec
  have hb := B.bytes
  have hr := B.returns
  have hts := atoms_spec (ws := (Cond.code yM_come cM_come 11 none :: tb)) B.pre
  have ht : ∀ w ∈ tb, w.before _ s = true := fun w h => hts w (List.mem_cons_of_mem _ h)
  have hown : s.vm.findClass RM = some m.cls := findClass_of_methodNamed B.named
  have hlocks := B.notSynchronized
  subst hsz
  have hD := hD0.self (sz := s.heap.size)
  generalize hAe : va_A (wM cI cZ cL q kn co bo mn wd zs fp ho lv fr so ea dn cd nx nd nc al wo wh) s.heap.size = A at hD ⊢
  have hA : ∀ q : Nat, s.heap.size ≤ q → A q := fun q h => by rw [← hAe]; exact Or.inr h
  clear hAe hD0
  have hS : va_S A s.heap s.heap [] := va_S.rf
  have hl := lv_entry ([.ref (q 0), .int (nI tt), .int (nI kk), .int (nI pp), .int (nI uv), .int c0, .int d0, .int w0]) (n := 11) (Nat.le_of_ble_eq_true rfl)
  rw [lg_entry_eq]
  generalize (lg_sl ([.ref (q 0), .int (nI tt), .int (nI kk), .int (nI pp), .int (nI uv), .int c0, .int d0, .int w0]) ++ List.replicate (11 - (lg_sl ([.ref (q 0), .int (nI tt), .int (nI kk), .int (nI pp), .int (nI uv), .int c0, .int d0, .int w0])).length) Slot.unset).toArray = ls at hl ⊢
  have hl : lv_has ls 11 [(0, .ref (q 0)), (1, .int (nI tt)), (2, .int (nI kk)), (3, .int (nI pp)), (4, .int (nI uv)), (5, .int c0), (6, .int d0), (7, .int w0)] := hl
  refine lv_sipush (v := nI 225) hx hb dM_come_0 (by decide) ?_
  refine lv_iload_n hx hb dM_come_3 rfl (lv_at hl 2 rfl) ?_
  refine wt_imul hx hb dM_come_4 ?_
  refine lv_bipush (v := nI 25) hx hb dM_come_5 (by decide) ?_
  refine lv_iload_n hx hb dM_come_7 rfl (lv_at hl 3 rfl) ?_
  refine wt_imul hx hb dM_come_8 ?_
  refine wt_iadd hx hb dM_come_9 ?_
  refine lv_iload hx hb dM_come_10 (lv_at hl 4 rfl) ?_
  refine wt_iadd hx hb dM_come_12 ?_
  refine lv_istore (lv' := [(8, .int (nI (225 * kk + 25 * pp + uv))), (0, .ref (q 0)), (1, .int (nI tt)), (2, .int (nI kk)), (3, .int (nI pp)), (4, .int (nI uv)), (5, .int c0), (6, .int d0), (7, .int w0)]) hx hb dM_come_13 hl (by decide) rfl (fun ls hl => ?_)
  refine lv_iload hx hb dM_come_15 (lv_at hl 6 rfl) ?_
  refine lv_aload_n hx hb dM_come_17 rfl (lv_at hl 1 rfl) ?_
  refine va_get (D := (dC, dI)) (ci := 5) (v := .ref (q 9)) (C := RM) (T := TM) (N := 20) hx hb ht inM hown hK hP 0 rfl rfl 10 (by decide) (ht _ m_404) (fun _ h9 => h9) rfl dM_come_18 ?_
  refine lv_bipush (v := nI 12) hx hb dM_come_21 (by decide) ?_
  refine lv_iload_n hx hb dM_come_23 rfl (lv_at hl 2 rfl) ?_
  refine wt_imul hx hb dM_come_24 ?_
  refine lv_iconst (v := nI 3) hx hb dM_come_25 (by decide) ?_
  refine lv_aload_n hx hb dM_come_26 rfl (lv_at hl 1 rfl) ?_
  refine va_get (D := (dC, dI)) (ci := 5) (v := .ref (q 6)) (C := RM) (T := TM) (N := 20) hx hb ht inM hown hK hP 0 rfl rfl 6 (by decide) (ht _ m_400) (fun _ h9 => h9) rfl dM_come_27 ?_
  refine lv_iconst (v := nI 3) hx hb dM_come_30 (by decide) ?_
  refine lv_iload_n hx hb dM_come_31 rfl (lv_at hl 3 rfl) ?_
  refine wt_imul hx hb dM_come_32 ?_
  refine lv_iload_n hx hb dM_come_33 rfl (lv_at hl 4 rfl) ?_
  refine lv_iconst (v := nI 3) hx hb dM_come_34 (by decide) ?_
  refine wt_idiv hx hb dM_come_35 (by omega) (by decide) (by decide) ?_
  refine wt_iadd hx hb dM_come_36 ?_
  refine wt_iald hx hb hK hP 6 0 rfl rfl (k := 3 * kk + pp / 3) (by omega) (by decide) dM_come_37 ?_
  rw [show (.int (fp (3 * kk + pp / 3)) : Value) = .int (nI (pn (3 * kk + pp / 3))) from (congrArg Value.int hfp)]
  refine wt_imul hx hb dM_come_38 ?_
  refine wt_iadd hx hb dM_come_39 ?_
  refine lv_iload_n hx hb dM_come_40 rfl (lv_at hl 4 rfl) ?_
  refine lv_iconst (v := nI 3) hx hb dM_come_41 (by decide) ?_
  refine wt_irem hx hb dM_come_42 (by omega) (by decide) (by decide) ?_
  refine wt_iadd hx hb dM_come_43 ?_
  refine wt_iald hx hb hK hP 9 0 rfl rfl (k := 12 * tt + 3 * pn (3 * kk + pp / 3) + pp % 3) (by omega) (by decide) dM_come_44 ?_
  refine lv_iadd hx hb dM_come_45 ?_
  refine lv_istore (lv' := [(9, .int (c0 + so (12 * tt + 3 * pn (3 * kk + pp / 3) + pp % 3))), (8, .int (nI (225 * kk + 25 * pp + uv))), (0, .ref (q 0)), (1, .int (nI tt)), (2, .int (nI kk)), (3, .int (nI pp)), (4, .int (nI uv)), (5, .int c0), (6, .int d0), (7, .int w0)]) hx hb dM_come_46 hl (by decide) rfl (fun ls hl => ?_)
  refine lv_aload_n hx hb dM_come_48 rfl (lv_at hl 2 rfl) ?_
  refine va_get (D := (dC, dI)) (ci := 5) (v := .ref (q 13)) (C := RM) (T := TM) (N := 20) hx hb ht inM hown hK hP 0 rfl rfl 14 (by decide) (ht _ m_408) (fun _ h9 => h9) rfl dM_come_49 ?_
  refine lv_iload hx hb dM_come_52 (lv_at hl 1 rfl) ?_
  refine wt_iald hx hb hK hP 13 0 rfl rfl (k := 225 * kk + 25 * pp + uv) (by omega) (by decide) dM_come_54 ?_
  refine lv_if_lt (tgt := 118) hx hb dM_come_55 (by decide) (fun c_1 => ?_) (fun c_1 => ?_)
  · skip
    refine lv_iconst (v := nI 1) hx hb dM_come_118 (by decide) ?_
    refine lv_goto (tgt := 123) hx hb dM_come_119 (by decide) ?_
    refine lv_istore (lv' := [(10, .int (nI 1)), (9, .int (c0 + so (12 * tt + 3 * pn (3 * kk + pp / 3) + pp % 3))), (8, .int (nI (225 * kk + 25 * pp + uv))), (0, .ref (q 0)), (1, .int (nI tt)), (2, .int (nI kk)), (3, .int (nI pp)), (4, .int (nI uv)), (5, .int c0), (6, .int d0), (7, .int w0)]) hx hb dM_come_123 hl (by decide) rfl (fun ls hl => ?_)
    refine lv_iload hx hb dM_come_125 (lv_at hl 0 rfl) ?_
    refine wt_if_eq (tgt := 157) hx hb dM_come_127 (by decide) (by omega) (fun c_2 => ?_) (fun c_2 => ?_)
    · exact absurd c_2 (by decide)
    · skip
      refine lv_aload_n hx hb dM_come_130 rfl (lv_at hl 3 rfl) ?_
      refine va_get (D := (dC, dI)) (ci := 5) (v := .ref (q 13)) (C := RM) (T := TM) (N := 20) hx hb ht inM hown hK hP 0 rfl rfl 14 (by decide) (ht _ m_408) (fun _ h9 => h9) rfl dM_come_131 ?_
      refine lv_iload hx hb dM_come_134 (lv_at hl 2 rfl) ?_
      refine lv_iload hx hb dM_come_136 (lv_at hl 1 rfl) ?_
      refine wt_iast hx hb hK hP hD hS 13 0 rfl rfl (k := 225 * kk + 25 * pp + uv) (by omega) (by decide) dM_come_138 (fun H locs hP hD hS => ?_)
      have hP : va_P (dC, dI) vwCl (wM cI cZ cL q kn co bo mn wd zs fp ho lv fr so ea dn cd (upd nx (225 * kk + 25 * pp + uv) (c0 + so (12 * tt + 3 * pn (3 * kk + pp / 3) + pp % 3))) nd nc al wo wh) H := hP
      have hD : va_D A (wM cI cZ cL q kn co bo mn wd zs fp ho lv fr so ea dn cd (upd nx (225 * kk + 25 * pp + uv) (c0 + so (12 * tt + 3 * pn (3 * kk + pp / 3) + pp % 3))) nd nc al wo wh) := hD
      refine lv_aload_n hx hb dM_come_139 rfl (lv_at hl 3 rfl) ?_
      refine va_get (D := (dC, dI)) (ci := 5) (v := .ref (q 14)) (C := RM) (T := TM) (N := 20) hx hb ht inM hown hK hP 0 rfl rfl 15 (by decide) (ht _ m_409) (fun _ h9 => h9) rfl dM_come_140 ?_
      refine lv_iload hx hb dM_come_143 (lv_at hl 2 rfl) ?_
      refine lv_iload hx hb dM_come_145 (lv_at hl 9 rfl) ?_
      refine wt_iast hx hb hK hP hD hS 14 0 rfl rfl (k := 225 * kk + 25 * pp + uv) (by omega) (by decide) dM_come_147 (fun H locs hP hD hS => ?_)
      have hP : va_P (dC, dI) vwCl (wM cI cZ cL q kn co bo mn wd zs fp ho lv fr so ea dn cd (upd nx (225 * kk + 25 * pp + uv) (c0 + so (12 * tt + 3 * pn (3 * kk + pp / 3) + pp % 3))) (upd nd (225 * kk + 25 * pp + uv) d0) nc al wo wh) H := hP
      have hD : va_D A (wM cI cZ cL q kn co bo mn wd zs fp ho lv fr so ea dn cd (upd nx (225 * kk + 25 * pp + uv) (c0 + so (12 * tt + 3 * pn (3 * kk + pp / 3) + pp % 3))) (upd nd (225 * kk + 25 * pp + uv) d0) nc al wo wh) := hD
      refine lv_aload_n hx hb dM_come_148 rfl (lv_at hl 3 rfl) ?_
      refine va_get (D := (dC, dI)) (ci := 5) (v := .ref (q 15)) (C := RM) (T := TM) (N := 20) hx hb ht inM hown hK hP 0 rfl rfl 16 (by decide) (ht _ m_410) (fun _ h9 => h9) rfl dM_come_149 ?_
      refine lv_iload hx hb dM_come_152 (lv_at hl 2 rfl) ?_
      refine lv_iload hx hb dM_come_154 (lv_at hl 10 rfl) ?_
      refine wt_iast hx hb hK hP hD hS 15 0 rfl rfl (k := 225 * kk + 25 * pp + uv) (by omega) (by decide) dM_come_156 (fun H locs hP hD hS => ?_)
      have hP : va_P (dC, dI) vwCl (wM cI cZ cL q kn co bo mn wd zs fp ho lv fr so ea dn cd (upd nx (225 * kk + 25 * pp + uv) (c0 + so (12 * tt + 3 * pn (3 * kk + pp / 3) + pp % 3))) (upd nd (225 * kk + 25 * pp + uv) d0) (upd nc (225 * kk + 25 * pp + uv) w0) al wo wh) H := hP
      have hD : va_D A (wM cI cZ cL q kn co bo mn wd zs fp ho lv fr so ea dn cd (upd nx (225 * kk + 25 * pp + uv) (c0 + so (12 * tt + 3 * pn (3 * kk + pp / 3) + pp % 3))) (upd nd (225 * kk + 25 * pp + uv) d0) (upd nc (225 * kk + 25 * pp + uv) w0) al wo wh) := hD
      have hP9 : va_P (dC, dI) vwCl (wM cI cZ cL q kn co bo mn wd zs fp ho lv fr so ea dn cd ((wt_come pn so tt kk pp uv c0 d0 w0 (nx, nd, nc)).1) ((wt_come pn so tt kk pp uv c0 d0 w0 (nx, nd, nc)).2.1) ((wt_come pn so tt kk pp uv c0 d0 w0 (nx, nd, nc)).2.2) al wo wh) H := by rw [show ((wt_come pn so tt kk pp uv c0 d0 w0 (nx, nd, nc)).1) = (upd nx (225 * kk + 25 * pp + uv) (c0 + so (12 * tt + 3 * pn (3 * kk + pp / 3) + pp % 3))) from (by first | rw [show wt_come pn so tt kk pp uv c0 d0 w0 (nx, nd, nc) = _ from if_pos (by first | exact bet_1 c_1 | exact bet_2 trivial | exact bet_3 trivial trivial | exact bet_4 trivial trivial trivial)] | rw [show wt_come pn so tt kk pp uv c0 d0 w0 (nx, nd, nc) = _ from if_neg (by rw [show wt_bet _ _ _ _ _ _ = false by first | exact bet_f1 c_1 trivial trivial | exact bet_f2 c_1 trivial trivial trivial | exact bet_f3 c_1 trivial trivial trivial]; decide)]), show ((wt_come pn so tt kk pp uv c0 d0 w0 (nx, nd, nc)).2.1) = (upd nd (225 * kk + 25 * pp + uv) d0) from (by first | rw [show wt_come pn so tt kk pp uv c0 d0 w0 (nx, nd, nc) = _ from if_pos (by first | exact bet_1 c_1 | exact bet_2 trivial | exact bet_3 trivial trivial | exact bet_4 trivial trivial trivial)] | rw [show wt_come pn so tt kk pp uv c0 d0 w0 (nx, nd, nc) = _ from if_neg (by rw [show wt_bet _ _ _ _ _ _ = false by first | exact bet_f1 c_1 trivial trivial | exact bet_f2 c_1 trivial trivial trivial | exact bet_f3 c_1 trivial trivial trivial]; decide)]), show ((wt_come pn so tt kk pp uv c0 d0 w0 (nx, nd, nc)).2.2) = (upd nc (225 * kk + 25 * pp + uv) w0) from (by first | rw [show wt_come pn so tt kk pp uv c0 d0 w0 (nx, nd, nc) = _ from if_pos (by first | exact bet_1 c_1 | exact bet_2 trivial | exact bet_3 trivial trivial | exact bet_4 trivial trivial trivial)] | rw [show wt_come pn so tt kk pp uv c0 d0 w0 (nx, nd, nc) = _ from if_neg (by rw [show wt_bet _ _ _ _ _ _ = false by first | exact bet_f1 c_1 trivial trivial | exact bet_f2 c_1 trivial trivial trivial | exact bet_f3 c_1 trivial trivial trivial]; decide)])]; exact hP
      have hD9 : va_D A (wM cI cZ cL q kn co bo mn wd zs fp ho lv fr so ea dn cd ((wt_come pn so tt kk pp uv c0 d0 w0 (nx, nd, nc)).1) ((wt_come pn so tt kk pp uv c0 d0 w0 (nx, nd, nc)).2.1) ((wt_come pn so tt kk pp uv c0 d0 w0 (nx, nd, nc)).2.2) al wo wh) := by rw [show ((wt_come pn so tt kk pp uv c0 d0 w0 (nx, nd, nc)).1) = (upd nx (225 * kk + 25 * pp + uv) (c0 + so (12 * tt + 3 * pn (3 * kk + pp / 3) + pp % 3))) from (by first | rw [show wt_come pn so tt kk pp uv c0 d0 w0 (nx, nd, nc) = _ from if_pos (by first | exact bet_1 c_1 | exact bet_2 trivial | exact bet_3 trivial trivial | exact bet_4 trivial trivial trivial)] | rw [show wt_come pn so tt kk pp uv c0 d0 w0 (nx, nd, nc) = _ from if_neg (by rw [show wt_bet _ _ _ _ _ _ = false by first | exact bet_f1 c_1 trivial trivial | exact bet_f2 c_1 trivial trivial trivial | exact bet_f3 c_1 trivial trivial trivial]; decide)]), show ((wt_come pn so tt kk pp uv c0 d0 w0 (nx, nd, nc)).2.1) = (upd nd (225 * kk + 25 * pp + uv) d0) from (by first | rw [show wt_come pn so tt kk pp uv c0 d0 w0 (nx, nd, nc) = _ from if_pos (by first | exact bet_1 c_1 | exact bet_2 trivial | exact bet_3 trivial trivial | exact bet_4 trivial trivial trivial)] | rw [show wt_come pn so tt kk pp uv c0 d0 w0 (nx, nd, nc) = _ from if_neg (by rw [show wt_bet _ _ _ _ _ _ = false by first | exact bet_f1 c_1 trivial trivial | exact bet_f2 c_1 trivial trivial trivial | exact bet_f3 c_1 trivial trivial trivial]; decide)]), show ((wt_come pn so tt kk pp uv c0 d0 w0 (nx, nd, nc)).2.2) = (upd nc (225 * kk + 25 * pp + uv) w0) from (by first | rw [show wt_come pn so tt kk pp uv c0 d0 w0 (nx, nd, nc) = _ from if_pos (by first | exact bet_1 c_1 | exact bet_2 trivial | exact bet_3 trivial trivial | exact bet_4 trivial trivial trivial)] | rw [show wt_come pn so tt kk pp uv c0 d0 w0 (nx, nd, nc) = _ from if_neg (by rw [show wt_bet _ _ _ _ _ _ = false by first | exact bet_f1 c_1 trivial trivial | exact bet_f2 c_1 trivial trivial trivial | exact bet_f3 c_1 trivial trivial trivial]; decide)])]; exact hD
      exact W.vret hx hb hr (fun t ht hW => ⟨⟨(), rfl, trivial, by rw [ht]; exact hP9, hD9⟩, hS.F ht⟩) hS.2.2 dM_come_157
  · skip
    refine lv_iload hx hb dM_come_58 (lv_at hl 0 rfl) ?_
    refine lv_aload_n hx hb dM_come_60 rfl (lv_at hl 2 rfl) ?_
    refine va_get (D := (dC, dI)) (ci := 5) (v := .ref (q 13)) (C := RM) (T := TM) (N := 20) hx hb ht inM hown hK hP 0 rfl rfl 14 (by decide) (ht _ m_408) (fun _ h9 => h9) rfl dM_come_61 ?_
    refine lv_iload hx hb dM_come_64 (lv_at hl 1 rfl) ?_
    refine wt_iald hx hb hK hP 13 0 rfl rfl (k := 225 * kk + 25 * pp + uv) (by omega) (by decide) dM_come_66 ?_
    refine lv_icmp_lt (tgt := 118) hx hb dM_come_67 (by decide) (fun c_3 => ?_) (fun c_3 => ?_)
    · skip
      refine lv_iconst (v := nI 1) hx hb dM_come_118 (by decide) ?_
      refine lv_goto (tgt := 123) hx hb dM_come_119 (by decide) ?_
      refine lv_istore (lv' := [(10, .int (nI 1)), (9, .int (c0 + so (12 * tt + 3 * pn (3 * kk + pp / 3) + pp % 3))), (8, .int (nI (225 * kk + 25 * pp + uv))), (0, .ref (q 0)), (1, .int (nI tt)), (2, .int (nI kk)), (3, .int (nI pp)), (4, .int (nI uv)), (5, .int c0), (6, .int d0), (7, .int w0)]) hx hb dM_come_123 hl (by decide) rfl (fun ls hl => ?_)
      refine lv_iload hx hb dM_come_125 (lv_at hl 0 rfl) ?_
      refine wt_if_eq (tgt := 157) hx hb dM_come_127 (by decide) (by omega) (fun c_4 => ?_) (fun c_4 => ?_)
      · exact absurd c_4 (by decide)
      · skip
        refine lv_aload_n hx hb dM_come_130 rfl (lv_at hl 3 rfl) ?_
        refine va_get (D := (dC, dI)) (ci := 5) (v := .ref (q 13)) (C := RM) (T := TM) (N := 20) hx hb ht inM hown hK hP 0 rfl rfl 14 (by decide) (ht _ m_408) (fun _ h9 => h9) rfl dM_come_131 ?_
        refine lv_iload hx hb dM_come_134 (lv_at hl 2 rfl) ?_
        refine lv_iload hx hb dM_come_136 (lv_at hl 1 rfl) ?_
        refine wt_iast hx hb hK hP hD hS 13 0 rfl rfl (k := 225 * kk + 25 * pp + uv) (by omega) (by decide) dM_come_138 (fun H locs hP hD hS => ?_)
        have hP : va_P (dC, dI) vwCl (wM cI cZ cL q kn co bo mn wd zs fp ho lv fr so ea dn cd (upd nx (225 * kk + 25 * pp + uv) (c0 + so (12 * tt + 3 * pn (3 * kk + pp / 3) + pp % 3))) nd nc al wo wh) H := hP
        have hD : va_D A (wM cI cZ cL q kn co bo mn wd zs fp ho lv fr so ea dn cd (upd nx (225 * kk + 25 * pp + uv) (c0 + so (12 * tt + 3 * pn (3 * kk + pp / 3) + pp % 3))) nd nc al wo wh) := hD
        refine lv_aload_n hx hb dM_come_139 rfl (lv_at hl 3 rfl) ?_
        refine va_get (D := (dC, dI)) (ci := 5) (v := .ref (q 14)) (C := RM) (T := TM) (N := 20) hx hb ht inM hown hK hP 0 rfl rfl 15 (by decide) (ht _ m_409) (fun _ h9 => h9) rfl dM_come_140 ?_
        refine lv_iload hx hb dM_come_143 (lv_at hl 2 rfl) ?_
        refine lv_iload hx hb dM_come_145 (lv_at hl 9 rfl) ?_
        refine wt_iast hx hb hK hP hD hS 14 0 rfl rfl (k := 225 * kk + 25 * pp + uv) (by omega) (by decide) dM_come_147 (fun H locs hP hD hS => ?_)
        have hP : va_P (dC, dI) vwCl (wM cI cZ cL q kn co bo mn wd zs fp ho lv fr so ea dn cd (upd nx (225 * kk + 25 * pp + uv) (c0 + so (12 * tt + 3 * pn (3 * kk + pp / 3) + pp % 3))) (upd nd (225 * kk + 25 * pp + uv) d0) nc al wo wh) H := hP
        have hD : va_D A (wM cI cZ cL q kn co bo mn wd zs fp ho lv fr so ea dn cd (upd nx (225 * kk + 25 * pp + uv) (c0 + so (12 * tt + 3 * pn (3 * kk + pp / 3) + pp % 3))) (upd nd (225 * kk + 25 * pp + uv) d0) nc al wo wh) := hD
        refine lv_aload_n hx hb dM_come_148 rfl (lv_at hl 3 rfl) ?_
        refine va_get (D := (dC, dI)) (ci := 5) (v := .ref (q 15)) (C := RM) (T := TM) (N := 20) hx hb ht inM hown hK hP 0 rfl rfl 16 (by decide) (ht _ m_410) (fun _ h9 => h9) rfl dM_come_149 ?_
        refine lv_iload hx hb dM_come_152 (lv_at hl 2 rfl) ?_
        refine lv_iload hx hb dM_come_154 (lv_at hl 10 rfl) ?_
        refine wt_iast hx hb hK hP hD hS 15 0 rfl rfl (k := 225 * kk + 25 * pp + uv) (by omega) (by decide) dM_come_156 (fun H locs hP hD hS => ?_)
        have hP : va_P (dC, dI) vwCl (wM cI cZ cL q kn co bo mn wd zs fp ho lv fr so ea dn cd (upd nx (225 * kk + 25 * pp + uv) (c0 + so (12 * tt + 3 * pn (3 * kk + pp / 3) + pp % 3))) (upd nd (225 * kk + 25 * pp + uv) d0) (upd nc (225 * kk + 25 * pp + uv) w0) al wo wh) H := hP
        have hD : va_D A (wM cI cZ cL q kn co bo mn wd zs fp ho lv fr so ea dn cd (upd nx (225 * kk + 25 * pp + uv) (c0 + so (12 * tt + 3 * pn (3 * kk + pp / 3) + pp % 3))) (upd nd (225 * kk + 25 * pp + uv) d0) (upd nc (225 * kk + 25 * pp + uv) w0) al wo wh) := hD
        have hP9 : va_P (dC, dI) vwCl (wM cI cZ cL q kn co bo mn wd zs fp ho lv fr so ea dn cd ((wt_come pn so tt kk pp uv c0 d0 w0 (nx, nd, nc)).1) ((wt_come pn so tt kk pp uv c0 d0 w0 (nx, nd, nc)).2.1) ((wt_come pn so tt kk pp uv c0 d0 w0 (nx, nd, nc)).2.2) al wo wh) H := by rw [show ((wt_come pn so tt kk pp uv c0 d0 w0 (nx, nd, nc)).1) = (upd nx (225 * kk + 25 * pp + uv) (c0 + so (12 * tt + 3 * pn (3 * kk + pp / 3) + pp % 3))) from (by first | rw [show wt_come pn so tt kk pp uv c0 d0 w0 (nx, nd, nc) = _ from if_pos (by first | exact bet_1 c_1 | exact bet_2 c_3 | exact bet_3 trivial trivial | exact bet_4 trivial trivial trivial)] | rw [show wt_come pn so tt kk pp uv c0 d0 w0 (nx, nd, nc) = _ from if_neg (by rw [show wt_bet _ _ _ _ _ _ = false by first | exact bet_f1 c_1 c_3 trivial | exact bet_f2 c_1 c_3 trivial trivial | exact bet_f3 c_1 c_3 trivial trivial]; decide)]), show ((wt_come pn so tt kk pp uv c0 d0 w0 (nx, nd, nc)).2.1) = (upd nd (225 * kk + 25 * pp + uv) d0) from (by first | rw [show wt_come pn so tt kk pp uv c0 d0 w0 (nx, nd, nc) = _ from if_pos (by first | exact bet_1 c_1 | exact bet_2 c_3 | exact bet_3 trivial trivial | exact bet_4 trivial trivial trivial)] | rw [show wt_come pn so tt kk pp uv c0 d0 w0 (nx, nd, nc) = _ from if_neg (by rw [show wt_bet _ _ _ _ _ _ = false by first | exact bet_f1 c_1 c_3 trivial | exact bet_f2 c_1 c_3 trivial trivial | exact bet_f3 c_1 c_3 trivial trivial]; decide)]), show ((wt_come pn so tt kk pp uv c0 d0 w0 (nx, nd, nc)).2.2) = (upd nc (225 * kk + 25 * pp + uv) w0) from (by first | rw [show wt_come pn so tt kk pp uv c0 d0 w0 (nx, nd, nc) = _ from if_pos (by first | exact bet_1 c_1 | exact bet_2 c_3 | exact bet_3 trivial trivial | exact bet_4 trivial trivial trivial)] | rw [show wt_come pn so tt kk pp uv c0 d0 w0 (nx, nd, nc) = _ from if_neg (by rw [show wt_bet _ _ _ _ _ _ = false by first | exact bet_f1 c_1 c_3 trivial | exact bet_f2 c_1 c_3 trivial trivial | exact bet_f3 c_1 c_3 trivial trivial]; decide)])]; exact hP
        have hD9 : va_D A (wM cI cZ cL q kn co bo mn wd zs fp ho lv fr so ea dn cd ((wt_come pn so tt kk pp uv c0 d0 w0 (nx, nd, nc)).1) ((wt_come pn so tt kk pp uv c0 d0 w0 (nx, nd, nc)).2.1) ((wt_come pn so tt kk pp uv c0 d0 w0 (nx, nd, nc)).2.2) al wo wh) := by rw [show ((wt_come pn so tt kk pp uv c0 d0 w0 (nx, nd, nc)).1) = (upd nx (225 * kk + 25 * pp + uv) (c0 + so (12 * tt + 3 * pn (3 * kk + pp / 3) + pp % 3))) from (by first | rw [show wt_come pn so tt kk pp uv c0 d0 w0 (nx, nd, nc) = _ from if_pos (by first | exact bet_1 c_1 | exact bet_2 c_3 | exact bet_3 trivial trivial | exact bet_4 trivial trivial trivial)] | rw [show wt_come pn so tt kk pp uv c0 d0 w0 (nx, nd, nc) = _ from if_neg (by rw [show wt_bet _ _ _ _ _ _ = false by first | exact bet_f1 c_1 c_3 trivial | exact bet_f2 c_1 c_3 trivial trivial | exact bet_f3 c_1 c_3 trivial trivial]; decide)]), show ((wt_come pn so tt kk pp uv c0 d0 w0 (nx, nd, nc)).2.1) = (upd nd (225 * kk + 25 * pp + uv) d0) from (by first | rw [show wt_come pn so tt kk pp uv c0 d0 w0 (nx, nd, nc) = _ from if_pos (by first | exact bet_1 c_1 | exact bet_2 c_3 | exact bet_3 trivial trivial | exact bet_4 trivial trivial trivial)] | rw [show wt_come pn so tt kk pp uv c0 d0 w0 (nx, nd, nc) = _ from if_neg (by rw [show wt_bet _ _ _ _ _ _ = false by first | exact bet_f1 c_1 c_3 trivial | exact bet_f2 c_1 c_3 trivial trivial | exact bet_f3 c_1 c_3 trivial trivial]; decide)]), show ((wt_come pn so tt kk pp uv c0 d0 w0 (nx, nd, nc)).2.2) = (upd nc (225 * kk + 25 * pp + uv) w0) from (by first | rw [show wt_come pn so tt kk pp uv c0 d0 w0 (nx, nd, nc) = _ from if_pos (by first | exact bet_1 c_1 | exact bet_2 c_3 | exact bet_3 trivial trivial | exact bet_4 trivial trivial trivial)] | rw [show wt_come pn so tt kk pp uv c0 d0 w0 (nx, nd, nc) = _ from if_neg (by rw [show wt_bet _ _ _ _ _ _ = false by first | exact bet_f1 c_1 c_3 trivial | exact bet_f2 c_1 c_3 trivial trivial | exact bet_f3 c_1 c_3 trivial trivial]; decide)])]; exact hD
        exact W.vret hx hb hr (fun t ht hW => ⟨⟨(), rfl, trivial, by rw [ht]; exact hP9, hD9⟩, hS.F ht⟩) hS.2.2 dM_come_157
    · skip
      refine lv_iload hx hb dM_come_70 (lv_at hl 0 rfl) ?_
      refine lv_aload_n hx hb dM_come_72 rfl (lv_at hl 2 rfl) ?_
      refine va_get (D := (dC, dI)) (ci := 5) (v := .ref (q 13)) (C := RM) (T := TM) (N := 20) hx hb ht inM hown hK hP 0 rfl rfl 14 (by decide) (ht _ m_408) (fun _ h9 => h9) rfl dM_come_73 ?_
      refine lv_iload hx hb dM_come_76 (lv_at hl 1 rfl) ?_
      refine wt_iald hx hb hK hP 13 0 rfl rfl (k := 225 * kk + 25 * pp + uv) (by omega) (by decide) dM_come_78 ?_
      refine lv_icmp_ne (tgt := 122) hx hb dM_come_79 (by decide) (fun c_5 => ?_) (fun c_5 => ?_)
      · skip
        refine lv_iconst (v := nI 0) hx hb dM_come_122 (by decide) ?_
        refine lv_istore (lv' := [(10, .int (nI 0)), (9, .int (c0 + so (12 * tt + 3 * pn (3 * kk + pp / 3) + pp % 3))), (8, .int (nI (225 * kk + 25 * pp + uv))), (0, .ref (q 0)), (1, .int (nI tt)), (2, .int (nI kk)), (3, .int (nI pp)), (4, .int (nI uv)), (5, .int c0), (6, .int d0), (7, .int w0)]) hx hb dM_come_123 hl (by decide) rfl (fun ls hl => ?_)
        refine lv_iload hx hb dM_come_125 (lv_at hl 0 rfl) ?_
        refine wt_if_eq (tgt := 157) hx hb dM_come_127 (by decide) (by omega) (fun c_6 => ?_) (fun c_6 => ?_)
        · skip
          have hP9 : va_P (dC, dI) vwCl (wM cI cZ cL q kn co bo mn wd zs fp ho lv fr so ea dn cd ((wt_come pn so tt kk pp uv c0 d0 w0 (nx, nd, nc)).1) ((wt_come pn so tt kk pp uv c0 d0 w0 (nx, nd, nc)).2.1) ((wt_come pn so tt kk pp uv c0 d0 w0 (nx, nd, nc)).2.2) al wo wh) s.heap := by rw [show ((wt_come pn so tt kk pp uv c0 d0 w0 (nx, nd, nc)).1) = nx from (by first | rw [show wt_come pn so tt kk pp uv c0 d0 w0 (nx, nd, nc) = _ from if_pos (by first | exact bet_1 c_1 | exact bet_2 c_3 | exact bet_3 c_5 trivial | exact bet_4 c_5 trivial trivial)] | rw [show wt_come pn so tt kk pp uv c0 d0 w0 (nx, nd, nc) = _ from if_neg (by rw [show wt_bet _ _ _ _ _ _ = false by first | exact bet_f1 c_1 c_3 c_5 | exact bet_f2 c_1 c_3 trivial trivial | exact bet_f3 c_1 c_3 trivial trivial]; decide)]), show ((wt_come pn so tt kk pp uv c0 d0 w0 (nx, nd, nc)).2.1) = nd from (by first | rw [show wt_come pn so tt kk pp uv c0 d0 w0 (nx, nd, nc) = _ from if_pos (by first | exact bet_1 c_1 | exact bet_2 c_3 | exact bet_3 c_5 trivial | exact bet_4 c_5 trivial trivial)] | rw [show wt_come pn so tt kk pp uv c0 d0 w0 (nx, nd, nc) = _ from if_neg (by rw [show wt_bet _ _ _ _ _ _ = false by first | exact bet_f1 c_1 c_3 c_5 | exact bet_f2 c_1 c_3 trivial trivial | exact bet_f3 c_1 c_3 trivial trivial]; decide)]), show ((wt_come pn so tt kk pp uv c0 d0 w0 (nx, nd, nc)).2.2) = nc from (by first | rw [show wt_come pn so tt kk pp uv c0 d0 w0 (nx, nd, nc) = _ from if_pos (by first | exact bet_1 c_1 | exact bet_2 c_3 | exact bet_3 c_5 trivial | exact bet_4 c_5 trivial trivial)] | rw [show wt_come pn so tt kk pp uv c0 d0 w0 (nx, nd, nc) = _ from if_neg (by rw [show wt_bet _ _ _ _ _ _ = false by first | exact bet_f1 c_1 c_3 c_5 | exact bet_f2 c_1 c_3 trivial trivial | exact bet_f3 c_1 c_3 trivial trivial]; decide)])]; exact hP
          have hD9 : va_D A (wM cI cZ cL q kn co bo mn wd zs fp ho lv fr so ea dn cd ((wt_come pn so tt kk pp uv c0 d0 w0 (nx, nd, nc)).1) ((wt_come pn so tt kk pp uv c0 d0 w0 (nx, nd, nc)).2.1) ((wt_come pn so tt kk pp uv c0 d0 w0 (nx, nd, nc)).2.2) al wo wh) := by rw [show ((wt_come pn so tt kk pp uv c0 d0 w0 (nx, nd, nc)).1) = nx from (by first | rw [show wt_come pn so tt kk pp uv c0 d0 w0 (nx, nd, nc) = _ from if_pos (by first | exact bet_1 c_1 | exact bet_2 c_3 | exact bet_3 c_5 trivial | exact bet_4 c_5 trivial trivial)] | rw [show wt_come pn so tt kk pp uv c0 d0 w0 (nx, nd, nc) = _ from if_neg (by rw [show wt_bet _ _ _ _ _ _ = false by first | exact bet_f1 c_1 c_3 c_5 | exact bet_f2 c_1 c_3 trivial trivial | exact bet_f3 c_1 c_3 trivial trivial]; decide)]), show ((wt_come pn so tt kk pp uv c0 d0 w0 (nx, nd, nc)).2.1) = nd from (by first | rw [show wt_come pn so tt kk pp uv c0 d0 w0 (nx, nd, nc) = _ from if_pos (by first | exact bet_1 c_1 | exact bet_2 c_3 | exact bet_3 c_5 trivial | exact bet_4 c_5 trivial trivial)] | rw [show wt_come pn so tt kk pp uv c0 d0 w0 (nx, nd, nc) = _ from if_neg (by rw [show wt_bet _ _ _ _ _ _ = false by first | exact bet_f1 c_1 c_3 c_5 | exact bet_f2 c_1 c_3 trivial trivial | exact bet_f3 c_1 c_3 trivial trivial]; decide)]), show ((wt_come pn so tt kk pp uv c0 d0 w0 (nx, nd, nc)).2.2) = nc from (by first | rw [show wt_come pn so tt kk pp uv c0 d0 w0 (nx, nd, nc) = _ from if_pos (by first | exact bet_1 c_1 | exact bet_2 c_3 | exact bet_3 c_5 trivial | exact bet_4 c_5 trivial trivial)] | rw [show wt_come pn so tt kk pp uv c0 d0 w0 (nx, nd, nc) = _ from if_neg (by rw [show wt_bet _ _ _ _ _ _ = false by first | exact bet_f1 c_1 c_3 c_5 | exact bet_f2 c_1 c_3 trivial trivial | exact bet_f3 c_1 c_3 trivial trivial]; decide)])]; exact hD
          exact W.vret hx hb hr (fun t ht hW => ⟨⟨(), rfl, trivial, by rw [ht]; exact hP9, hD9⟩, hS.F ht⟩) hS.2.2 dM_come_157
        · exact absurd c_6 (by decide)
      · skip
        refine lv_iload hx hb dM_come_82 (lv_at hl 8 rfl) ?_
        refine lv_aload_n hx hb dM_come_84 rfl (lv_at hl 2 rfl) ?_
        refine va_get (D := (dC, dI)) (ci := 5) (v := .ref (q 14)) (C := RM) (T := TM) (N := 20) hx hb ht inM hown hK hP 0 rfl rfl 15 (by decide) (ht _ m_409) (fun _ h9 => h9) rfl dM_come_85 ?_
        refine lv_iload hx hb dM_come_88 (lv_at hl 1 rfl) ?_
        refine wt_iald hx hb hK hP 14 0 rfl rfl (k := 225 * kk + 25 * pp + uv) (by omega) (by decide) dM_come_90 ?_
        refine lv_icmp_lt (tgt := 118) hx hb dM_come_91 (by decide) (fun c_7 => ?_) (fun c_7 => ?_)
        · skip
          refine lv_iconst (v := nI 1) hx hb dM_come_118 (by decide) ?_
          refine lv_goto (tgt := 123) hx hb dM_come_119 (by decide) ?_
          refine lv_istore (lv' := [(10, .int (nI 1)), (9, .int (c0 + so (12 * tt + 3 * pn (3 * kk + pp / 3) + pp % 3))), (8, .int (nI (225 * kk + 25 * pp + uv))), (0, .ref (q 0)), (1, .int (nI tt)), (2, .int (nI kk)), (3, .int (nI pp)), (4, .int (nI uv)), (5, .int c0), (6, .int d0), (7, .int w0)]) hx hb dM_come_123 hl (by decide) rfl (fun ls hl => ?_)
          refine lv_iload hx hb dM_come_125 (lv_at hl 0 rfl) ?_
          refine wt_if_eq (tgt := 157) hx hb dM_come_127 (by decide) (by omega) (fun c_8 => ?_) (fun c_8 => ?_)
          · exact absurd c_8 (by decide)
          · skip
            refine lv_aload_n hx hb dM_come_130 rfl (lv_at hl 3 rfl) ?_
            refine va_get (D := (dC, dI)) (ci := 5) (v := .ref (q 13)) (C := RM) (T := TM) (N := 20) hx hb ht inM hown hK hP 0 rfl rfl 14 (by decide) (ht _ m_408) (fun _ h9 => h9) rfl dM_come_131 ?_
            refine lv_iload hx hb dM_come_134 (lv_at hl 2 rfl) ?_
            refine lv_iload hx hb dM_come_136 (lv_at hl 1 rfl) ?_
            refine wt_iast hx hb hK hP hD hS 13 0 rfl rfl (k := 225 * kk + 25 * pp + uv) (by omega) (by decide) dM_come_138 (fun H locs hP hD hS => ?_)
            have hP : va_P (dC, dI) vwCl (wM cI cZ cL q kn co bo mn wd zs fp ho lv fr so ea dn cd (upd nx (225 * kk + 25 * pp + uv) (c0 + so (12 * tt + 3 * pn (3 * kk + pp / 3) + pp % 3))) nd nc al wo wh) H := hP
            have hD : va_D A (wM cI cZ cL q kn co bo mn wd zs fp ho lv fr so ea dn cd (upd nx (225 * kk + 25 * pp + uv) (c0 + so (12 * tt + 3 * pn (3 * kk + pp / 3) + pp % 3))) nd nc al wo wh) := hD
            refine lv_aload_n hx hb dM_come_139 rfl (lv_at hl 3 rfl) ?_
            refine va_get (D := (dC, dI)) (ci := 5) (v := .ref (q 14)) (C := RM) (T := TM) (N := 20) hx hb ht inM hown hK hP 0 rfl rfl 15 (by decide) (ht _ m_409) (fun _ h9 => h9) rfl dM_come_140 ?_
            refine lv_iload hx hb dM_come_143 (lv_at hl 2 rfl) ?_
            refine lv_iload hx hb dM_come_145 (lv_at hl 9 rfl) ?_
            refine wt_iast hx hb hK hP hD hS 14 0 rfl rfl (k := 225 * kk + 25 * pp + uv) (by omega) (by decide) dM_come_147 (fun H locs hP hD hS => ?_)
            have hP : va_P (dC, dI) vwCl (wM cI cZ cL q kn co bo mn wd zs fp ho lv fr so ea dn cd (upd nx (225 * kk + 25 * pp + uv) (c0 + so (12 * tt + 3 * pn (3 * kk + pp / 3) + pp % 3))) (upd nd (225 * kk + 25 * pp + uv) d0) nc al wo wh) H := hP
            have hD : va_D A (wM cI cZ cL q kn co bo mn wd zs fp ho lv fr so ea dn cd (upd nx (225 * kk + 25 * pp + uv) (c0 + so (12 * tt + 3 * pn (3 * kk + pp / 3) + pp % 3))) (upd nd (225 * kk + 25 * pp + uv) d0) nc al wo wh) := hD
            refine lv_aload_n hx hb dM_come_148 rfl (lv_at hl 3 rfl) ?_
            refine va_get (D := (dC, dI)) (ci := 5) (v := .ref (q 15)) (C := RM) (T := TM) (N := 20) hx hb ht inM hown hK hP 0 rfl rfl 16 (by decide) (ht _ m_410) (fun _ h9 => h9) rfl dM_come_149 ?_
            refine lv_iload hx hb dM_come_152 (lv_at hl 2 rfl) ?_
            refine lv_iload hx hb dM_come_154 (lv_at hl 10 rfl) ?_
            refine wt_iast hx hb hK hP hD hS 15 0 rfl rfl (k := 225 * kk + 25 * pp + uv) (by omega) (by decide) dM_come_156 (fun H locs hP hD hS => ?_)
            have hP : va_P (dC, dI) vwCl (wM cI cZ cL q kn co bo mn wd zs fp ho lv fr so ea dn cd (upd nx (225 * kk + 25 * pp + uv) (c0 + so (12 * tt + 3 * pn (3 * kk + pp / 3) + pp % 3))) (upd nd (225 * kk + 25 * pp + uv) d0) (upd nc (225 * kk + 25 * pp + uv) w0) al wo wh) H := hP
            have hD : va_D A (wM cI cZ cL q kn co bo mn wd zs fp ho lv fr so ea dn cd (upd nx (225 * kk + 25 * pp + uv) (c0 + so (12 * tt + 3 * pn (3 * kk + pp / 3) + pp % 3))) (upd nd (225 * kk + 25 * pp + uv) d0) (upd nc (225 * kk + 25 * pp + uv) w0) al wo wh) := hD
            have hP9 : va_P (dC, dI) vwCl (wM cI cZ cL q kn co bo mn wd zs fp ho lv fr so ea dn cd ((wt_come pn so tt kk pp uv c0 d0 w0 (nx, nd, nc)).1) ((wt_come pn so tt kk pp uv c0 d0 w0 (nx, nd, nc)).2.1) ((wt_come pn so tt kk pp uv c0 d0 w0 (nx, nd, nc)).2.2) al wo wh) H := by rw [show ((wt_come pn so tt kk pp uv c0 d0 w0 (nx, nd, nc)).1) = (upd nx (225 * kk + 25 * pp + uv) (c0 + so (12 * tt + 3 * pn (3 * kk + pp / 3) + pp % 3))) from (by first | rw [show wt_come pn so tt kk pp uv c0 d0 w0 (nx, nd, nc) = _ from if_pos (by first | exact bet_1 c_1 | exact bet_2 c_3 | exact bet_3 c_5 c_7 | exact bet_4 c_5 trivial trivial)] | rw [show wt_come pn so tt kk pp uv c0 d0 w0 (nx, nd, nc) = _ from if_neg (by rw [show wt_bet _ _ _ _ _ _ = false by first | exact bet_f1 c_1 c_3 c_5 | exact bet_f2 c_1 c_3 c_7 trivial | exact bet_f3 c_1 c_3 c_7 trivial]; decide)]), show ((wt_come pn so tt kk pp uv c0 d0 w0 (nx, nd, nc)).2.1) = (upd nd (225 * kk + 25 * pp + uv) d0) from (by first | rw [show wt_come pn so tt kk pp uv c0 d0 w0 (nx, nd, nc) = _ from if_pos (by first | exact bet_1 c_1 | exact bet_2 c_3 | exact bet_3 c_5 c_7 | exact bet_4 c_5 trivial trivial)] | rw [show wt_come pn so tt kk pp uv c0 d0 w0 (nx, nd, nc) = _ from if_neg (by rw [show wt_bet _ _ _ _ _ _ = false by first | exact bet_f1 c_1 c_3 c_5 | exact bet_f2 c_1 c_3 c_7 trivial | exact bet_f3 c_1 c_3 c_7 trivial]; decide)]), show ((wt_come pn so tt kk pp uv c0 d0 w0 (nx, nd, nc)).2.2) = (upd nc (225 * kk + 25 * pp + uv) w0) from (by first | rw [show wt_come pn so tt kk pp uv c0 d0 w0 (nx, nd, nc) = _ from if_pos (by first | exact bet_1 c_1 | exact bet_2 c_3 | exact bet_3 c_5 c_7 | exact bet_4 c_5 trivial trivial)] | rw [show wt_come pn so tt kk pp uv c0 d0 w0 (nx, nd, nc) = _ from if_neg (by rw [show wt_bet _ _ _ _ _ _ = false by first | exact bet_f1 c_1 c_3 c_5 | exact bet_f2 c_1 c_3 c_7 trivial | exact bet_f3 c_1 c_3 c_7 trivial]; decide)])]; exact hP
            have hD9 : va_D A (wM cI cZ cL q kn co bo mn wd zs fp ho lv fr so ea dn cd ((wt_come pn so tt kk pp uv c0 d0 w0 (nx, nd, nc)).1) ((wt_come pn so tt kk pp uv c0 d0 w0 (nx, nd, nc)).2.1) ((wt_come pn so tt kk pp uv c0 d0 w0 (nx, nd, nc)).2.2) al wo wh) := by rw [show ((wt_come pn so tt kk pp uv c0 d0 w0 (nx, nd, nc)).1) = (upd nx (225 * kk + 25 * pp + uv) (c0 + so (12 * tt + 3 * pn (3 * kk + pp / 3) + pp % 3))) from (by first | rw [show wt_come pn so tt kk pp uv c0 d0 w0 (nx, nd, nc) = _ from if_pos (by first | exact bet_1 c_1 | exact bet_2 c_3 | exact bet_3 c_5 c_7 | exact bet_4 c_5 trivial trivial)] | rw [show wt_come pn so tt kk pp uv c0 d0 w0 (nx, nd, nc) = _ from if_neg (by rw [show wt_bet _ _ _ _ _ _ = false by first | exact bet_f1 c_1 c_3 c_5 | exact bet_f2 c_1 c_3 c_7 trivial | exact bet_f3 c_1 c_3 c_7 trivial]; decide)]), show ((wt_come pn so tt kk pp uv c0 d0 w0 (nx, nd, nc)).2.1) = (upd nd (225 * kk + 25 * pp + uv) d0) from (by first | rw [show wt_come pn so tt kk pp uv c0 d0 w0 (nx, nd, nc) = _ from if_pos (by first | exact bet_1 c_1 | exact bet_2 c_3 | exact bet_3 c_5 c_7 | exact bet_4 c_5 trivial trivial)] | rw [show wt_come pn so tt kk pp uv c0 d0 w0 (nx, nd, nc) = _ from if_neg (by rw [show wt_bet _ _ _ _ _ _ = false by first | exact bet_f1 c_1 c_3 c_5 | exact bet_f2 c_1 c_3 c_7 trivial | exact bet_f3 c_1 c_3 c_7 trivial]; decide)]), show ((wt_come pn so tt kk pp uv c0 d0 w0 (nx, nd, nc)).2.2) = (upd nc (225 * kk + 25 * pp + uv) w0) from (by first | rw [show wt_come pn so tt kk pp uv c0 d0 w0 (nx, nd, nc) = _ from if_pos (by first | exact bet_1 c_1 | exact bet_2 c_3 | exact bet_3 c_5 c_7 | exact bet_4 c_5 trivial trivial)] | rw [show wt_come pn so tt kk pp uv c0 d0 w0 (nx, nd, nc) = _ from if_neg (by rw [show wt_bet _ _ _ _ _ _ = false by first | exact bet_f1 c_1 c_3 c_5 | exact bet_f2 c_1 c_3 c_7 trivial | exact bet_f3 c_1 c_3 c_7 trivial]; decide)])]; exact hD
            exact W.vret hx hb hr (fun t ht hW => ⟨⟨(), rfl, trivial, by rw [ht]; exact hP9, hD9⟩, hS.F ht⟩) hS.2.2 dM_come_157
        · skip
          refine lv_iload hx hb dM_come_94 (lv_at hl 8 rfl) ?_
          refine lv_aload_n hx hb dM_come_96 rfl (lv_at hl 2 rfl) ?_
          refine va_get (D := (dC, dI)) (ci := 5) (v := .ref (q 14)) (C := RM) (T := TM) (N := 20) hx hb ht inM hown hK hP 0 rfl rfl 15 (by decide) (ht _ m_409) (fun _ h9 => h9) rfl dM_come_97 ?_
          refine lv_iload hx hb dM_come_100 (lv_at hl 1 rfl) ?_
          refine wt_iald hx hb hK hP 14 0 rfl rfl (k := 225 * kk + 25 * pp + uv) (by omega) (by decide) dM_come_102 ?_
          refine lv_icmp_ne (tgt := 122) hx hb dM_come_103 (by decide) (fun c_9 => ?_) (fun c_9 => ?_)
          · skip
            refine lv_iconst (v := nI 0) hx hb dM_come_122 (by decide) ?_
            refine lv_istore (lv' := [(10, .int (nI 0)), (9, .int (c0 + so (12 * tt + 3 * pn (3 * kk + pp / 3) + pp % 3))), (8, .int (nI (225 * kk + 25 * pp + uv))), (0, .ref (q 0)), (1, .int (nI tt)), (2, .int (nI kk)), (3, .int (nI pp)), (4, .int (nI uv)), (5, .int c0), (6, .int d0), (7, .int w0)]) hx hb dM_come_123 hl (by decide) rfl (fun ls hl => ?_)
            refine lv_iload hx hb dM_come_125 (lv_at hl 0 rfl) ?_
            refine wt_if_eq (tgt := 157) hx hb dM_come_127 (by decide) (by omega) (fun c_10 => ?_) (fun c_10 => ?_)
            · skip
              have hP9 : va_P (dC, dI) vwCl (wM cI cZ cL q kn co bo mn wd zs fp ho lv fr so ea dn cd ((wt_come pn so tt kk pp uv c0 d0 w0 (nx, nd, nc)).1) ((wt_come pn so tt kk pp uv c0 d0 w0 (nx, nd, nc)).2.1) ((wt_come pn so tt kk pp uv c0 d0 w0 (nx, nd, nc)).2.2) al wo wh) s.heap := by rw [show ((wt_come pn so tt kk pp uv c0 d0 w0 (nx, nd, nc)).1) = nx from (by first | rw [show wt_come pn so tt kk pp uv c0 d0 w0 (nx, nd, nc) = _ from if_pos (by first | exact bet_1 c_1 | exact bet_2 c_3 | exact bet_3 c_5 c_7 | exact bet_4 c_5 c_9 trivial)] | rw [show wt_come pn so tt kk pp uv c0 d0 w0 (nx, nd, nc) = _ from if_neg (by rw [show wt_bet _ _ _ _ _ _ = false by first | exact bet_f1 c_1 c_3 c_5 | exact bet_f2 c_1 c_3 c_7 c_9 | exact bet_f3 c_1 c_3 c_7 trivial]; decide)]), show ((wt_come pn so tt kk pp uv c0 d0 w0 (nx, nd, nc)).2.1) = nd from (by first | rw [show wt_come pn so tt kk pp uv c0 d0 w0 (nx, nd, nc) = _ from if_pos (by first | exact bet_1 c_1 | exact bet_2 c_3 | exact bet_3 c_5 c_7 | exact bet_4 c_5 c_9 trivial)] | rw [show wt_come pn so tt kk pp uv c0 d0 w0 (nx, nd, nc) = _ from if_neg (by rw [show wt_bet _ _ _ _ _ _ = false by first | exact bet_f1 c_1 c_3 c_5 | exact bet_f2 c_1 c_3 c_7 c_9 | exact bet_f3 c_1 c_3 c_7 trivial]; decide)]), show ((wt_come pn so tt kk pp uv c0 d0 w0 (nx, nd, nc)).2.2) = nc from (by first | rw [show wt_come pn so tt kk pp uv c0 d0 w0 (nx, nd, nc) = _ from if_pos (by first | exact bet_1 c_1 | exact bet_2 c_3 | exact bet_3 c_5 c_7 | exact bet_4 c_5 c_9 trivial)] | rw [show wt_come pn so tt kk pp uv c0 d0 w0 (nx, nd, nc) = _ from if_neg (by rw [show wt_bet _ _ _ _ _ _ = false by first | exact bet_f1 c_1 c_3 c_5 | exact bet_f2 c_1 c_3 c_7 c_9 | exact bet_f3 c_1 c_3 c_7 trivial]; decide)])]; exact hP
              have hD9 : va_D A (wM cI cZ cL q kn co bo mn wd zs fp ho lv fr so ea dn cd ((wt_come pn so tt kk pp uv c0 d0 w0 (nx, nd, nc)).1) ((wt_come pn so tt kk pp uv c0 d0 w0 (nx, nd, nc)).2.1) ((wt_come pn so tt kk pp uv c0 d0 w0 (nx, nd, nc)).2.2) al wo wh) := by rw [show ((wt_come pn so tt kk pp uv c0 d0 w0 (nx, nd, nc)).1) = nx from (by first | rw [show wt_come pn so tt kk pp uv c0 d0 w0 (nx, nd, nc) = _ from if_pos (by first | exact bet_1 c_1 | exact bet_2 c_3 | exact bet_3 c_5 c_7 | exact bet_4 c_5 c_9 trivial)] | rw [show wt_come pn so tt kk pp uv c0 d0 w0 (nx, nd, nc) = _ from if_neg (by rw [show wt_bet _ _ _ _ _ _ = false by first | exact bet_f1 c_1 c_3 c_5 | exact bet_f2 c_1 c_3 c_7 c_9 | exact bet_f3 c_1 c_3 c_7 trivial]; decide)]), show ((wt_come pn so tt kk pp uv c0 d0 w0 (nx, nd, nc)).2.1) = nd from (by first | rw [show wt_come pn so tt kk pp uv c0 d0 w0 (nx, nd, nc) = _ from if_pos (by first | exact bet_1 c_1 | exact bet_2 c_3 | exact bet_3 c_5 c_7 | exact bet_4 c_5 c_9 trivial)] | rw [show wt_come pn so tt kk pp uv c0 d0 w0 (nx, nd, nc) = _ from if_neg (by rw [show wt_bet _ _ _ _ _ _ = false by first | exact bet_f1 c_1 c_3 c_5 | exact bet_f2 c_1 c_3 c_7 c_9 | exact bet_f3 c_1 c_3 c_7 trivial]; decide)]), show ((wt_come pn so tt kk pp uv c0 d0 w0 (nx, nd, nc)).2.2) = nc from (by first | rw [show wt_come pn so tt kk pp uv c0 d0 w0 (nx, nd, nc) = _ from if_pos (by first | exact bet_1 c_1 | exact bet_2 c_3 | exact bet_3 c_5 c_7 | exact bet_4 c_5 c_9 trivial)] | rw [show wt_come pn so tt kk pp uv c0 d0 w0 (nx, nd, nc) = _ from if_neg (by rw [show wt_bet _ _ _ _ _ _ = false by first | exact bet_f1 c_1 c_3 c_5 | exact bet_f2 c_1 c_3 c_7 c_9 | exact bet_f3 c_1 c_3 c_7 trivial]; decide)])]; exact hD
              exact W.vret hx hb hr (fun t ht hW => ⟨⟨(), rfl, trivial, by rw [ht]; exact hP9, hD9⟩, hS.F ht⟩) hS.2.2 dM_come_157
            · exact absurd c_10 (by decide)
          · skip
            refine lv_iload hx hb dM_come_106 (lv_at hl 9 rfl) ?_
            refine lv_aload_n hx hb dM_come_108 rfl (lv_at hl 2 rfl) ?_
            refine va_get (D := (dC, dI)) (ci := 5) (v := .ref (q 15)) (C := RM) (T := TM) (N := 20) hx hb ht inM hown hK hP 0 rfl rfl 16 (by decide) (ht _ m_410) (fun _ h9 => h9) rfl dM_come_109 ?_
            refine lv_iload hx hb dM_come_112 (lv_at hl 1 rfl) ?_
            refine wt_iald hx hb hK hP 15 0 rfl rfl (k := 225 * kk + 25 * pp + uv) (by omega) (by decide) dM_come_114 ?_
            refine lv_icmp_ge (tgt := 122) hx hb dM_come_115 (by decide) (fun c_11 => ?_) (fun c_11 => ?_)
            · skip
              refine lv_iconst (v := nI 0) hx hb dM_come_122 (by decide) ?_
              refine lv_istore (lv' := [(10, .int (nI 0)), (9, .int (c0 + so (12 * tt + 3 * pn (3 * kk + pp / 3) + pp % 3))), (8, .int (nI (225 * kk + 25 * pp + uv))), (0, .ref (q 0)), (1, .int (nI tt)), (2, .int (nI kk)), (3, .int (nI pp)), (4, .int (nI uv)), (5, .int c0), (6, .int d0), (7, .int w0)]) hx hb dM_come_123 hl (by decide) rfl (fun ls hl => ?_)
              refine lv_iload hx hb dM_come_125 (lv_at hl 0 rfl) ?_
              refine wt_if_eq (tgt := 157) hx hb dM_come_127 (by decide) (by omega) (fun c_12 => ?_) (fun c_12 => ?_)
              · skip
                have hP9 : va_P (dC, dI) vwCl (wM cI cZ cL q kn co bo mn wd zs fp ho lv fr so ea dn cd ((wt_come pn so tt kk pp uv c0 d0 w0 (nx, nd, nc)).1) ((wt_come pn so tt kk pp uv c0 d0 w0 (nx, nd, nc)).2.1) ((wt_come pn so tt kk pp uv c0 d0 w0 (nx, nd, nc)).2.2) al wo wh) s.heap := by rw [show ((wt_come pn so tt kk pp uv c0 d0 w0 (nx, nd, nc)).1) = nx from (by first | rw [show wt_come pn so tt kk pp uv c0 d0 w0 (nx, nd, nc) = _ from if_pos (by first | exact bet_1 c_1 | exact bet_2 c_3 | exact bet_3 c_5 c_7 | exact bet_4 c_5 c_9 c_11)] | rw [show wt_come pn so tt kk pp uv c0 d0 w0 (nx, nd, nc) = _ from if_neg (by rw [show wt_bet _ _ _ _ _ _ = false by first | exact bet_f1 c_1 c_3 c_5 | exact bet_f2 c_1 c_3 c_7 c_9 | exact bet_f3 c_1 c_3 c_7 c_11]; decide)]), show ((wt_come pn so tt kk pp uv c0 d0 w0 (nx, nd, nc)).2.1) = nd from (by first | rw [show wt_come pn so tt kk pp uv c0 d0 w0 (nx, nd, nc) = _ from if_pos (by first | exact bet_1 c_1 | exact bet_2 c_3 | exact bet_3 c_5 c_7 | exact bet_4 c_5 c_9 c_11)] | rw [show wt_come pn so tt kk pp uv c0 d0 w0 (nx, nd, nc) = _ from if_neg (by rw [show wt_bet _ _ _ _ _ _ = false by first | exact bet_f1 c_1 c_3 c_5 | exact bet_f2 c_1 c_3 c_7 c_9 | exact bet_f3 c_1 c_3 c_7 c_11]; decide)]), show ((wt_come pn so tt kk pp uv c0 d0 w0 (nx, nd, nc)).2.2) = nc from (by first | rw [show wt_come pn so tt kk pp uv c0 d0 w0 (nx, nd, nc) = _ from if_pos (by first | exact bet_1 c_1 | exact bet_2 c_3 | exact bet_3 c_5 c_7 | exact bet_4 c_5 c_9 c_11)] | rw [show wt_come pn so tt kk pp uv c0 d0 w0 (nx, nd, nc) = _ from if_neg (by rw [show wt_bet _ _ _ _ _ _ = false by first | exact bet_f1 c_1 c_3 c_5 | exact bet_f2 c_1 c_3 c_7 c_9 | exact bet_f3 c_1 c_3 c_7 c_11]; decide)])]; exact hP
                have hD9 : va_D A (wM cI cZ cL q kn co bo mn wd zs fp ho lv fr so ea dn cd ((wt_come pn so tt kk pp uv c0 d0 w0 (nx, nd, nc)).1) ((wt_come pn so tt kk pp uv c0 d0 w0 (nx, nd, nc)).2.1) ((wt_come pn so tt kk pp uv c0 d0 w0 (nx, nd, nc)).2.2) al wo wh) := by rw [show ((wt_come pn so tt kk pp uv c0 d0 w0 (nx, nd, nc)).1) = nx from (by first | rw [show wt_come pn so tt kk pp uv c0 d0 w0 (nx, nd, nc) = _ from if_pos (by first | exact bet_1 c_1 | exact bet_2 c_3 | exact bet_3 c_5 c_7 | exact bet_4 c_5 c_9 c_11)] | rw [show wt_come pn so tt kk pp uv c0 d0 w0 (nx, nd, nc) = _ from if_neg (by rw [show wt_bet _ _ _ _ _ _ = false by first | exact bet_f1 c_1 c_3 c_5 | exact bet_f2 c_1 c_3 c_7 c_9 | exact bet_f3 c_1 c_3 c_7 c_11]; decide)]), show ((wt_come pn so tt kk pp uv c0 d0 w0 (nx, nd, nc)).2.1) = nd from (by first | rw [show wt_come pn so tt kk pp uv c0 d0 w0 (nx, nd, nc) = _ from if_pos (by first | exact bet_1 c_1 | exact bet_2 c_3 | exact bet_3 c_5 c_7 | exact bet_4 c_5 c_9 c_11)] | rw [show wt_come pn so tt kk pp uv c0 d0 w0 (nx, nd, nc) = _ from if_neg (by rw [show wt_bet _ _ _ _ _ _ = false by first | exact bet_f1 c_1 c_3 c_5 | exact bet_f2 c_1 c_3 c_7 c_9 | exact bet_f3 c_1 c_3 c_7 c_11]; decide)]), show ((wt_come pn so tt kk pp uv c0 d0 w0 (nx, nd, nc)).2.2) = nc from (by first | rw [show wt_come pn so tt kk pp uv c0 d0 w0 (nx, nd, nc) = _ from if_pos (by first | exact bet_1 c_1 | exact bet_2 c_3 | exact bet_3 c_5 c_7 | exact bet_4 c_5 c_9 c_11)] | rw [show wt_come pn so tt kk pp uv c0 d0 w0 (nx, nd, nc) = _ from if_neg (by rw [show wt_bet _ _ _ _ _ _ = false by first | exact bet_f1 c_1 c_3 c_5 | exact bet_f2 c_1 c_3 c_7 c_9 | exact bet_f3 c_1 c_3 c_7 c_11]; decide)])]; exact hD
                exact W.vret hx hb hr (fun t ht hW => ⟨⟨(), rfl, trivial, by rw [ht]; exact hP9, hD9⟩, hS.F ht⟩) hS.2.2 dM_come_157
              · exact absurd c_12 (by decide)
            · skip
              refine lv_iconst (v := nI 1) hx hb dM_come_118 (by decide) ?_
              refine lv_goto (tgt := 123) hx hb dM_come_119 (by decide) ?_
              refine lv_istore (lv' := [(10, .int (nI 1)), (9, .int (c0 + so (12 * tt + 3 * pn (3 * kk + pp / 3) + pp % 3))), (8, .int (nI (225 * kk + 25 * pp + uv))), (0, .ref (q 0)), (1, .int (nI tt)), (2, .int (nI kk)), (3, .int (nI pp)), (4, .int (nI uv)), (5, .int c0), (6, .int d0), (7, .int w0)]) hx hb dM_come_123 hl (by decide) rfl (fun ls hl => ?_)
              refine lv_iload hx hb dM_come_125 (lv_at hl 0 rfl) ?_
              refine wt_if_eq (tgt := 157) hx hb dM_come_127 (by decide) (by omega) (fun c_13 => ?_) (fun c_13 => ?_)
              · exact absurd c_13 (by decide)
              · skip
                refine lv_aload_n hx hb dM_come_130 rfl (lv_at hl 3 rfl) ?_
                refine va_get (D := (dC, dI)) (ci := 5) (v := .ref (q 13)) (C := RM) (T := TM) (N := 20) hx hb ht inM hown hK hP 0 rfl rfl 14 (by decide) (ht _ m_408) (fun _ h9 => h9) rfl dM_come_131 ?_
                refine lv_iload hx hb dM_come_134 (lv_at hl 2 rfl) ?_
                refine lv_iload hx hb dM_come_136 (lv_at hl 1 rfl) ?_
                refine wt_iast hx hb hK hP hD hS 13 0 rfl rfl (k := 225 * kk + 25 * pp + uv) (by omega) (by decide) dM_come_138 (fun H locs hP hD hS => ?_)
                have hP : va_P (dC, dI) vwCl (wM cI cZ cL q kn co bo mn wd zs fp ho lv fr so ea dn cd (upd nx (225 * kk + 25 * pp + uv) (c0 + so (12 * tt + 3 * pn (3 * kk + pp / 3) + pp % 3))) nd nc al wo wh) H := hP
                have hD : va_D A (wM cI cZ cL q kn co bo mn wd zs fp ho lv fr so ea dn cd (upd nx (225 * kk + 25 * pp + uv) (c0 + so (12 * tt + 3 * pn (3 * kk + pp / 3) + pp % 3))) nd nc al wo wh) := hD
                refine lv_aload_n hx hb dM_come_139 rfl (lv_at hl 3 rfl) ?_
                refine va_get (D := (dC, dI)) (ci := 5) (v := .ref (q 14)) (C := RM) (T := TM) (N := 20) hx hb ht inM hown hK hP 0 rfl rfl 15 (by decide) (ht _ m_409) (fun _ h9 => h9) rfl dM_come_140 ?_
                refine lv_iload hx hb dM_come_143 (lv_at hl 2 rfl) ?_
                refine lv_iload hx hb dM_come_145 (lv_at hl 9 rfl) ?_
                refine wt_iast hx hb hK hP hD hS 14 0 rfl rfl (k := 225 * kk + 25 * pp + uv) (by omega) (by decide) dM_come_147 (fun H locs hP hD hS => ?_)
                have hP : va_P (dC, dI) vwCl (wM cI cZ cL q kn co bo mn wd zs fp ho lv fr so ea dn cd (upd nx (225 * kk + 25 * pp + uv) (c0 + so (12 * tt + 3 * pn (3 * kk + pp / 3) + pp % 3))) (upd nd (225 * kk + 25 * pp + uv) d0) nc al wo wh) H := hP
                have hD : va_D A (wM cI cZ cL q kn co bo mn wd zs fp ho lv fr so ea dn cd (upd nx (225 * kk + 25 * pp + uv) (c0 + so (12 * tt + 3 * pn (3 * kk + pp / 3) + pp % 3))) (upd nd (225 * kk + 25 * pp + uv) d0) nc al wo wh) := hD
                refine lv_aload_n hx hb dM_come_148 rfl (lv_at hl 3 rfl) ?_
                refine va_get (D := (dC, dI)) (ci := 5) (v := .ref (q 15)) (C := RM) (T := TM) (N := 20) hx hb ht inM hown hK hP 0 rfl rfl 16 (by decide) (ht _ m_410) (fun _ h9 => h9) rfl dM_come_149 ?_
                refine lv_iload hx hb dM_come_152 (lv_at hl 2 rfl) ?_
                refine lv_iload hx hb dM_come_154 (lv_at hl 10 rfl) ?_
                refine wt_iast hx hb hK hP hD hS 15 0 rfl rfl (k := 225 * kk + 25 * pp + uv) (by omega) (by decide) dM_come_156 (fun H locs hP hD hS => ?_)
                have hP : va_P (dC, dI) vwCl (wM cI cZ cL q kn co bo mn wd zs fp ho lv fr so ea dn cd (upd nx (225 * kk + 25 * pp + uv) (c0 + so (12 * tt + 3 * pn (3 * kk + pp / 3) + pp % 3))) (upd nd (225 * kk + 25 * pp + uv) d0) (upd nc (225 * kk + 25 * pp + uv) w0) al wo wh) H := hP
                have hD : va_D A (wM cI cZ cL q kn co bo mn wd zs fp ho lv fr so ea dn cd (upd nx (225 * kk + 25 * pp + uv) (c0 + so (12 * tt + 3 * pn (3 * kk + pp / 3) + pp % 3))) (upd nd (225 * kk + 25 * pp + uv) d0) (upd nc (225 * kk + 25 * pp + uv) w0) al wo wh) := hD
                have hP9 : va_P (dC, dI) vwCl (wM cI cZ cL q kn co bo mn wd zs fp ho lv fr so ea dn cd ((wt_come pn so tt kk pp uv c0 d0 w0 (nx, nd, nc)).1) ((wt_come pn so tt kk pp uv c0 d0 w0 (nx, nd, nc)).2.1) ((wt_come pn so tt kk pp uv c0 d0 w0 (nx, nd, nc)).2.2) al wo wh) H := by rw [show ((wt_come pn so tt kk pp uv c0 d0 w0 (nx, nd, nc)).1) = (upd nx (225 * kk + 25 * pp + uv) (c0 + so (12 * tt + 3 * pn (3 * kk + pp / 3) + pp % 3))) from (by first | rw [show wt_come pn so tt kk pp uv c0 d0 w0 (nx, nd, nc) = _ from if_pos (by first | exact bet_1 c_1 | exact bet_2 c_3 | exact bet_3 c_5 c_7 | exact bet_4 c_5 c_9 c_11)] | rw [show wt_come pn so tt kk pp uv c0 d0 w0 (nx, nd, nc) = _ from if_neg (by rw [show wt_bet _ _ _ _ _ _ = false by first | exact bet_f1 c_1 c_3 c_5 | exact bet_f2 c_1 c_3 c_7 c_9 | exact bet_f3 c_1 c_3 c_7 c_11]; decide)]), show ((wt_come pn so tt kk pp uv c0 d0 w0 (nx, nd, nc)).2.1) = (upd nd (225 * kk + 25 * pp + uv) d0) from (by first | rw [show wt_come pn so tt kk pp uv c0 d0 w0 (nx, nd, nc) = _ from if_pos (by first | exact bet_1 c_1 | exact bet_2 c_3 | exact bet_3 c_5 c_7 | exact bet_4 c_5 c_9 c_11)] | rw [show wt_come pn so tt kk pp uv c0 d0 w0 (nx, nd, nc) = _ from if_neg (by rw [show wt_bet _ _ _ _ _ _ = false by first | exact bet_f1 c_1 c_3 c_5 | exact bet_f2 c_1 c_3 c_7 c_9 | exact bet_f3 c_1 c_3 c_7 c_11]; decide)]), show ((wt_come pn so tt kk pp uv c0 d0 w0 (nx, nd, nc)).2.2) = (upd nc (225 * kk + 25 * pp + uv) w0) from (by first | rw [show wt_come pn so tt kk pp uv c0 d0 w0 (nx, nd, nc) = _ from if_pos (by first | exact bet_1 c_1 | exact bet_2 c_3 | exact bet_3 c_5 c_7 | exact bet_4 c_5 c_9 c_11)] | rw [show wt_come pn so tt kk pp uv c0 d0 w0 (nx, nd, nc) = _ from if_neg (by rw [show wt_bet _ _ _ _ _ _ = false by first | exact bet_f1 c_1 c_3 c_5 | exact bet_f2 c_1 c_3 c_7 c_9 | exact bet_f3 c_1 c_3 c_7 c_11]; decide)])]; exact hP
                have hD9 : va_D A (wM cI cZ cL q kn co bo mn wd zs fp ho lv fr so ea dn cd ((wt_come pn so tt kk pp uv c0 d0 w0 (nx, nd, nc)).1) ((wt_come pn so tt kk pp uv c0 d0 w0 (nx, nd, nc)).2.1) ((wt_come pn so tt kk pp uv c0 d0 w0 (nx, nd, nc)).2.2) al wo wh) := by rw [show ((wt_come pn so tt kk pp uv c0 d0 w0 (nx, nd, nc)).1) = (upd nx (225 * kk + 25 * pp + uv) (c0 + so (12 * tt + 3 * pn (3 * kk + pp / 3) + pp % 3))) from (by first | rw [show wt_come pn so tt kk pp uv c0 d0 w0 (nx, nd, nc) = _ from if_pos (by first | exact bet_1 c_1 | exact bet_2 c_3 | exact bet_3 c_5 c_7 | exact bet_4 c_5 c_9 c_11)] | rw [show wt_come pn so tt kk pp uv c0 d0 w0 (nx, nd, nc) = _ from if_neg (by rw [show wt_bet _ _ _ _ _ _ = false by first | exact bet_f1 c_1 c_3 c_5 | exact bet_f2 c_1 c_3 c_7 c_9 | exact bet_f3 c_1 c_3 c_7 c_11]; decide)]), show ((wt_come pn so tt kk pp uv c0 d0 w0 (nx, nd, nc)).2.1) = (upd nd (225 * kk + 25 * pp + uv) d0) from (by first | rw [show wt_come pn so tt kk pp uv c0 d0 w0 (nx, nd, nc) = _ from if_pos (by first | exact bet_1 c_1 | exact bet_2 c_3 | exact bet_3 c_5 c_7 | exact bet_4 c_5 c_9 c_11)] | rw [show wt_come pn so tt kk pp uv c0 d0 w0 (nx, nd, nc) = _ from if_neg (by rw [show wt_bet _ _ _ _ _ _ = false by first | exact bet_f1 c_1 c_3 c_5 | exact bet_f2 c_1 c_3 c_7 c_9 | exact bet_f3 c_1 c_3 c_7 c_11]; decide)]), show ((wt_come pn so tt kk pp uv c0 d0 w0 (nx, nd, nc)).2.2) = (upd nc (225 * kk + 25 * pp + uv) w0) from (by first | rw [show wt_come pn so tt kk pp uv c0 d0 w0 (nx, nd, nc) = _ from if_pos (by first | exact bet_1 c_1 | exact bet_2 c_3 | exact bet_3 c_5 c_7 | exact bet_4 c_5 c_9 c_11)] | rw [show wt_come pn so tt kk pp uv c0 d0 w0 (nx, nd, nc) = _ from if_neg (by rw [show wt_bet _ _ _ _ _ _ = false by first | exact bet_f1 c_1 c_3 c_5 | exact bet_f2 c_1 c_3 c_7 c_9 | exact bet_f3 c_1 c_3 c_7 c_11]; decide)])]; exact hD
                exact W.vret hx hb hr (fun t ht hW => ⟨⟨(), rfl, trivial, by rw [ht]; exact hP9, hD9⟩, hS.F ht⟩) hS.2.2 dM_come_157

set_option maxHeartbeats 4000000 in
set_option maxRecDepth 100000 in
theorem c_M_clear (l : Launch) (dC : Nat → ClassId) (dI : Nat → Nat → Nat) (cI cZ cL : ClassId) (q : Nat → Nat) (sz0 : Nat) (kn : Nat → Bool) (co : Nat → Int32) (bo : Nat → Int32) (mn : Nat) (wd : Nat → Nat) (zs : Nat → Nat) (fp : Nat → Int32) (ho : Nat → Int32) (lv : Nat → Int32) (fr : Nat) (so : Nat → Int32) (ea : Nat → Int32) (dn : Nat → Int32) (cd : Nat → Int32) (nx : Nat → Int32) (nd : Nat → Int32) (nc : Nat → Int32) (al : Int32) (wo : Int32) (wh : Int32) : Met l yM_clear (Cond.code yM_clear cM_clear 2 none :: tb) ({ frames := 0, cells := 0, slots := 0, locals := 0 }) (va_Pc [.ref (q 0)] (wt_rw (dC, dI) vwCl [(cI, .int), (cZ, .boolean), (cL, .long)] (wM cI cZ cL q kn co bo mn wd zs fp ho lv fr so ea dn cd nx nd nc al wo wh) sz0)) (va_Qv (fun _ : Unit => True) (wt_B (dC, dI) vwCl (va_A (wM cI cZ cL q kn co bo mn wd zs fp ho lv fr so ea dn cd nx nd nc al wo wh) sz0) (wM cI cZ cL q kn co bo mn wd zs fp ho lv fr so ea dn cd (fun _ => -1) nd nc al wo wh)) (va_A (wM cI cZ cL q kn co bo mn wd zs fp ho lv fr so ea dn cd nx nd nc al wo wh) sz0)) 0 0 (va_A (wM cI cZ cL q kn co bo mn wd zs fp ho lv fr so ea dn cd nx nd nc al wo wh) sz0) := by
  refine Met.ofW (cc := cM_clear) (maxL := 2) (ret := none) (by decide) rfl ?_
  intro p e s m args below meth c s₁ B hml hv
  obtain ⟨rfl, hsz, hP, hK, hN, hD0⟩ := hv
  have hx := B.exec
  have hb := B.bytes
  have hr := B.returns
  have hts := atoms_spec (ws := (Cond.code yM_clear cM_clear 2 none :: tb)) B.pre
  have ht : ∀ w ∈ tb, w.before _ s = true := fun w h => hts w (List.mem_cons_of_mem _ h)
  have hown : s.vm.findClass RM = some m.cls := findClass_of_methodNamed B.named
  have hlocks := B.notSynchronized
  subst hsz
  have hD := hD0.self (sz := s.heap.size)
  generalize hAe : va_A (wM cI cZ cL q kn co bo mn wd zs fp ho lv fr so ea dn cd nx nd nc al wo wh) s.heap.size = A at hD ⊢
  have hA : ∀ q : Nat, s.heap.size ≤ q → A q := fun q h => by rw [← hAe]; exact Or.inr h
  clear hAe hD0
  have hS : va_S A s.heap s.heap [] := va_S.rf
  have hl := lv_entry ([.ref (q 0)]) (n := 2) (Nat.le_of_ble_eq_true rfl)
  rw [lg_entry_eq]
  generalize (lg_sl ([.ref (q 0)]) ++ List.replicate (2 - (lg_sl ([.ref (q 0)])).length) Slot.unset).toArray = ls at hl ⊢
  have hl : lv_has ls 2 [(0, .ref (q 0))] := hl
  refine lv_iconst (v := nI 0) hx hb dM_clear_0 (by decide) ?_
  refine lv_istore_n (lv' := [(1, .int (nI 0)), (0, .ref (q 0))]) hx hb dM_clear_1 rfl hl (by decide) rfl (fun ls hl => ?_)
  have LP2 : ∀ (r : Nat) (i : Nat) (nxx : Nat → Int32) (hi : i + r = 1800) (hf : ∀ j, j < i → nxx j = -1) (H : Heap) (locs : List Loc) (hP : va_P (dC, dI) vwCl (wM cI cZ cL q kn co bo mn wd zs fp ho lv fr so ea dn cd nxx nd nc al wo wh) H) (hD : va_D A (wM cI cZ cL q kn co bo mn wd zs fp ho lv fr so ea dn cd nxx nd nc al wo wh)) (hS : va_S A s.heap H locs) (ls : Array Slot) (hl : lv_has ls 2 [(0, .ref (q 0)), (1, .int (nI i))]), W p l e (headSpec (Cond.code yM_clear cM_clear 2 none :: tb) ({ frames := 0, cells := 0, slots := 0, locals := 0 })).room s m ([.ref (q 0)] : List Value).toArray below meth c H locs 0 0 (MQ below (va_Qv (fun _ : Unit => True) (wt_B (dC, dI) vwCl A (wM cI cZ cL q kn co bo mn wd zs fp ho lv fr so ea dn cd (fun _ => -1) nd nc al wo wh)) A) ([.ref (q 0)] : List Value).toArray s 0 0 A) (F0 m 2 ls []) := by
    intro r
    induction r with
    | zero =>
      intro i nxx hi hf H locs hP hD hS ls hl
      have hl : lv_has ls 2 [(0, .ref (q 0)), (1, .int (nI i))] := hl
      refine lv_iload_n hx hb dM_clear_2 rfl (lv_at hl 1 rfl) ?_
      refine lv_sipush (v := nI 1800) hx hb dM_clear_3 (by decide) ?_
      refine wt_icmp_ge (tgt := 22) hx hb dM_clear_6 (by decide) (by omega) (by omega) (fun c_1 => ?_) (fun c_1 => ?_)
      · skip
        have hP9 : va_P (dC, dI) vwCl (wM cI cZ cL q kn co bo mn wd zs fp ho lv fr so ea dn cd (fun _ => -1) nd nc al wo wh) H := wt_ext (k := 13) hP rfl (wt_arrI (fun j hj => hf j (by omega)))
        have hD9 : va_D A (wM cI cZ cL q kn co bo mn wd zs fp ho lv fr so ea dn cd (fun _ => -1) nd nc al wo wh) := hD.set (p := 13) rfl
        exact W.vret hx hb hr (fun t ht hW => ⟨⟨(), rfl, trivial, by rw [ht]; exact hP9, hD9⟩, hS.F ht⟩) hS.2.2 dM_clear_22
      · first | exact absurd c_1 (by omega) | exact absurd c_1 (by decide) | exact absurd (by decide) c_1
    | succ r ih2 =>
      intro i nxx hi hf H locs hP hD hS ls hl
      have hl : lv_has ls 2 [(0, .ref (q 0)), (1, .int (nI i))] := hl
      refine lv_iload_n hx hb dM_clear_2 rfl (lv_at hl 1 rfl) ?_
      refine lv_sipush (v := nI 1800) hx hb dM_clear_3 (by decide) ?_
      refine wt_icmp_ge (tgt := 22) hx hb dM_clear_6 (by decide) (by omega) (by omega) (fun c_2 => ?_) (fun c_2 => ?_)
      · first | exact absurd c_2 (by omega) | exact absurd c_2 (by decide) | exact absurd (by decide) c_2
      · skip
        refine lv_aload_n hx hb dM_clear_9 rfl (lv_at hl 0 rfl) ?_
        refine va_get (D := (dC, dI)) (ci := 5) (v := .ref (q 13)) (C := RM) (T := TM) (N := 20) hx hb ht inM hown hK hP 0 rfl rfl 14 (by decide) (ht _ m_408) (fun _ h9 => h9) rfl dM_clear_10 ?_
        refine lv_iload_n hx hb dM_clear_13 rfl (lv_at hl 1 rfl) ?_
        refine lv_iconst (v := (-1)) hx hb dM_clear_14 (by decide) ?_
        refine wt_iast hx hb hK hP hD hS 13 0 rfl rfl (k := i) (by omega) (by decide) dM_clear_15 (fun H locs hP hD hS => ?_)
        have hP : va_P (dC, dI) vwCl (wM cI cZ cL q kn co bo mn wd zs fp ho lv fr so ea dn cd (upd nxx i (-1)) nd nc al wo wh) H := hP
        have hD : va_D A (wM cI cZ cL q kn co bo mn wd zs fp ho lv fr so ea dn cd (upd nxx i (-1)) nd nc al wo wh) := hD
        refine lv_iinc (v := nI (i + 1)) (lv' := [(1, .int (nI (i + 1))), (0, .ref (q 0))]) hx hb dM_clear_16 hl (k := 1) rfl (wt_inc1 i) (by decide) rfl (fun ls hl => ?_)
        refine lv_goto (tgt := 2) hx hb dM_clear_19 (by decide) ?_
        exact ih2 (i + 1) (upd nxx i (-1)) (by omega) (wt_vI hf) _ _ hP hD hS ls (lv_sub hl [1, 0] rfl)
  exact LP2 1800 0 nx rfl (fun j h => absurd h (Nat.not_lt_zero j)) _ _ hP hD hS ls (lv_sub hl [1, 0] rfl)

theorem wt_vT {f g : Nat → Int32} {i : Nat} (h : ∀ j, j < i → f j = g j) : ∀ j, j < i + 1 → upd f i (g i) j = g j := by
  intro j hj
  by_cases q : j = i
  · rw [q]; exact pk_us
  · rw [pk_un q]; exact h j (by omega)

set_option maxHeartbeats 4000000 in
set_option maxRecDepth 100000 in
theorem c_M_take (l : Launch) (dC : Nat → ClassId) (dI : Nat → Nat → Nat) (cI cZ cL : ClassId) (q : Nat → Nat) (sz0 : Nat) (kn : Nat → Bool) (co : Nat → Int32) (bo : Nat → Int32) (mn : Nat) (wd : Nat → Nat) (zs : Nat → Nat) (fp : Nat → Int32) (ho : Nat → Int32) (lv : Nat → Int32) (fr : Nat) (so : Nat → Int32) (ea : Nat → Int32) (dn : Nat → Int32) (cd : Nat → Int32) (nx : Nat → Int32) (nd : Nat → Int32) (nc : Nat → Int32) (al : Int32) (wo : Int32) (wh : Int32) : Met l yM_take (Cond.code yM_take cM_take 2 none :: tb) ({ frames := 0, cells := 0, slots := 0, locals := 0 }) (va_Pc [.ref (q 0)] (wt_rw (dC, dI) vwCl [(cI, .int), (cZ, .boolean), (cL, .long)] (wM cI cZ cL q kn co bo mn wd zs fp ho lv fr so ea dn cd nx nd nc al wo wh) sz0)) (va_Qv (fun _ : Unit => True) (wt_B (dC, dI) vwCl (va_A (wM cI cZ cL q kn co bo mn wd zs fp ho lv fr so ea dn cd nx nd nc al wo wh) sz0) (wM cI cZ cL q kn co bo mn wd zs fp ho lv fr so nx nd nc nx nd nc al wo wh)) (va_A (wM cI cZ cL q kn co bo mn wd zs fp ho lv fr so ea dn cd nx nd nc al wo wh) sz0)) 0 0 (va_A (wM cI cZ cL q kn co bo mn wd zs fp ho lv fr so ea dn cd nx nd nc al wo wh) sz0) := by
  refine Met.ofW (cc := cM_take) (maxL := 2) (ret := none) (by decide) rfl ?_
  intro p e s m args below meth c s₁ B hml hv
  obtain ⟨rfl, hsz, hP, hK, hN, hD0⟩ := hv
  have hx := B.exec
  have hb := B.bytes
  have hr := B.returns
  have hts := atoms_spec (ws := (Cond.code yM_take cM_take 2 none :: tb)) B.pre
  have ht : ∀ w ∈ tb, w.before _ s = true := fun w h => hts w (List.mem_cons_of_mem _ h)
  have hown : s.vm.findClass RM = some m.cls := findClass_of_methodNamed B.named
  have hlocks := B.notSynchronized
  subst hsz
  have hD := hD0.self (sz := s.heap.size)
  generalize hAe : va_A (wM cI cZ cL q kn co bo mn wd zs fp ho lv fr so ea dn cd nx nd nc al wo wh) s.heap.size = A at hD ⊢
  have hA : ∀ q : Nat, s.heap.size ≤ q → A q := fun q h => by rw [← hAe]; exact Or.inr h
  clear hAe hD0
  have hS : va_S A s.heap s.heap [] := va_S.rf
  have hl := lv_entry ([.ref (q 0)]) (n := 2) (Nat.le_of_ble_eq_true rfl)
  rw [lg_entry_eq]
  generalize (lg_sl ([.ref (q 0)]) ++ List.replicate (2 - (lg_sl ([.ref (q 0)])).length) Slot.unset).toArray = ls at hl ⊢
  have hl : lv_has ls 2 [(0, .ref (q 0))] := hl
  refine lv_iconst (v := nI 0) hx hb dM_take_0 (by decide) ?_
  refine lv_istore_n (lv' := [(1, .int (nI 0)), (0, .ref (q 0))]) hx hb dM_take_1 rfl hl (by decide) rfl (fun ls hl => ?_)
  have LP2 : ∀ (r : Nat) (i : Nat) (eax : Nat → Int32) (dnx : Nat → Int32) (cdx : Nat → Int32) (hi : i + r = 1800) (h1 : ∀ j, j < i → eax j = nx j) (h2 : ∀ j, j < i → dnx j = nd j) (h3 : ∀ j, j < i → cdx j = nc j) (H : Heap) (locs : List Loc) (hP : va_P (dC, dI) vwCl (wM cI cZ cL q kn co bo mn wd zs fp ho lv fr so eax dnx cdx nx nd nc al wo wh) H) (hD : va_D A (wM cI cZ cL q kn co bo mn wd zs fp ho lv fr so eax dnx cdx nx nd nc al wo wh)) (hS : va_S A s.heap H locs) (ls : Array Slot) (hl : lv_has ls 2 [(0, .ref (q 0)), (1, .int (nI i))]), W p l e (headSpec (Cond.code yM_take cM_take 2 none :: tb) ({ frames := 0, cells := 0, slots := 0, locals := 0 })).room s m ([.ref (q 0)] : List Value).toArray below meth c H locs 0 0 (MQ below (va_Qv (fun _ : Unit => True) (wt_B (dC, dI) vwCl A (wM cI cZ cL q kn co bo mn wd zs fp ho lv fr so nx nd nc nx nd nc al wo wh)) A) ([.ref (q 0)] : List Value).toArray s 0 0 A) (F0 m 2 ls []) := by
    intro r
    induction r with
    | zero =>
      intro i eax dnx cdx hi h1 h2 h3 H locs hP hD hS ls hl
      have hl : lv_has ls 2 [(0, .ref (q 0)), (1, .int (nI i))] := hl
      refine lv_iload_n hx hb dM_take_2 rfl (lv_at hl 1 rfl) ?_
      refine lv_sipush (v := nI 1800) hx hb dM_take_3 (by decide) ?_
      refine wt_icmp_ge (tgt := 51) hx hb dM_take_6 (by decide) (by omega) (by omega) (fun c_1 => ?_) (fun c_1 => ?_)
      · skip
        have hP9 : va_P (dC, dI) vwCl (wM cI cZ cL q kn co bo mn wd zs fp ho lv fr so nx nd nc nx nd nc al wo wh) H := wt_ext (k := 12) (wt_ext (k := 11) (wt_ext (k := 10) hP rfl (wt_arrI (fun j hj => h1 j (by omega)))) rfl (wt_arrI (fun j hj => h2 j (by omega)))) rfl (wt_arrI (fun j hj => h3 j (by omega)))
        have hD9 : va_D A (wM cI cZ cL q kn co bo mn wd zs fp ho lv fr so nx nd nc nx nd nc al wo wh) := ((hD.set (p := 10) rfl).set (p := 11) rfl).set (p := 12) rfl
        exact W.vret hx hb hr (fun t ht hW => ⟨⟨(), rfl, trivial, by rw [ht]; exact hP9, hD9⟩, hS.F ht⟩) hS.2.2 dM_take_51
      · first | exact absurd c_1 (by omega) | exact absurd c_1 (by decide) | exact absurd (by decide) c_1
    | succ r ih2 =>
      intro i eax dnx cdx hi h1 h2 h3 H locs hP hD hS ls hl
      have hl : lv_has ls 2 [(0, .ref (q 0)), (1, .int (nI i))] := hl
      refine lv_iload_n hx hb dM_take_2 rfl (lv_at hl 1 rfl) ?_
      refine lv_sipush (v := nI 1800) hx hb dM_take_3 (by decide) ?_
      refine wt_icmp_ge (tgt := 51) hx hb dM_take_6 (by decide) (by omega) (by omega) (fun c_2 => ?_) (fun c_2 => ?_)
      · first | exact absurd c_2 (by omega) | exact absurd c_2 (by decide) | exact absurd (by decide) c_2
      · skip
        refine lv_aload_n hx hb dM_take_9 rfl (lv_at hl 0 rfl) ?_
        refine va_get (D := (dC, dI)) (ci := 5) (v := .ref (q 10)) (C := RM) (T := TM) (N := 20) hx hb ht inM hown hK hP 0 rfl rfl 11 (by decide) (ht _ m_405) (fun _ h9 => h9) rfl dM_take_10 ?_
        refine lv_iload_n hx hb dM_take_13 rfl (lv_at hl 1 rfl) ?_
        refine lv_aload_n hx hb dM_take_14 rfl (lv_at hl 0 rfl) ?_
        refine va_get (D := (dC, dI)) (ci := 5) (v := .ref (q 13)) (C := RM) (T := TM) (N := 20) hx hb ht inM hown hK hP 0 rfl rfl 14 (by decide) (ht _ m_408) (fun _ h9 => h9) rfl dM_take_15 ?_
        refine lv_iload_n hx hb dM_take_18 rfl (lv_at hl 1 rfl) ?_
        refine wt_iald hx hb hK hP 13 0 rfl rfl (k := i) (by omega) (by decide) dM_take_19 ?_
        refine wt_iast hx hb hK hP hD hS 10 0 rfl rfl (k := i) (by omega) (by decide) dM_take_20 (fun H locs hP hD hS => ?_)
        have hP : va_P (dC, dI) vwCl (wM cI cZ cL q kn co bo mn wd zs fp ho lv fr so (upd eax i (nx i)) dnx cdx nx nd nc al wo wh) H := hP
        have hD : va_D A (wM cI cZ cL q kn co bo mn wd zs fp ho lv fr so (upd eax i (nx i)) dnx cdx nx nd nc al wo wh) := hD
        refine lv_aload_n hx hb dM_take_21 rfl (lv_at hl 0 rfl) ?_
        refine va_get (D := (dC, dI)) (ci := 5) (v := .ref (q 11)) (C := RM) (T := TM) (N := 20) hx hb ht inM hown hK hP 0 rfl rfl 12 (by decide) (ht _ m_406) (fun _ h9 => h9) rfl dM_take_22 ?_
        refine lv_iload_n hx hb dM_take_25 rfl (lv_at hl 1 rfl) ?_
        refine lv_aload_n hx hb dM_take_26 rfl (lv_at hl 0 rfl) ?_
        refine va_get (D := (dC, dI)) (ci := 5) (v := .ref (q 14)) (C := RM) (T := TM) (N := 20) hx hb ht inM hown hK hP 0 rfl rfl 15 (by decide) (ht _ m_409) (fun _ h9 => h9) rfl dM_take_27 ?_
        refine lv_iload_n hx hb dM_take_30 rfl (lv_at hl 1 rfl) ?_
        refine wt_iald hx hb hK hP 14 0 rfl rfl (k := i) (by omega) (by decide) dM_take_31 ?_
        refine wt_iast hx hb hK hP hD hS 11 0 rfl rfl (k := i) (by omega) (by decide) dM_take_32 (fun H locs hP hD hS => ?_)
        have hP : va_P (dC, dI) vwCl (wM cI cZ cL q kn co bo mn wd zs fp ho lv fr so (upd eax i (nx i)) (upd dnx i (nd i)) cdx nx nd nc al wo wh) H := hP
        have hD : va_D A (wM cI cZ cL q kn co bo mn wd zs fp ho lv fr so (upd eax i (nx i)) (upd dnx i (nd i)) cdx nx nd nc al wo wh) := hD
        refine lv_aload_n hx hb dM_take_33 rfl (lv_at hl 0 rfl) ?_
        refine va_get (D := (dC, dI)) (ci := 5) (v := .ref (q 12)) (C := RM) (T := TM) (N := 20) hx hb ht inM hown hK hP 0 rfl rfl 13 (by decide) (ht _ m_407) (fun _ h9 => h9) rfl dM_take_34 ?_
        refine lv_iload_n hx hb dM_take_37 rfl (lv_at hl 1 rfl) ?_
        refine lv_aload_n hx hb dM_take_38 rfl (lv_at hl 0 rfl) ?_
        refine va_get (D := (dC, dI)) (ci := 5) (v := .ref (q 15)) (C := RM) (T := TM) (N := 20) hx hb ht inM hown hK hP 0 rfl rfl 16 (by decide) (ht _ m_410) (fun _ h9 => h9) rfl dM_take_39 ?_
        refine lv_iload_n hx hb dM_take_42 rfl (lv_at hl 1 rfl) ?_
        refine wt_iald hx hb hK hP 15 0 rfl rfl (k := i) (by omega) (by decide) dM_take_43 ?_
        refine wt_iast hx hb hK hP hD hS 12 0 rfl rfl (k := i) (by omega) (by decide) dM_take_44 (fun H locs hP hD hS => ?_)
        have hP : va_P (dC, dI) vwCl (wM cI cZ cL q kn co bo mn wd zs fp ho lv fr so (upd eax i (nx i)) (upd dnx i (nd i)) (upd cdx i (nc i)) nx nd nc al wo wh) H := hP
        have hD : va_D A (wM cI cZ cL q kn co bo mn wd zs fp ho lv fr so (upd eax i (nx i)) (upd dnx i (nd i)) (upd cdx i (nc i)) nx nd nc al wo wh) := hD
        refine lv_iinc (v := nI (i + 1)) (lv' := [(1, .int (nI (i + 1))), (0, .ref (q 0))]) hx hb dM_take_45 hl (k := 1) rfl (wt_inc1 i) (by decide) rfl (fun ls hl => ?_)
        refine lv_goto (tgt := 2) hx hb dM_take_48 (by decide) ?_
        exact ih2 (i + 1) (upd eax i (nx i)) (upd dnx i (nd i)) (upd cdx i (nc i)) (by omega) (wt_vT h1) (wt_vT h2) (wt_vT h3) _ _ hP hD hS ls (lv_sub hl [1, 0] rfl)
  exact LP2 1800 0 ea dn cd rfl (fun j h => absurd h (Nat.not_lt_zero j)) (fun j h => absurd h (Nat.not_lt_zero j)) (fun j h => absurd h (Nat.not_lt_zero j)) _ _ hP hD hS ls (lv_sub hl [1, 0] rfl)

set_option maxHeartbeats 4000000 in
set_option maxRecDepth 100000 in
theorem c_M_go (l : Launch) (dC : Nat → ClassId) (dI : Nat → Nat → Nat) (cI cZ cL : ClassId) (q : Nat → Nat) (sz0 : Nat) (kn : Nat → Bool) (co : Nat → Int32) (bo : Nat → Int32) (mn : Nat) (wd : Nat → Nat) (zs : Nat → Nat) (fp : Nat → Int32) (ho : Nat → Int32) (lv : Nat → Int32) (fr : Nat) (so : Nat → Int32) (ea : Nat → Int32) (dn : Nat → Int32) (cd : Nat → Int32) (nx : Nat → Int32) (nd : Nat → Int32) (nc : Nat → Int32) (al : Int32) (wo : Int32) (wh : Int32) (pn : Nat → Nat) (ii : Nat) (tt : Nat) (hii : ii < 1800) (htt : tt < 15) (hk : ii / 225 < mn) (hp : ii / 25 % 9 < 3 * zs (ii / 225)) (hvu : ii % 5 = 4 → ii / 5 % 5 = 4) (hmn : mn ≤ 8) (hzs : ∀ k, zs k ≤ 3) (hwd : ∀ k, wd k < 4) (hz1 : ∀ k, k < mn → 1 ≤ zs k) (hfp : ∀ k i, k < mn → i < zs k → fp (3 * k + i) = nI (pn (3 * k + i)) ∧ pn (3 * k + i) < 4) : Met l yM_go (Cond.code yM_go cM_go 9 none :: tb) ({ frames := 3, cells := 0, slots := 0, locals := 69 }) (va_Pc [.ref (q 0), .int (nI ii), .int (nI tt)] (wt_rw (dC, dI) vwCl [(cI, .int), (cZ, .boolean), (cL, .long)] (wM cI cZ cL q kn co bo mn wd zs fp ho lv fr so ea dn cd nx nd nc al wo wh) sz0)) (va_Qv (fun _ : Unit => True) (wt_B (dC, dI) vwCl (va_A (wM cI cZ cL q kn co bo mn wd zs fp ho lv fr so ea dn cd nx nd nc al wo wh) sz0) (wM cI cZ cL q kn co bo mn wd zs fp ho lv fr so ea dn cd ((wt_go pn wd zs mn kn co bo ho lv so ea dn cd tt ii (nx, nd, nc)).1) ((wt_go pn wd zs mn kn co bo ho lv so ea dn cd tt ii (nx, nd, nc)).2.1) ((wt_go pn wd zs mn kn co bo ho lv so ea dn cd tt ii (nx, nd, nc)).2.2) al wo wh)) (va_A (wM cI cZ cL q kn co bo mn wd zs fp ho lv fr so ea dn cd nx nd nc al wo wh) sz0)) 0 0 (va_A (wM cI cZ cL q kn co bo mn wd zs fp ho lv fr so ea dn cd nx nd nc al wo wh) sz0) := by
  refine Met.ofW (cc := cM_go) (maxL := 9) (ret := none) (by decide) rfl ?_
  intro p e s m args below meth c s₁ B hml hv
  obtain ⟨rfl, hsz, hP, hK, hN, hD0⟩ := hv
  have hx := B.exec
  have hb := B.bytes
  have hr := B.returns
  have hts := atoms_spec (ws := (Cond.code yM_go cM_go 9 none :: tb)) B.pre
  have ht : ∀ w ∈ tb, w.before _ s = true := fun w h => hts w (List.mem_cons_of_mem _ h)
  have hown : s.vm.findClass RM = some m.cls := findClass_of_methodNamed B.named
  have hlocks := B.notSynchronized
  subst hsz
  have hD := hD0.self (sz := s.heap.size)
  generalize hAe : va_A (wM cI cZ cL q kn co bo mn wd zs fp ho lv fr so ea dn cd nx nd nc al wo wh) s.heap.size = A at hD ⊢
  have hA : ∀ q : Nat, s.heap.size ≤ q → A q := fun q h => by rw [← hAe]; exact Or.inr h
  clear hAe hD0
  have hS : va_S A s.heap s.heap [] := va_S.rf
  have hl := lv_entry ([.ref (q 0), .int (nI ii), .int (nI tt)]) (n := 9) (Nat.le_of_ble_eq_true rfl)
  rw [lg_entry_eq]
  generalize (lg_sl ([.ref (q 0), .int (nI ii), .int (nI tt)]) ++ List.replicate (9 - (lg_sl ([.ref (q 0), .int (nI ii), .int (nI tt)])).length) Slot.unset).toArray = ls at hl ⊢
  have hl : lv_has ls 9 [(0, .ref (q 0)), (1, .int (nI ii)), (2, .int (nI tt))] := hl
  have h3 := hzs (ii / 225)
  have hw := hwd (ii / 225)
  refine lv_iload_n hx hb dM_go_0 rfl (lv_at hl 1 rfl) ?_
  refine lv_sipush (v := nI 225) hx hb dM_go_1 (by decide) ?_
  refine wt_idiv hx hb dM_go_4 (by omega) (by decide) (by decide) ?_
  refine lv_istore_n (lv' := [(3, .int (nI (ii / 225))), (0, .ref (q 0)), (1, .int (nI ii)), (2, .int (nI tt))]) hx hb dM_go_5 rfl hl (by decide) rfl (fun ls hl => ?_)
  refine lv_iload_n hx hb dM_go_6 rfl (lv_at hl 2 rfl) ?_
  refine lv_bipush (v := nI 25) hx hb dM_go_7 (by decide) ?_
  refine wt_idiv hx hb dM_go_9 (by omega) (by decide) (by decide) ?_
  refine lv_bipush (v := nI 9) hx hb dM_go_10 (by decide) ?_
  refine wt_irem hx hb dM_go_12 (by omega) (by decide) (by decide) ?_
  refine lv_istore (lv' := [(4, .int (nI (ii / 25 % 9))), (3, .int (nI (ii / 225))), (0, .ref (q 0)), (1, .int (nI ii)), (2, .int (nI tt))]) hx hb dM_go_13 hl (by decide) rfl (fun ls hl => ?_)
  refine lv_iload_n hx hb dM_go_15 rfl (lv_at hl 3 rfl) ?_
  refine lv_iconst (v := nI 5) hx hb dM_go_16 (by decide) ?_
  refine wt_idiv hx hb dM_go_17 (by omega) (by decide) (by decide) ?_
  refine lv_iconst (v := nI 5) hx hb dM_go_18 (by decide) ?_
  refine wt_irem hx hb dM_go_19 (by omega) (by decide) (by decide) ?_
  refine lv_istore (lv' := [(5, .int (nI (ii / 5 % 5))), (4, .int (nI (ii / 25 % 9))), (3, .int (nI (ii / 225))), (0, .ref (q 0)), (1, .int (nI ii)), (2, .int (nI tt))]) hx hb dM_go_20 hl (by decide) rfl (fun ls hl => ?_)
  refine lv_iload_n hx hb dM_go_22 rfl (lv_at hl 4 rfl) ?_
  refine lv_iconst (v := nI 5) hx hb dM_go_23 (by decide) ?_
  refine wt_irem hx hb dM_go_24 (by omega) (by decide) (by decide) ?_
  refine lv_istore (lv' := [(6, .int (nI (ii % 5))), (5, .int (nI (ii / 5 % 5))), (4, .int (nI (ii / 25 % 9))), (3, .int (nI (ii / 225))), (0, .ref (q 0)), (1, .int (nI ii)), (2, .int (nI tt))]) hx hb dM_go_25 hl (by decide) rfl (fun ls hl => ?_)
  refine lv_aload_n hx hb dM_go_27 rfl (lv_at hl 4 rfl) ?_
  refine lv_iload_n hx hb dM_go_28 rfl (lv_at hl 6 rfl) ?_
  refine lv_iload_n hx hb dM_go_29 rfl (lv_at hl 3 rfl) ?_
  refine lv_iload hx hb dM_go_30 (lv_at hl 2 rfl) ?_
  refine lv_iload_n hx hb dM_go_32 rfl (lv_at hl 5 rfl) ?_
  refine lv_bipush (v := nI 25) hx hb dM_go_33 (by decide) ?_
  refine wt_irem hx hb dM_go_35 (by omega) (by decide) (by decide) ?_
  refine lv_aload_n hx hb dM_go_36 rfl (lv_at hl 4 rfl) ?_
  refine va_get (D := (dC, dI)) (ci := 5) (v := .ref (q 10)) (C := RM) (T := TM) (N := 20) hx hb ht inM hown hK hP 0 rfl rfl 11 (by decide) (ht _ m_405) (fun _ h9 => h9) rfl dM_go_37 ?_
  refine lv_iload_n hx hb dM_go_40 rfl (lv_at hl 5 rfl) ?_
  refine wt_iald hx hb hK hP 10 0 rfl rfl (k := ii) (by omega) (by decide) dM_go_41 ?_
  refine lv_aload_n hx hb dM_go_42 rfl (lv_at hl 4 rfl) ?_
  refine va_get (D := (dC, dI)) (ci := 5) (v := .ref (q 7)) (C := RM) (T := TM) (N := 20) hx hb ht inM hown hK hP 0 rfl rfl 7 (by decide) (ht _ m_401) (fun _ h9 => h9) rfl dM_go_43 ?_
  refine lv_iload hx hb dM_go_46 (lv_at hl 2 rfl) ?_
  refine lv_iconst (v := nI 3) hx hb dM_go_48 (by decide) ?_
  refine wt_irem hx hb dM_go_49 (by omega) (by decide) (by decide) ?_
  refine wt_iald hx hb hK hP 7 0 rfl rfl (k := ii / 25 % 9 % 3) (by omega) (by decide) dM_go_50 ?_
  refine lv_iadd hx hb dM_go_51 ?_
  refine lv_aload_n hx hb dM_go_52 rfl (lv_at hl 4 rfl) ?_
  refine va_get (D := (dC, dI)) (ci := 5) (v := .ref (q 11)) (C := RM) (T := TM) (N := 20) hx hb ht inM hown hK hP 0 rfl rfl 12 (by decide) (ht _ m_406) (fun _ h9 => h9) rfl dM_go_53 ?_
  refine lv_iload_n hx hb dM_go_56 rfl (lv_at hl 5 rfl) ?_
  refine wt_iald hx hb hK hP 11 0 rfl rfl (k := ii) (by omega) (by decide) dM_go_57 ?_
  refine lv_aload_n hx hb dM_go_58 rfl (lv_at hl 4 rfl) ?_
  refine va_get (D := (dC, dI)) (ci := 5) (v := .ref (q 12)) (C := RM) (T := TM) (N := 20) hx hb ht inM hown hK hP 0 rfl rfl 13 (by decide) (ht _ m_407) (fun _ h9 => h9) rfl dM_go_59 ?_
  refine lv_iload_n hx hb dM_go_62 rfl (lv_at hl 5 rfl) ?_
  refine wt_iald hx hb hK hP 12 0 rfl rfl (k := ii) (by omega) (by decide) dM_go_63 ?_
  refine wt_rwv (va_runV (As := [.int (nI tt), .int (nI (ii / 225)), .int (nI (ii / 25 % 9)), .int (nI (ii % 25)), .int (ea ii + ho (ii / 25 % 9 % 3)), .int (dn ii), .int (cd ii)]) (rest := []) ⟨hx, hb, hml, hown, ht⟩ (c_M_come l dC dI cI cZ cL q s.heap.size kn co bo mn wd zs fp ho lv fr so ea dn cd nx nd nc al wo wh pn tt (ii / 225) (ii / 25 % 9) (ii % 25) (ea ii + ho (ii / 25 % 9 % 3)) (dn ii) (cd ii) htt (by omega) (by omega) (by omega) ((hfp (ii / 225) (ii / 25 % 9 / 3) hk (by omega)).1) ((hfp (ii / 225) (ii / 25 % 9 / 3) hk (by omega)).2)) (cwV 7 ht (good_V m_534 m_536 ms_18 m_7 m_537) rfl rfl rfl (by decide +kernel) ⟨Nat.le_of_ble_eq_true rfl, Nat.le_of_ble_eq_true rfl⟩) (wt_preVw hK hN hP hD (va_recv hK hP (ci := 5) (q0 := 0) rfl rfl)) rfl rfl hl.1 rfl (lv_room (Nat.le_of_ble_eq_true rfl)) dM_go_64 ⟨Nat.le_of_ble_eq_true rfl, Nat.le_of_ble_eq_true rfl⟩) hD hS hA (fun H locs hP hD hS => ?_)
  have hP : va_P (dC, dI) vwCl (wM cI cZ cL q kn co bo mn wd zs fp ho lv fr so ea dn cd ((wt_come pn so tt (ii / 225) (ii / 25 % 9) (ii % 25) (ea ii + ho (ii / 25 % 9 % 3)) (dn ii) (cd ii) (nx, nd, nc)).1) ((wt_come pn so tt (ii / 225) (ii / 25 % 9) (ii % 25) (ea ii + ho (ii / 25 % 9 % 3)) (dn ii) (cd ii) (nx, nd, nc)).2.1) ((wt_come pn so tt (ii / 225) (ii / 25 % 9) (ii % 25) (ea ii + ho (ii / 25 % 9 % 3)) (dn ii) (cd ii) (nx, nd, nc)).2.2) al wo wh) H := hP
  have hD : va_D A (wM cI cZ cL q kn co bo mn wd zs fp ho lv fr so ea dn cd ((wt_come pn so tt (ii / 225) (ii / 25 % 9) (ii % 25) (ea ii + ho (ii / 25 % 9 % 3)) (dn ii) (cd ii) (nx, nd, nc)).1) ((wt_come pn so tt (ii / 225) (ii / 25 % 9) (ii % 25) (ea ii + ho (ii / 25 % 9 % 3)) (dn ii) (cd ii) (nx, nd, nc)).2.1) ((wt_come pn so tt (ii / 225) (ii / 25 % 9) (ii % 25) (ea ii + ho (ii / 25 % 9 % 3)) (dn ii) (cd ii) (nx, nd, nc)).2.2) al wo wh) := hD
  refine lv_iload hx hb dM_go_67 (lv_at hl 2 rfl) ?_
  refine lv_iconst (v := nI 1) hx hb dM_go_69 (by decide) ?_
  refine wt_iadd hx hb dM_go_70 ?_
  refine lv_iconst (v := nI 3) hx hb dM_go_71 (by decide) ?_
  refine lv_aload_n hx hb dM_go_72 rfl (lv_at hl 4 rfl) ?_
  refine va_get (D := (dC, dI)) (ci := 5) (v := .ref (q 5)) (C := RM) (T := TM) (N := 20) hx hb ht inM hown hK hP 0 rfl rfl 5 (by decide) (ht _ m_399) (fun _ h9 => h9) rfl dM_go_73 ?_
  refine lv_iload_n hx hb dM_go_76 rfl (lv_at hl 3 rfl) ?_
  refine wt_ialdN hx hb hK hP 5 0 rfl rfl (k := ii / 225) (by omega) (by decide) dM_go_77 ?_
  refine wt_imul hx hb dM_go_78 ?_
  refine wt_icmp_ge (tgt := 125) hx hb dM_go_79 (by decide) (by omega) (by omega) (fun c_1 => ?_) (fun c_1 => ?_)
  · skip
    refine lv_aload_n hx hb dM_go_125 rfl (lv_at hl 4 rfl) ?_
    refine lv_iload hx hb dM_go_126 (lv_at hl 1 rfl) ?_
    refine lv_iload hx hb dM_go_128 (lv_at hl 0 rfl) ?_
    refine lv_aload_n hx hb dM_go_130 rfl (lv_at hl 4 rfl) ?_
    refine va_get (D := (dC, dI)) (ci := 5) (v := .ref (q 4)) (C := RM) (T := TM) (N := 20) hx hb ht inM hown hK hP 0 rfl rfl 4 (by decide) (ht _ m_398) (fun _ h9 => h9) rfl dM_go_131 ?_
    refine lv_iload_n hx hb dM_go_134 rfl (lv_at hl 3 rfl) ?_
    refine wt_ialdN hx hb hK hP 4 0 rfl rfl (k := ii / 225) (by omega) (by decide) dM_go_135 ?_
    refine wt_roi (va_runV (As := [.int (nI (ii / 5 % 5)), .int (nI (ii % 5)), .int (nI (wd (ii / 225)))]) (rest := []) ⟨hx, hb, hml, hown, ht⟩ (c_M_after_1 l dC dI cI cZ cL q kn co bo mn wd zs fp ho lv fr so ea dn cd ((wt_come pn so tt (ii / 225) (ii / 25 % 9) (ii % 25) (ea ii + ho (ii / 25 % 9 % 3)) (dn ii) (cd ii) (nx, nd, nc)).1) ((wt_come pn so tt (ii / 225) (ii / 25 % 9) (ii % 25) (ea ii + ho (ii / 25 % 9 % 3)) (dn ii) (cd ii) (nx, nd, nc)).2.1) ((wt_come pn so tt (ii / 225) (ii / 25 % 9) (ii % 25) (ea ii + ho (ii / 25 % 9 % 3)) (dn ii) (cd ii) (nx, nd, nc)).2.2) al wo wh (ii / 5 % 5) (ii % 5) (wd (ii / 225)) (by omega) (by omega) (by omega) hvu) (cwV 3 ht (good_V m_546 m_487 m_488 m_7 m_489) rfl rfl rfl (by decide +kernel) ⟨Nat.le_of_ble_eq_true rfl, Nat.le_of_ble_eq_true rfl⟩) (wt_preV hK hN hP (va_recv hK hP (ci := 5) (q0 := 0) rfl rfl)) rfl rfl hl.1 rfl (lv_room (Nat.le_of_ble_eq_true rfl)) dM_go_136 ⟨Nat.le_of_ble_eq_true rfl, Nat.le_of_ble_eq_true rfl⟩) ?_
    refine lv_istore (lv' := [(7, .int (wt_afN kn co bo (ii / 5 % 5) (ii % 5) (wd (ii / 225)))), (6, .int (nI (ii % 5))), (5, .int (nI (ii / 5 % 5))), (4, .int (nI (ii / 25 % 9))), (3, .int (nI (ii / 225))), (0, .ref (q 0)), (1, .int (nI ii)), (2, .int (nI tt))]) hx hb dM_go_139 hl (by decide) rfl (fun ls hl => ?_)
    refine lv_iconst (v := nI 0) hx hb dM_go_141 (by decide) ?_
    refine lv_istore (lv' := [(8, .int (nI 0)), (7, .int (wt_afN kn co bo (ii / 5 % 5) (ii % 5) (wd (ii / 225)))), (6, .int (nI (ii % 5))), (5, .int (nI (ii / 5 % 5))), (4, .int (nI (ii / 25 % 9))), (3, .int (nI (ii / 225))), (0, .ref (q 0)), (1, .int (nI ii)), (2, .int (nI tt))]) hx hb dM_go_142 hl (by decide) rfl (fun ls hl => ?_)
    have LP144 : ∀ (r : Nat) (j : Nat) (nxx : Nat → Int32) (ndx : Nat → Int32) (ncx : Nat → Int32) (hj : j + r = mn) (hE : wt_up (fun j x => wt_come pn so tt j 0 (5 * (ii % 5) + wd (ii / 225)) (ea ii + lv 2 + wt_afN kn co bo (ii / 5 % 5) (ii % 5) (wd (ii / 225))) (dn ii + nI 1) (nI 4 * cd ii + nI (wd (ii / 225))) x) r j (nxx, ndx, ncx) = wt_up (fun j x => wt_come pn so tt j 0 (5 * (ii % 5) + wd (ii / 225)) (ea ii + lv 2 + wt_afN kn co bo (ii / 5 % 5) (ii % 5) (wd (ii / 225))) (dn ii + nI 1) (nI 4 * cd ii + nI (wd (ii / 225))) x) mn 0 (wt_come pn so tt (ii / 225) (ii / 25 % 9) (ii % 25) (ea ii + ho (ii / 25 % 9 % 3)) (dn ii) (cd ii) (nx, nd, nc))) (hlt : wt_afN kn co bo (ii / 5 % 5) (ii % 5) (wd (ii / 225)) < 0 → (nxx, ndx, ncx) = wt_come pn so tt (ii / 225) (ii / 25 % 9) (ii % 25) (ea ii + ho (ii / 25 % 9 % 3)) (dn ii) (cd ii) (nx, nd, nc)) (H : Heap) (locs : List Loc) (hP : va_P (dC, dI) vwCl (wM cI cZ cL q kn co bo mn wd zs fp ho lv fr so ea dn cd nxx ndx ncx al wo wh) H) (hD : va_D A (wM cI cZ cL q kn co bo mn wd zs fp ho lv fr so ea dn cd nxx ndx ncx al wo wh)) (hS : va_S A s.heap H locs) (ls : Array Slot) (hl : lv_has ls 9 [(0, .ref (q 0)), (1, .int (nI ii)), (2, .int (nI tt)), (3, .int (nI (ii / 225))), (4, .int (nI (ii / 25 % 9))), (5, .int (nI (ii / 5 % 5))), (6, .int (nI (ii % 5))), (7, .int (wt_afN kn co bo (ii / 5 % 5) (ii % 5) (wd (ii / 225)))), (8, .int (nI j))]), W p l e (headSpec (Cond.code yM_go cM_go 9 none :: tb) ({ frames := 3, cells := 0, slots := 0, locals := 69 })).room s m ([.ref (q 0), .int (nI ii), .int (nI tt)] : List Value).toArray below meth c H locs 0 0 (MQ below (va_Qv (fun _ : Unit => True) (wt_B (dC, dI) vwCl A (wM cI cZ cL q kn co bo mn wd zs fp ho lv fr so ea dn cd ((wt_go pn wd zs mn kn co bo ho lv so ea dn cd tt ii (nx, nd, nc)).1) ((wt_go pn wd zs mn kn co bo ho lv so ea dn cd tt ii (nx, nd, nc)).2.1) ((wt_go pn wd zs mn kn co bo ho lv so ea dn cd tt ii (nx, nd, nc)).2.2) al wo wh)) A) ([.ref (q 0), .int (nI ii), .int (nI tt)] : List Value).toArray s 0 0 A) (F0 m 144 ls []) := by
      intro r
      induction r with
      | zero =>
        intro j nxx ndx ncx hj hE hlt H locs hP hD hS ls hl
        have hl : lv_has ls 9 [(0, .ref (q 0)), (1, .int (nI ii)), (2, .int (nI tt)), (3, .int (nI (ii / 225))), (4, .int (nI (ii / 25 % 9))), (5, .int (nI (ii / 5 % 5))), (6, .int (nI (ii % 5))), (7, .int (wt_afN kn co bo (ii / 5 % 5) (ii % 5) (wd (ii / 225)))), (8, .int (nI j))] := hl
        refine lv_iload hx hb dM_go_144 (lv_at hl 8 rfl) ?_
        refine lv_aload_n hx hb dM_go_146 rfl (lv_at hl 0 rfl) ?_
        refine va_get (D := (dC, dI)) (ci := 5) (v := .int (nI mn)) (C := RM) (T := TM) (N := 20) hx hb ht inM hown hK hP 0 rfl rfl 3 (by decide) (ht _ m_397) (fun _ h9 => h9) rfl dM_go_147 ?_
        refine wt_icmp_ge (tgt := 222) hx hb dM_go_150 (by decide) (by omega) (by omega) (fun c_2 => ?_) (fun c_2 => ?_)
        · skip
          have hg : wt_go pn wd zs mn kn co bo ho lv so ea dn cd tt ii (nx, nd, nc) = (nxx, ndx, ncx) := by
            show wt_goB pn wd zs mn kn co bo lv so ea dn cd tt ii (wt_come pn so tt (ii / 225) (ii / 25 % 9) (ii % 25) (ea ii + ho (ii / 25 % 9 % 3)) (dn ii) (cd ii) (nx, nd, nc)) = _
            unfold wt_goB
            rw [if_neg (Nat.not_lt.mpr c_1)]
            by_cases ha : wt_afN kn co bo (ii / 5 % 5) (ii % 5) (wd (ii / 225)) < 0
            · rw [if_pos ha]; exact (hlt ha).symm
            · rw [if_neg ha]; first | exact hE.symm | exact absurd c_2 ha
          have hP9 : va_P (dC, dI) vwCl (wM cI cZ cL q kn co bo mn wd zs fp ho lv fr so ea dn cd ((wt_go pn wd zs mn kn co bo ho lv so ea dn cd tt ii (nx, nd, nc)).1) ((wt_go pn wd zs mn kn co bo ho lv so ea dn cd tt ii (nx, nd, nc)).2.1) ((wt_go pn wd zs mn kn co bo ho lv so ea dn cd tt ii (nx, nd, nc)).2.2) al wo wh) H := by rw [show ((wt_go pn wd zs mn kn co bo ho lv so ea dn cd tt ii (nx, nd, nc)).1) = nxx from (congrArg (fun z => z.1) hg), show ((wt_go pn wd zs mn kn co bo ho lv so ea dn cd tt ii (nx, nd, nc)).2.1) = ndx from (congrArg (fun z => z.2.1) hg), show ((wt_go pn wd zs mn kn co bo ho lv so ea dn cd tt ii (nx, nd, nc)).2.2) = ncx from (congrArg (fun z => z.2.2) hg)]; exact hP
          have hD9 : va_D A (wM cI cZ cL q kn co bo mn wd zs fp ho lv fr so ea dn cd ((wt_go pn wd zs mn kn co bo ho lv so ea dn cd tt ii (nx, nd, nc)).1) ((wt_go pn wd zs mn kn co bo ho lv so ea dn cd tt ii (nx, nd, nc)).2.1) ((wt_go pn wd zs mn kn co bo ho lv so ea dn cd tt ii (nx, nd, nc)).2.2) al wo wh) := by rw [show ((wt_go pn wd zs mn kn co bo ho lv so ea dn cd tt ii (nx, nd, nc)).1) = nxx from (congrArg (fun z => z.1) hg), show ((wt_go pn wd zs mn kn co bo ho lv so ea dn cd tt ii (nx, nd, nc)).2.1) = ndx from (congrArg (fun z => z.2.1) hg), show ((wt_go pn wd zs mn kn co bo ho lv so ea dn cd tt ii (nx, nd, nc)).2.2) = ncx from (congrArg (fun z => z.2.2) hg)]; exact hD
          exact W.vret hx hb hr (fun t ht hW => ⟨⟨(), rfl, trivial, by rw [ht]; exact hP9, hD9⟩, hS.F ht⟩) hS.2.2 dM_go_222
        · first | exact absurd c_2 (by omega) | exact absurd c_2 (by decide) | exact absurd (by decide) c_2
      | succ r ih144 =>
        intro j nxx ndx ncx hj hE hlt H locs hP hD hS ls hl
        have hl : lv_has ls 9 [(0, .ref (q 0)), (1, .int (nI ii)), (2, .int (nI tt)), (3, .int (nI (ii / 225))), (4, .int (nI (ii / 25 % 9))), (5, .int (nI (ii / 5 % 5))), (6, .int (nI (ii % 5))), (7, .int (wt_afN kn co bo (ii / 5 % 5) (ii % 5) (wd (ii / 225)))), (8, .int (nI j))] := hl
        refine lv_iload hx hb dM_go_144 (lv_at hl 8 rfl) ?_
        refine lv_aload_n hx hb dM_go_146 rfl (lv_at hl 0 rfl) ?_
        refine va_get (D := (dC, dI)) (ci := 5) (v := .int (nI mn)) (C := RM) (T := TM) (N := 20) hx hb ht inM hown hK hP 0 rfl rfl 3 (by decide) (ht _ m_397) (fun _ h9 => h9) rfl dM_go_147 ?_
        refine wt_icmp_ge (tgt := 222) hx hb dM_go_150 (by decide) (by omega) (by omega) (fun c_3 => ?_) (fun c_3 => ?_)
        · first | exact absurd c_3 (by omega) | exact absurd c_3 (by decide) | exact absurd (by decide) c_3
        · skip
          refine lv_iload hx hb dM_go_153 (lv_at hl 7 rfl) ?_
          refine lv_if_lt (tgt := 222) hx hb dM_go_155 (by decide) (fun c_4 => ?_) (fun c_4 => ?_)
          · skip
            have hg : wt_go pn wd zs mn kn co bo ho lv so ea dn cd tt ii (nx, nd, nc) = (nxx, ndx, ncx) := by
              show wt_goB pn wd zs mn kn co bo lv so ea dn cd tt ii (wt_come pn so tt (ii / 225) (ii / 25 % 9) (ii % 25) (ea ii + ho (ii / 25 % 9 % 3)) (dn ii) (cd ii) (nx, nd, nc)) = _
              unfold wt_goB
              rw [if_neg (Nat.not_lt.mpr c_1)]
              by_cases ha : wt_afN kn co bo (ii / 5 % 5) (ii % 5) (wd (ii / 225)) < 0
              · rw [if_pos ha]; exact (hlt ha).symm
              · rw [if_neg ha]; first | exact hE.symm | exact absurd c_4 ha
            have hP9 : va_P (dC, dI) vwCl (wM cI cZ cL q kn co bo mn wd zs fp ho lv fr so ea dn cd ((wt_go pn wd zs mn kn co bo ho lv so ea dn cd tt ii (nx, nd, nc)).1) ((wt_go pn wd zs mn kn co bo ho lv so ea dn cd tt ii (nx, nd, nc)).2.1) ((wt_go pn wd zs mn kn co bo ho lv so ea dn cd tt ii (nx, nd, nc)).2.2) al wo wh) H := by rw [show ((wt_go pn wd zs mn kn co bo ho lv so ea dn cd tt ii (nx, nd, nc)).1) = nxx from (congrArg (fun z => z.1) hg), show ((wt_go pn wd zs mn kn co bo ho lv so ea dn cd tt ii (nx, nd, nc)).2.1) = ndx from (congrArg (fun z => z.2.1) hg), show ((wt_go pn wd zs mn kn co bo ho lv so ea dn cd tt ii (nx, nd, nc)).2.2) = ncx from (congrArg (fun z => z.2.2) hg)]; exact hP
            have hD9 : va_D A (wM cI cZ cL q kn co bo mn wd zs fp ho lv fr so ea dn cd ((wt_go pn wd zs mn kn co bo ho lv so ea dn cd tt ii (nx, nd, nc)).1) ((wt_go pn wd zs mn kn co bo ho lv so ea dn cd tt ii (nx, nd, nc)).2.1) ((wt_go pn wd zs mn kn co bo ho lv so ea dn cd tt ii (nx, nd, nc)).2.2) al wo wh) := by rw [show ((wt_go pn wd zs mn kn co bo ho lv so ea dn cd tt ii (nx, nd, nc)).1) = nxx from (congrArg (fun z => z.1) hg), show ((wt_go pn wd zs mn kn co bo ho lv so ea dn cd tt ii (nx, nd, nc)).2.1) = ndx from (congrArg (fun z => z.2.1) hg), show ((wt_go pn wd zs mn kn co bo ho lv so ea dn cd tt ii (nx, nd, nc)).2.2) = ncx from (congrArg (fun z => z.2.2) hg)]; exact hD
            exact W.vret hx hb hr (fun t ht hW => ⟨⟨(), rfl, trivial, by rw [ht]; exact hP9, hD9⟩, hS.F ht⟩) hS.2.2 dM_go_222
          · skip
            refine lv_aload_n hx hb dM_go_158 rfl (lv_at hl 0 rfl) ?_
            refine lv_iload_n hx hb dM_go_159 rfl (lv_at hl 2 rfl) ?_
            refine lv_iload hx hb dM_go_160 (lv_at hl 8 rfl) ?_
            refine lv_iconst (v := nI 0) hx hb dM_go_162 (by decide) ?_
            refine lv_iconst (v := nI 5) hx hb dM_go_163 (by decide) ?_
            refine lv_iload hx hb dM_go_164 (lv_at hl 6 rfl) ?_
            refine wt_imul hx hb dM_go_166 ?_
            refine lv_aload_n hx hb dM_go_167 rfl (lv_at hl 0 rfl) ?_
            refine va_get (D := (dC, dI)) (ci := 5) (v := .ref (q 4)) (C := RM) (T := TM) (N := 20) hx hb ht inM hown hK hP 0 rfl rfl 4 (by decide) (ht _ m_398) (fun _ h9 => h9) rfl dM_go_168 ?_
            refine lv_iload_n hx hb dM_go_171 rfl (lv_at hl 3 rfl) ?_
            refine wt_ialdN hx hb hK hP 4 0 rfl rfl (k := ii / 225) (by omega) (by decide) dM_go_172 ?_
            refine wt_iadd hx hb dM_go_173 ?_
            refine lv_aload_n hx hb dM_go_174 rfl (lv_at hl 0 rfl) ?_
            refine va_get (D := (dC, dI)) (ci := 5) (v := .ref (q 10)) (C := RM) (T := TM) (N := 20) hx hb ht inM hown hK hP 0 rfl rfl 11 (by decide) (ht _ m_405) (fun _ h9 => h9) rfl dM_go_175 ?_
            refine lv_iload_n hx hb dM_go_178 rfl (lv_at hl 1 rfl) ?_
            refine wt_iald hx hb hK hP 10 0 rfl rfl (k := ii) (by omega) (by decide) dM_go_179 ?_
            refine lv_aload_n hx hb dM_go_180 rfl (lv_at hl 0 rfl) ?_
            refine va_get (D := (dC, dI)) (ci := 5) (v := .ref (q 8)) (C := RM) (T := TM) (N := 20) hx hb ht inM hown hK hP 0 rfl rfl 8 (by decide) (ht _ m_402) (fun _ h9 => h9) rfl dM_go_181 ?_
            refine lv_iconst (v := nI 2) hx hb dM_go_184 (by decide) ?_
            refine wt_iald hx hb hK hP 8 0 rfl rfl (k := 2) (by omega) (by decide) dM_go_185 ?_
            refine lv_iadd hx hb dM_go_186 ?_
            refine lv_iload hx hb dM_go_187 (lv_at hl 7 rfl) ?_
            refine lv_iadd hx hb dM_go_189 ?_
            refine lv_aload_n hx hb dM_go_190 rfl (lv_at hl 0 rfl) ?_
            refine va_get (D := (dC, dI)) (ci := 5) (v := .ref (q 11)) (C := RM) (T := TM) (N := 20) hx hb ht inM hown hK hP 0 rfl rfl 12 (by decide) (ht _ m_406) (fun _ h9 => h9) rfl dM_go_191 ?_
            refine lv_iload_n hx hb dM_go_194 rfl (lv_at hl 1 rfl) ?_
            refine wt_iald hx hb hK hP 11 0 rfl rfl (k := ii) (by omega) (by decide) dM_go_195 ?_
            refine lv_iconst (v := nI 1) hx hb dM_go_196 (by decide) ?_
            refine lv_iadd hx hb dM_go_197 ?_
            refine lv_iconst (v := nI 4) hx hb dM_go_198 (by decide) ?_
            refine lv_aload_n hx hb dM_go_199 rfl (lv_at hl 0 rfl) ?_
            refine va_get (D := (dC, dI)) (ci := 5) (v := .ref (q 12)) (C := RM) (T := TM) (N := 20) hx hb ht inM hown hK hP 0 rfl rfl 13 (by decide) (ht _ m_407) (fun _ h9 => h9) rfl dM_go_200 ?_
            refine lv_iload_n hx hb dM_go_203 rfl (lv_at hl 1 rfl) ?_
            refine wt_iald hx hb hK hP 12 0 rfl rfl (k := ii) (by omega) (by decide) dM_go_204 ?_
            refine lv_imul hx hb dM_go_205 ?_
            refine lv_aload_n hx hb dM_go_206 rfl (lv_at hl 0 rfl) ?_
            refine va_get (D := (dC, dI)) (ci := 5) (v := .ref (q 4)) (C := RM) (T := TM) (N := 20) hx hb ht inM hown hK hP 0 rfl rfl 4 (by decide) (ht _ m_398) (fun _ h9 => h9) rfl dM_go_207 ?_
            refine lv_iload_n hx hb dM_go_210 rfl (lv_at hl 3 rfl) ?_
            refine wt_ialdN hx hb hK hP 4 0 rfl rfl (k := ii / 225) (by omega) (by decide) dM_go_211 ?_
            refine lv_iadd hx hb dM_go_212 ?_
            refine wt_rwv (va_runV (As := [.int (nI tt), .int (nI j), .int (nI 0), .int (nI (5 * (ii % 5) + wd (ii / 225))), .int (ea ii + lv 2 + wt_afN kn co bo (ii / 5 % 5) (ii % 5) (wd (ii / 225))), .int (dn ii + nI 1), .int (nI 4 * cd ii + nI (wd (ii / 225)))]) (rest := []) ⟨hx, hb, hml, hown, ht⟩ (c_M_come l dC dI cI cZ cL q H.size kn co bo mn wd zs fp ho lv fr so ea dn cd nxx ndx ncx al wo wh pn tt j 0 (5 * (ii % 5) + wd (ii / 225)) (ea ii + lv 2 + wt_afN kn co bo (ii / 5 % 5) (ii % 5) (wd (ii / 225))) (dn ii + nI 1) (nI 4 * cd ii + nI (wd (ii / 225))) htt (by omega) (by omega) (by omega) ((hfp j 0 (by omega) (by have := hz1 j (by omega); omega)).1) ((hfp j 0 (by omega) (by have := hz1 j (by omega); omega)).2)) (cwV 7 ht (good_V m_534 m_536 ms_18 m_7 m_537) rfl rfl rfl (by decide +kernel) ⟨Nat.le_of_ble_eq_true rfl, Nat.le_of_ble_eq_true rfl⟩) (wt_preVw hK hN hP hD (va_recv hK hP (ci := 5) (q0 := 0) rfl rfl)) rfl rfl hl.1 rfl (lv_room (Nat.le_of_ble_eq_true rfl)) dM_go_213 ⟨Nat.le_of_ble_eq_true rfl, Nat.le_of_ble_eq_true rfl⟩) hD hS hA (fun H locs hP hD hS => ?_)
            have hP : va_P (dC, dI) vwCl (wM cI cZ cL q kn co bo mn wd zs fp ho lv fr so ea dn cd ((wt_come pn so tt j 0 (5 * (ii % 5) + wd (ii / 225)) (ea ii + lv 2 + wt_afN kn co bo (ii / 5 % 5) (ii % 5) (wd (ii / 225))) (dn ii + nI 1) (nI 4 * cd ii + nI (wd (ii / 225))) (nxx, ndx, ncx)).1) ((wt_come pn so tt j 0 (5 * (ii % 5) + wd (ii / 225)) (ea ii + lv 2 + wt_afN kn co bo (ii / 5 % 5) (ii % 5) (wd (ii / 225))) (dn ii + nI 1) (nI 4 * cd ii + nI (wd (ii / 225))) (nxx, ndx, ncx)).2.1) ((wt_come pn so tt j 0 (5 * (ii % 5) + wd (ii / 225)) (ea ii + lv 2 + wt_afN kn co bo (ii / 5 % 5) (ii % 5) (wd (ii / 225))) (dn ii + nI 1) (nI 4 * cd ii + nI (wd (ii / 225))) (nxx, ndx, ncx)).2.2) al wo wh) H := hP
            have hD : va_D A (wM cI cZ cL q kn co bo mn wd zs fp ho lv fr so ea dn cd ((wt_come pn so tt j 0 (5 * (ii % 5) + wd (ii / 225)) (ea ii + lv 2 + wt_afN kn co bo (ii / 5 % 5) (ii % 5) (wd (ii / 225))) (dn ii + nI 1) (nI 4 * cd ii + nI (wd (ii / 225))) (nxx, ndx, ncx)).1) ((wt_come pn so tt j 0 (5 * (ii % 5) + wd (ii / 225)) (ea ii + lv 2 + wt_afN kn co bo (ii / 5 % 5) (ii % 5) (wd (ii / 225))) (dn ii + nI 1) (nI 4 * cd ii + nI (wd (ii / 225))) (nxx, ndx, ncx)).2.1) ((wt_come pn so tt j 0 (5 * (ii % 5) + wd (ii / 225)) (ea ii + lv 2 + wt_afN kn co bo (ii / 5 % 5) (ii % 5) (wd (ii / 225))) (dn ii + nI 1) (nI 4 * cd ii + nI (wd (ii / 225))) (nxx, ndx, ncx)).2.2) al wo wh) := hD
            refine lv_iinc (v := nI (j + 1)) (lv' := [(8, .int (nI (j + 1))), (0, .ref (q 0)), (1, .int (nI ii)), (2, .int (nI tt)), (3, .int (nI (ii / 225))), (4, .int (nI (ii / 25 % 9))), (5, .int (nI (ii / 5 % 5))), (6, .int (nI (ii % 5))), (7, .int (wt_afN kn co bo (ii / 5 % 5) (ii % 5) (wd (ii / 225))))]) hx hb dM_go_216 hl (k := 8) rfl (wt_inc1 j) (by decide) rfl (fun ls hl => ?_)
            refine lv_goto (tgt := 144) hx hb dM_go_219 (by decide) ?_
            exact ih144 (j + 1) ((wt_come pn so tt j 0 (5 * (ii % 5) + wd (ii / 225)) (ea ii + lv 2 + wt_afN kn co bo (ii / 5 % 5) (ii % 5) (wd (ii / 225))) (dn ii + nI 1) (nI 4 * cd ii + nI (wd (ii / 225))) (nxx, ndx, ncx)).1) ((wt_come pn so tt j 0 (5 * (ii % 5) + wd (ii / 225)) (ea ii + lv 2 + wt_afN kn co bo (ii / 5 % 5) (ii % 5) (wd (ii / 225))) (dn ii + nI 1) (nI 4 * cd ii + nI (wd (ii / 225))) (nxx, ndx, ncx)).2.1) ((wt_come pn so tt j 0 (5 * (ii % 5) + wd (ii / 225)) (ea ii + lv 2 + wt_afN kn co bo (ii / 5 % 5) (ii % 5) (wd (ii / 225))) (dn ii + nI 1) (nI 4 * cd ii + nI (wd (ii / 225))) (nxx, ndx, ncx)).2.2) (by omega) hE (fun h => absurd h c_4) _ _ hP hD hS ls (lv_sub hl [1, 2, 3, 4, 5, 6, 7, 8, 0] rfl)
    exact LP144 mn 0 ((wt_come pn so tt (ii / 225) (ii / 25 % 9) (ii % 25) (ea ii + ho (ii / 25 % 9 % 3)) (dn ii) (cd ii) (nx, nd, nc)).1) ((wt_come pn so tt (ii / 225) (ii / 25 % 9) (ii % 25) (ea ii + ho (ii / 25 % 9 % 3)) (dn ii) (cd ii) (nx, nd, nc)).2.1) ((wt_come pn so tt (ii / 225) (ii / 25 % 9) (ii % 25) (ea ii + ho (ii / 25 % 9 % 3)) (dn ii) (cd ii) (nx, nd, nc)).2.2) (Nat.zero_add mn) rfl (fun _ => rfl) _ _ hP hD hS ls (lv_sub hl [6, 7, 8, 5, 4, 3, 2, 1, 0] rfl)
  · skip
    refine lv_aload_n hx hb dM_go_82 rfl (lv_at hl 4 rfl) ?_
    refine lv_iload_n hx hb dM_go_83 rfl (lv_at hl 6 rfl) ?_
    refine lv_iload_n hx hb dM_go_84 rfl (lv_at hl 3 rfl) ?_
    refine lv_iload hx hb dM_go_85 (lv_at hl 2 rfl) ?_
    refine lv_iconst (v := nI 1) hx hb dM_go_87 (by decide) ?_
    refine wt_iadd hx hb dM_go_88 ?_
    refine lv_iload_n hx hb dM_go_89 rfl (lv_at hl 5 rfl) ?_
    refine lv_bipush (v := nI 25) hx hb dM_go_90 (by decide) ?_
    refine wt_irem hx hb dM_go_92 (by omega) (by decide) (by decide) ?_
    refine lv_aload_n hx hb dM_go_93 rfl (lv_at hl 4 rfl) ?_
    refine va_get (D := (dC, dI)) (ci := 5) (v := .ref (q 10)) (C := RM) (T := TM) (N := 20) hx hb ht inM hown hK hP 0 rfl rfl 11 (by decide) (ht _ m_405) (fun _ h9 => h9) rfl dM_go_94 ?_
    refine lv_iload_n hx hb dM_go_97 rfl (lv_at hl 5 rfl) ?_
    refine wt_iald hx hb hK hP 10 0 rfl rfl (k := ii) (by omega) (by decide) dM_go_98 ?_
    refine lv_aload_n hx hb dM_go_99 rfl (lv_at hl 4 rfl) ?_
    refine va_get (D := (dC, dI)) (ci := 5) (v := .ref (q 8)) (C := RM) (T := TM) (N := 20) hx hb ht inM hown hK hP 0 rfl rfl 8 (by decide) (ht _ m_402) (fun _ h9 => h9) rfl dM_go_100 ?_
    refine lv_iload hx hb dM_go_103 (lv_at hl 2 rfl) ?_
    refine lv_iconst (v := nI 3) hx hb dM_go_105 (by decide) ?_
    refine wt_irem hx hb dM_go_106 (by omega) (by decide) (by decide) ?_
    refine wt_iald hx hb hK hP 8 0 rfl rfl (k := ii / 25 % 9 % 3) (by omega) (by decide) dM_go_107 ?_
    refine lv_iadd hx hb dM_go_108 ?_
    refine lv_aload_n hx hb dM_go_109 rfl (lv_at hl 4 rfl) ?_
    refine va_get (D := (dC, dI)) (ci := 5) (v := .ref (q 11)) (C := RM) (T := TM) (N := 20) hx hb ht inM hown hK hP 0 rfl rfl 12 (by decide) (ht _ m_406) (fun _ h9 => h9) rfl dM_go_110 ?_
    refine lv_iload_n hx hb dM_go_113 rfl (lv_at hl 5 rfl) ?_
    refine wt_iald hx hb hK hP 11 0 rfl rfl (k := ii) (by omega) (by decide) dM_go_114 ?_
    refine lv_aload_n hx hb dM_go_115 rfl (lv_at hl 4 rfl) ?_
    refine va_get (D := (dC, dI)) (ci := 5) (v := .ref (q 12)) (C := RM) (T := TM) (N := 20) hx hb ht inM hown hK hP 0 rfl rfl 13 (by decide) (ht _ m_407) (fun _ h9 => h9) rfl dM_go_116 ?_
    refine lv_iload_n hx hb dM_go_119 rfl (lv_at hl 5 rfl) ?_
    refine wt_iald hx hb hK hP 12 0 rfl rfl (k := ii) (by omega) (by decide) dM_go_120 ?_
    refine wt_rwv (va_runV (As := [.int (nI tt), .int (nI (ii / 225)), .int (nI (ii / 25 % 9 + 1)), .int (nI (ii % 25)), .int (ea ii + lv (ii / 25 % 9 % 3)), .int (dn ii), .int (cd ii)]) (rest := []) ⟨hx, hb, hml, hown, ht⟩ (c_M_come l dC dI cI cZ cL q H.size kn co bo mn wd zs fp ho lv fr so ea dn cd ((wt_come pn so tt (ii / 225) (ii / 25 % 9) (ii % 25) (ea ii + ho (ii / 25 % 9 % 3)) (dn ii) (cd ii) (nx, nd, nc)).1) ((wt_come pn so tt (ii / 225) (ii / 25 % 9) (ii % 25) (ea ii + ho (ii / 25 % 9 % 3)) (dn ii) (cd ii) (nx, nd, nc)).2.1) ((wt_come pn so tt (ii / 225) (ii / 25 % 9) (ii % 25) (ea ii + ho (ii / 25 % 9 % 3)) (dn ii) (cd ii) (nx, nd, nc)).2.2) al wo wh pn tt (ii / 225) (ii / 25 % 9 + 1) (ii % 25) (ea ii + lv (ii / 25 % 9 % 3)) (dn ii) (cd ii) htt (by omega) (by omega) (by omega) ((hfp (ii / 225) ((ii / 25 % 9 + 1) / 3) hk (by omega)).1) ((hfp (ii / 225) ((ii / 25 % 9 + 1) / 3) hk (by omega)).2)) (cwV 7 ht (good_V m_534 m_536 ms_18 m_7 m_537) rfl rfl rfl (by decide +kernel) ⟨Nat.le_of_ble_eq_true rfl, Nat.le_of_ble_eq_true rfl⟩) (wt_preVw hK hN hP hD (va_recv hK hP (ci := 5) (q0 := 0) rfl rfl)) rfl rfl hl.1 rfl (lv_room (Nat.le_of_ble_eq_true rfl)) dM_go_121 ⟨Nat.le_of_ble_eq_true rfl, Nat.le_of_ble_eq_true rfl⟩) hD hS hA (fun H locs hP hD hS => ?_)
    have hP : va_P (dC, dI) vwCl (wM cI cZ cL q kn co bo mn wd zs fp ho lv fr so ea dn cd ((wt_come pn so tt (ii / 225) (ii / 25 % 9 + 1) (ii % 25) (ea ii + lv (ii / 25 % 9 % 3)) (dn ii) (cd ii) (((wt_come pn so tt (ii / 225) (ii / 25 % 9) (ii % 25) (ea ii + ho (ii / 25 % 9 % 3)) (dn ii) (cd ii) (nx, nd, nc)).1), ((wt_come pn so tt (ii / 225) (ii / 25 % 9) (ii % 25) (ea ii + ho (ii / 25 % 9 % 3)) (dn ii) (cd ii) (nx, nd, nc)).2.1), ((wt_come pn so tt (ii / 225) (ii / 25 % 9) (ii % 25) (ea ii + ho (ii / 25 % 9 % 3)) (dn ii) (cd ii) (nx, nd, nc)).2.2))).1) ((wt_come pn so tt (ii / 225) (ii / 25 % 9 + 1) (ii % 25) (ea ii + lv (ii / 25 % 9 % 3)) (dn ii) (cd ii) (((wt_come pn so tt (ii / 225) (ii / 25 % 9) (ii % 25) (ea ii + ho (ii / 25 % 9 % 3)) (dn ii) (cd ii) (nx, nd, nc)).1), ((wt_come pn so tt (ii / 225) (ii / 25 % 9) (ii % 25) (ea ii + ho (ii / 25 % 9 % 3)) (dn ii) (cd ii) (nx, nd, nc)).2.1), ((wt_come pn so tt (ii / 225) (ii / 25 % 9) (ii % 25) (ea ii + ho (ii / 25 % 9 % 3)) (dn ii) (cd ii) (nx, nd, nc)).2.2))).2.1) ((wt_come pn so tt (ii / 225) (ii / 25 % 9 + 1) (ii % 25) (ea ii + lv (ii / 25 % 9 % 3)) (dn ii) (cd ii) (((wt_come pn so tt (ii / 225) (ii / 25 % 9) (ii % 25) (ea ii + ho (ii / 25 % 9 % 3)) (dn ii) (cd ii) (nx, nd, nc)).1), ((wt_come pn so tt (ii / 225) (ii / 25 % 9) (ii % 25) (ea ii + ho (ii / 25 % 9 % 3)) (dn ii) (cd ii) (nx, nd, nc)).2.1), ((wt_come pn so tt (ii / 225) (ii / 25 % 9) (ii % 25) (ea ii + ho (ii / 25 % 9 % 3)) (dn ii) (cd ii) (nx, nd, nc)).2.2))).2.2) al wo wh) H := hP
    have hD : va_D A (wM cI cZ cL q kn co bo mn wd zs fp ho lv fr so ea dn cd ((wt_come pn so tt (ii / 225) (ii / 25 % 9 + 1) (ii % 25) (ea ii + lv (ii / 25 % 9 % 3)) (dn ii) (cd ii) (((wt_come pn so tt (ii / 225) (ii / 25 % 9) (ii % 25) (ea ii + ho (ii / 25 % 9 % 3)) (dn ii) (cd ii) (nx, nd, nc)).1), ((wt_come pn so tt (ii / 225) (ii / 25 % 9) (ii % 25) (ea ii + ho (ii / 25 % 9 % 3)) (dn ii) (cd ii) (nx, nd, nc)).2.1), ((wt_come pn so tt (ii / 225) (ii / 25 % 9) (ii % 25) (ea ii + ho (ii / 25 % 9 % 3)) (dn ii) (cd ii) (nx, nd, nc)).2.2))).1) ((wt_come pn so tt (ii / 225) (ii / 25 % 9 + 1) (ii % 25) (ea ii + lv (ii / 25 % 9 % 3)) (dn ii) (cd ii) (((wt_come pn so tt (ii / 225) (ii / 25 % 9) (ii % 25) (ea ii + ho (ii / 25 % 9 % 3)) (dn ii) (cd ii) (nx, nd, nc)).1), ((wt_come pn so tt (ii / 225) (ii / 25 % 9) (ii % 25) (ea ii + ho (ii / 25 % 9 % 3)) (dn ii) (cd ii) (nx, nd, nc)).2.1), ((wt_come pn so tt (ii / 225) (ii / 25 % 9) (ii % 25) (ea ii + ho (ii / 25 % 9 % 3)) (dn ii) (cd ii) (nx, nd, nc)).2.2))).2.1) ((wt_come pn so tt (ii / 225) (ii / 25 % 9 + 1) (ii % 25) (ea ii + lv (ii / 25 % 9 % 3)) (dn ii) (cd ii) (((wt_come pn so tt (ii / 225) (ii / 25 % 9) (ii % 25) (ea ii + ho (ii / 25 % 9 % 3)) (dn ii) (cd ii) (nx, nd, nc)).1), ((wt_come pn so tt (ii / 225) (ii / 25 % 9) (ii % 25) (ea ii + ho (ii / 25 % 9 % 3)) (dn ii) (cd ii) (nx, nd, nc)).2.1), ((wt_come pn so tt (ii / 225) (ii / 25 % 9) (ii % 25) (ea ii + ho (ii / 25 % 9 % 3)) (dn ii) (cd ii) (nx, nd, nc)).2.2))).2.2) al wo wh) := hD
    have hP9 : va_P (dC, dI) vwCl (wM cI cZ cL q kn co bo mn wd zs fp ho lv fr so ea dn cd ((wt_go pn wd zs mn kn co bo ho lv so ea dn cd tt ii (nx, nd, nc)).1) ((wt_go pn wd zs mn kn co bo ho lv so ea dn cd tt ii (nx, nd, nc)).2.1) ((wt_go pn wd zs mn kn co bo ho lv so ea dn cd tt ii (nx, nd, nc)).2.2) al wo wh) H := by rw [show ((wt_go pn wd zs mn kn co bo ho lv so ea dn cd tt ii (nx, nd, nc)).1) = ((wt_come pn so tt (ii / 225) (ii / 25 % 9 + 1) (ii % 25) (ea ii + lv (ii / 25 % 9 % 3)) (dn ii) (cd ii) (((wt_come pn so tt (ii / 225) (ii / 25 % 9) (ii % 25) (ea ii + ho (ii / 25 % 9 % 3)) (dn ii) (cd ii) (nx, nd, nc)).1), ((wt_come pn so tt (ii / 225) (ii / 25 % 9) (ii % 25) (ea ii + ho (ii / 25 % 9 % 3)) (dn ii) (cd ii) (nx, nd, nc)).2.1), ((wt_come pn so tt (ii / 225) (ii / 25 % 9) (ii % 25) (ea ii + ho (ii / 25 % 9 % 3)) (dn ii) (cd ii) (nx, nd, nc)).2.2))).1) from (congrArg (fun z => z.1) (show wt_go pn wd zs mn kn co bo ho lv so ea dn cd tt ii (nx, nd, nc) = wt_come pn so tt (ii / 225) (ii / 25 % 9 + 1) (ii % 25) (ea ii + lv (ii / 25 % 9 % 3)) (dn ii) (cd ii) (wt_come pn so tt (ii / 225) (ii / 25 % 9) (ii % 25) (ea ii + ho (ii / 25 % 9 % 3)) (dn ii) (cd ii) (nx, nd, nc)) from if_pos c_1)), show ((wt_go pn wd zs mn kn co bo ho lv so ea dn cd tt ii (nx, nd, nc)).2.1) = ((wt_come pn so tt (ii / 225) (ii / 25 % 9 + 1) (ii % 25) (ea ii + lv (ii / 25 % 9 % 3)) (dn ii) (cd ii) (((wt_come pn so tt (ii / 225) (ii / 25 % 9) (ii % 25) (ea ii + ho (ii / 25 % 9 % 3)) (dn ii) (cd ii) (nx, nd, nc)).1), ((wt_come pn so tt (ii / 225) (ii / 25 % 9) (ii % 25) (ea ii + ho (ii / 25 % 9 % 3)) (dn ii) (cd ii) (nx, nd, nc)).2.1), ((wt_come pn so tt (ii / 225) (ii / 25 % 9) (ii % 25) (ea ii + ho (ii / 25 % 9 % 3)) (dn ii) (cd ii) (nx, nd, nc)).2.2))).2.1) from (congrArg (fun z => z.2.1) (show wt_go pn wd zs mn kn co bo ho lv so ea dn cd tt ii (nx, nd, nc) = wt_come pn so tt (ii / 225) (ii / 25 % 9 + 1) (ii % 25) (ea ii + lv (ii / 25 % 9 % 3)) (dn ii) (cd ii) (wt_come pn so tt (ii / 225) (ii / 25 % 9) (ii % 25) (ea ii + ho (ii / 25 % 9 % 3)) (dn ii) (cd ii) (nx, nd, nc)) from if_pos c_1)), show ((wt_go pn wd zs mn kn co bo ho lv so ea dn cd tt ii (nx, nd, nc)).2.2) = ((wt_come pn so tt (ii / 225) (ii / 25 % 9 + 1) (ii % 25) (ea ii + lv (ii / 25 % 9 % 3)) (dn ii) (cd ii) (((wt_come pn so tt (ii / 225) (ii / 25 % 9) (ii % 25) (ea ii + ho (ii / 25 % 9 % 3)) (dn ii) (cd ii) (nx, nd, nc)).1), ((wt_come pn so tt (ii / 225) (ii / 25 % 9) (ii % 25) (ea ii + ho (ii / 25 % 9 % 3)) (dn ii) (cd ii) (nx, nd, nc)).2.1), ((wt_come pn so tt (ii / 225) (ii / 25 % 9) (ii % 25) (ea ii + ho (ii / 25 % 9 % 3)) (dn ii) (cd ii) (nx, nd, nc)).2.2))).2.2) from (congrArg (fun z => z.2.2) (show wt_go pn wd zs mn kn co bo ho lv so ea dn cd tt ii (nx, nd, nc) = wt_come pn so tt (ii / 225) (ii / 25 % 9 + 1) (ii % 25) (ea ii + lv (ii / 25 % 9 % 3)) (dn ii) (cd ii) (wt_come pn so tt (ii / 225) (ii / 25 % 9) (ii % 25) (ea ii + ho (ii / 25 % 9 % 3)) (dn ii) (cd ii) (nx, nd, nc)) from if_pos c_1))]; exact hP
    have hD9 : va_D A (wM cI cZ cL q kn co bo mn wd zs fp ho lv fr so ea dn cd ((wt_go pn wd zs mn kn co bo ho lv so ea dn cd tt ii (nx, nd, nc)).1) ((wt_go pn wd zs mn kn co bo ho lv so ea dn cd tt ii (nx, nd, nc)).2.1) ((wt_go pn wd zs mn kn co bo ho lv so ea dn cd tt ii (nx, nd, nc)).2.2) al wo wh) := by rw [show ((wt_go pn wd zs mn kn co bo ho lv so ea dn cd tt ii (nx, nd, nc)).1) = ((wt_come pn so tt (ii / 225) (ii / 25 % 9 + 1) (ii % 25) (ea ii + lv (ii / 25 % 9 % 3)) (dn ii) (cd ii) (((wt_come pn so tt (ii / 225) (ii / 25 % 9) (ii % 25) (ea ii + ho (ii / 25 % 9 % 3)) (dn ii) (cd ii) (nx, nd, nc)).1), ((wt_come pn so tt (ii / 225) (ii / 25 % 9) (ii % 25) (ea ii + ho (ii / 25 % 9 % 3)) (dn ii) (cd ii) (nx, nd, nc)).2.1), ((wt_come pn so tt (ii / 225) (ii / 25 % 9) (ii % 25) (ea ii + ho (ii / 25 % 9 % 3)) (dn ii) (cd ii) (nx, nd, nc)).2.2))).1) from (congrArg (fun z => z.1) (show wt_go pn wd zs mn kn co bo ho lv so ea dn cd tt ii (nx, nd, nc) = wt_come pn so tt (ii / 225) (ii / 25 % 9 + 1) (ii % 25) (ea ii + lv (ii / 25 % 9 % 3)) (dn ii) (cd ii) (wt_come pn so tt (ii / 225) (ii / 25 % 9) (ii % 25) (ea ii + ho (ii / 25 % 9 % 3)) (dn ii) (cd ii) (nx, nd, nc)) from if_pos c_1)), show ((wt_go pn wd zs mn kn co bo ho lv so ea dn cd tt ii (nx, nd, nc)).2.1) = ((wt_come pn so tt (ii / 225) (ii / 25 % 9 + 1) (ii % 25) (ea ii + lv (ii / 25 % 9 % 3)) (dn ii) (cd ii) (((wt_come pn so tt (ii / 225) (ii / 25 % 9) (ii % 25) (ea ii + ho (ii / 25 % 9 % 3)) (dn ii) (cd ii) (nx, nd, nc)).1), ((wt_come pn so tt (ii / 225) (ii / 25 % 9) (ii % 25) (ea ii + ho (ii / 25 % 9 % 3)) (dn ii) (cd ii) (nx, nd, nc)).2.1), ((wt_come pn so tt (ii / 225) (ii / 25 % 9) (ii % 25) (ea ii + ho (ii / 25 % 9 % 3)) (dn ii) (cd ii) (nx, nd, nc)).2.2))).2.1) from (congrArg (fun z => z.2.1) (show wt_go pn wd zs mn kn co bo ho lv so ea dn cd tt ii (nx, nd, nc) = wt_come pn so tt (ii / 225) (ii / 25 % 9 + 1) (ii % 25) (ea ii + lv (ii / 25 % 9 % 3)) (dn ii) (cd ii) (wt_come pn so tt (ii / 225) (ii / 25 % 9) (ii % 25) (ea ii + ho (ii / 25 % 9 % 3)) (dn ii) (cd ii) (nx, nd, nc)) from if_pos c_1)), show ((wt_go pn wd zs mn kn co bo ho lv so ea dn cd tt ii (nx, nd, nc)).2.2) = ((wt_come pn so tt (ii / 225) (ii / 25 % 9 + 1) (ii % 25) (ea ii + lv (ii / 25 % 9 % 3)) (dn ii) (cd ii) (((wt_come pn so tt (ii / 225) (ii / 25 % 9) (ii % 25) (ea ii + ho (ii / 25 % 9 % 3)) (dn ii) (cd ii) (nx, nd, nc)).1), ((wt_come pn so tt (ii / 225) (ii / 25 % 9) (ii % 25) (ea ii + ho (ii / 25 % 9 % 3)) (dn ii) (cd ii) (nx, nd, nc)).2.1), ((wt_come pn so tt (ii / 225) (ii / 25 % 9) (ii % 25) (ea ii + ho (ii / 25 % 9 % 3)) (dn ii) (cd ii) (nx, nd, nc)).2.2))).2.2) from (congrArg (fun z => z.2.2) (show wt_go pn wd zs mn kn co bo ho lv so ea dn cd tt ii (nx, nd, nc) = wt_come pn so tt (ii / 225) (ii / 25 % 9 + 1) (ii % 25) (ea ii + lv (ii / 25 % 9 % 3)) (dn ii) (cd ii) (wt_come pn so tt (ii / 225) (ii / 25 % 9) (ii % 25) (ea ii + ho (ii / 25 % 9 % 3)) (dn ii) (cd ii) (nx, nd, nc)) from if_pos c_1))]; exact hD
    exact W.vret hx hb hr (fun t ht hW => ⟨⟨(), rfl, trivial, by rw [ht]; exact hP9, hD9⟩, hS.F ht⟩) hS.2.2 dM_go_124
