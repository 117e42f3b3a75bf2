/-! the law, case by case -/
section LW
variable {p : Program} {l : Launch} {e : Env} {R : Room} {s : State} {m : MethodId} {args : Array Value} {below : List Frame} {meth : Method} {c : Code} {H : Heap} {locs : List Loc} {cells slots : Nat} {Q : State → Prop} {cc : ByteArray} {pc : Nat} {ls : Array Slot} {rest : List Value} {A : Nat → Prop} {H0 : Heap}
theorem wt_sld (hx : p.tables.exec = Jvm.exec) (hb : c.code = cc) {b L : Nat} {xs : Nat → Int32} (hX : va_X b L xs s H0) (hbl : b < H0.size) (hbA : ¬ A b) (hS : va_S A H0 H locs) {k : Nat} (hk : k < L) (hL : L < 2 ^ 31) {v : Int32} (hv : xs k = v) (hdg : decode cc pc = .ok (.iaload, 1)) (kk : W p l e R s m args below meth c H locs cells slots Q (F0 m (pc + 1) ls (.int v :: rest))) : W p l e R s m args below meth c H locs cells slots Q (F0 m pc ls (.int (nI k) :: .ref b :: rest)) :=
  va_sld hx hb hX hbl hbA hS (vp_in_nI hk hL) hdg (by rw [nI_clamp (Nat.lt_trans hk hL), hv]; exact kk)
end LW
theorem wt_inc6 (x : Nat) : nI x + Int32.ofInt 6 = nI (x + 6) := by rw [show Int32.ofInt 6 = nI 6 by decide, nI_add]
theorem len6 {i L : Nat} (hi : i < 2 ^ 30) (hL : L < 2 ^ 30) (h : ¬ nI L - nI 6 < nI i) : i + 6 ≤ L := by
  rw [Int32.lt_iff_toInt_lt, pk_sub_toInt hL (by decide), nI_toInt (by omega)] at h
  omega
/-- what holds between two calls -/
def wtInv (s : State) (dC : Nat → ClassId) (dI : Nat → Nat → Nat) (cI cZ cL : ClassId) (q qm : Nat → Nat) (H : Heap) (locs : List Loc) : Prop := ∃ (ph : Nat → Nat) (pa : Nat → Nat) (ch : Nat → Nat) (en : Nat → Bool) (sz : Nat) (pr : Nat) (gc : Nat → Int32) (gb : Nat → Int32) (sc : Nat → Int32) (sh : Nat → Int32) (sl : Nat → Int32) (ct : Nat) (tok : Nat → Int64) (wt : Nat → Int64) (pn : Nat → Nat) (lt : Nat → Int64) (wp : Int64) (sd : Bool) (kn : Nat → Bool) (co : Nat → Int32) (bo : Nat → Int32) (wd : Nat → Nat) (zs : Nat → Nat) (fp : Nat → Int32) (ea : Nat → Int32) (dn : Nat → Int32) (cd : Nat → Int32) (nx : Nat → Int32) (nd : Nat → Int32) (nc : Nat → Int32) (al : Int32) (wo : Int32) (wh : Int32) (pg : Nat → Nat), va_P (dC, dI) vwCl (wX cI cZ cL q ph pa ch en sz pr gc gb sc sh sl ct tok wt pn lt wp sd ++ wM cI cZ cL qm kn co bo pr wd zs fp sh sl ct sc ea dn cd nx nd nc al wo wh) H ∧ va_D (fun a : Nat => s.heap.size ≤ a) (wX cI cZ cL q ph pa ch en sz pr gc gb sc sh sl ct tok wt pn lt wp sd ++ wM cI cZ cL qm kn co bo pr wd zs fp sh sl ct sc ea dn cd nx nd nc al wo wh) ∧ va_S (fun a : Nat => s.heap.size ≤ a) s.heap H locs ∧ rel ph pa ch en sz gc gb sc sh sl ct kn co bo pr wd zs fp pg ∧ (sd = true → cache ph pa en sz gc gb sc sh sl ct pn lt wp)
/-! which form the numbers of a call have -/
theorem gd_ok (w p q r : Int32) : wt_gd w p q r = (decide (¬ wt_rng w 4 = 0) && wt_isP p q r) := by
  unfold wt_gd wt_isP
  by_cases h : q = -1
  · rw [if_pos h, decide_eq_true h, show decide (¬ q = -1) = false from decide_eq_false (fun z => z h)]
    simp only [Bool.and_false, Bool.or_false, Bool.true_or, Bool.true_and]
  · rw [if_neg h, decide_eq_false h, show decide (¬ q = -1) = true from decide_eq_true h]
    simp only [Bool.and_true, Bool.false_or]
theorem say_forms (w p q r : Int32) : (decide (¬ wt_rng w 4 = 0) && wt_isP p q r) = false ∨ (∃ w' p' : Nat, w' < 4 ∧ p' < 4 ∧ w = nI w' ∧ p = nI p' ∧ q = -1 ∧ r = -1) ∨ (∃ w' p' q' : Nat, w' < 4 ∧ p' < 4 ∧ q' < 4 ∧ w = nI w' ∧ p = nI p' ∧ q = nI q' ∧ r = -1) ∨ (∃ w' p' q' r' : Nat, w' < 4 ∧ p' < 4 ∧ q' < 4 ∧ r' < 4 ∧ w = nI w' ∧ p = nI p' ∧ q = nI q' ∧ r = nI r') := by
  cases h : (decide (¬ wt_rng w 4 = 0) && wt_isP p q r) with
  | false => exact Or.inl rfl
  | true =>
    refine Or.inr ?_
    rw [Bool.and_eq_true, decide_eq_true_eq] at h
    obtain ⟨hw, hp⟩ := h
    unfold wt_isP at hp
    rw [Bool.and_eq_true, decide_eq_true_eq] at hp
    obtain ⟨w', hw', ew⟩ := wt_rng_of (by decide) hw
    obtain ⟨p', hp', ep⟩ := wt_rng_of (by decide) hp.1
    have h2 := hp.2
    by_cases hq : q = -1
    · rw [if_pos hq, decide_eq_true_eq] at h2
      exact Or.inl ⟨w', p', hw', hp', ew, ep, hq, h2⟩
    · rw [if_neg hq, Bool.and_eq_true, decide_eq_true_eq, Bool.or_eq_true, decide_eq_true_eq, decide_eq_true_eq] at h2
      obtain ⟨q', hq', eq⟩ := wt_rng_of (by decide) h2.1
      rcases h2.2 with hr | hr
      · exact Or.inr (Or.inl ⟨w', p', q', hw', hp', hq', ew, ep, eq, hr⟩)
      · obtain ⟨r', hr', er⟩ := wt_rng_of (by decide) hr
        exact Or.inr (Or.inr ⟨w', p', q', r', hw', hp', hq', hr', ew, ep, eq, er⟩)
theorem gram_forms (u v w : Int32) : wt_isG u v w = false ∨ (wt_isG u v w = true ∧ ((∃ w' : Nat, w' < 5 ∧ u = -1 ∧ v = -1 ∧ w = nI w') ∨ (∃ v' w' : Nat, v' < 5 ∧ w' < 5 ∧ u = -1 ∧ v = nI v' ∧ w = nI w') ∨ (∃ u' v' w' : Nat, u' < 5 ∧ v' < 4 ∧ w' < 5 ∧ u = nI u' ∧ v = nI v' ∧ w = nI w'))) := by
  cases h : wt_isG u v w with
  | false => exact Or.inl rfl
  | true =>
    refine Or.inr ⟨rfl, ?_⟩
    unfold wt_isG at h
    rw [Bool.and_eq_true, decide_eq_true_eq] at h
    obtain ⟨w', hw', ew⟩ := wt_rng_of (by decide) h.1
    have h2 := h.2
    by_cases hu : u = -1
    · rw [if_pos hu, Bool.or_eq_true, decide_eq_true_eq, decide_eq_true_eq] at h2
      rcases h2 with h2 | h2
      · exact Or.inl ⟨w', hw', hu, h2, ew⟩
      · obtain ⟨v', hv', ev⟩ := wt_rng_of (by decide) h2
        exact Or.inr (Or.inl ⟨v', w', hv', hw', hu, ev, ew⟩)
    · rw [if_neg hu, Bool.and_eq_true, decide_eq_true_eq, decide_eq_true_eq] at h2
      obtain ⟨u', hu', eu⟩ := wt_rng_of (by decide) h2.1
      obtain ⟨v', hv', ev⟩ := wt_rng_of (by decide) h2.2
      exact Or.inr (Or.inr ⟨u', v', w', hu', hv', hw', eu, ev, ew⟩)
theorem after_forms (u v w : Int32) : wt_okA u v w = false ∨ ∃ u' v' w' : Nat, u' < 5 ∧ v' < 5 ∧ w' < 5 ∧ (v' = 4 → u' = 4) ∧ u = nI u' ∧ v = nI v' ∧ w = nI w' := by
  cases h : wt_okA u v w with
  | false => exact Or.inl rfl
  | true =>
    refine Or.inr ?_
    unfold wt_okA at h
    rw [Bool.and_eq_true, Bool.and_eq_true, Bool.and_eq_true, decide_eq_true_eq, decide_eq_true_eq, decide_eq_true_eq] at h
    obtain ⟨h1, h2, h3, h4⟩ := h
    obtain ⟨w', hw', ew⟩ := wt_rng_of (by decide) h1
    obtain ⟨v', hv', ev⟩ := wt_rng_of (by decide) h2
    obtain ⟨u', hu', eu⟩ := wt_rng_of (by decide) h3
    refine ⟨u', v', w', hu', hv', hw', fun z => ?_, eu, ev, ew⟩
    rw [ev, eu, z, decide_eq_true rfl, Bool.true_and, Bool.not_not, decide_eq_true_eq] at h4
    exact nI_inj (by omega) (by decide) h4
theorem bool3 {a b c : Bool} : (a && (b && c)) = false ∨ (a = true ∧ b = true ∧ c = true) := by cases a <;> cases b <;> cases c <;> simp
theorem bool2 {b c : Bool} : (b && c) = false ∨ (b = true ∧ c = true) := by cases b <;> cases c <;> simp
theorem bool4 {a b c d : Bool} : (a && (b && (c && d))) = false ∨ (a = true ∧ b = true ∧ c = true ∧ d = true) := by cases a <;> cases b <;> cases c <;> cases d <;> simp
theorem gr_no {kn : Nat → Bool} {co bo gc gb : Nat → Int32} {k j : Nat} (h : gr_at kn co bo gc gb k j) (hk : kn k = false) : gc j = -1 := h.1.trans (if_neg (by rw [hk]; decide))
theorem gr_yes {kn : Nat → Bool} {co bo gc gb : Nat → Int32} {k j : Nat} (h : gr_at kn co bo gc gb k j) (hk : kn k = true) : ¬ gc j = -1 := by
  obtain ⟨a, b, ha, _, e, _⟩ := h.2.2 hk
  rw [h.1, if_pos hk, e]
  exact wt_nI_nem1 (by omega)
theorem z12_mul (n : Nat) (f : Nat → Int32) : wt_z12 (n * 12) f = wt_z12 (12 * n) f := by rw [Nat.mul_comm]

set_option maxHeartbeats 4000000 in
set_option maxRecDepth 100000 in
theorem law_frames {p : Program} {l : Launch} {e : Env} {s : State} {m : MethodId} {below : List Frame} {meth : Method} {c : Code} {dC : Nat → ClassId} {dI : Nat → Nat → Nat} {cI cZ cL : ClassId} {b L : Nat} {xs : Nat → Int32} {q qm : Nat → Nat} (hL : L ≤ 3072) (C0 : lw_At p s m meth c b L xs) (hK : va_K (dC, dI) vwCl [(cI, .int), (cZ, .boolean), (cL, .long)] s) (hN : wt_nest s) {i : Nat} (hi : i + 6 ≤ L) (K : ∀ (H : Heap) (locs : List Loc) (ls : Array Slot), wtInv s dC dI cI cZ cL q qm H locs → lv_has ls 4 [(0, .ref b), (1, .ref (q 0)), (2, .ref (qm 0)), (3, .int (nI i))] → W p l e room_1 s m #[Value.ref b] below meth c H locs 34 14336 (lw_Z below #[Value.ref b] s) (F0 m 553 ls [])) : ∀ (H : Heap) (locs : List Loc) (ls : Array Slot), wtInv s dC dI cI cZ cL q qm H locs → lv_has ls 4 [(0, .ref b), (1, .ref (q 0)), (2, .ref (qm 0)), (3, .int (nI i))] → W p l e room_1 s m #[Value.ref b] below meth c H locs 34 14336 (lw_Z below #[Value.ref b] s) (F0 m 432 ls []) := by
  obtain ⟨hx, hb, hr, hml, hown0, hts, hX, hbl, hlocks, hgv⟩ := id C0
  have hown : s.vm.findClass RL = some m.cls := hown0
  have ht : ∀ w ∈ tb, w.before _ s = true := fun w h => hts w (tb_in w h)
  have hA : ∀ a : Nat, s.heap.size ≤ a → (fun a : Nat => s.heap.size ≤ a) a := fun _ h => h
  have hbA : ¬ (fun a : Nat => s.heap.size ≤ a) b := Nat.not_le.mpr hbl
  intro H locs ls hv hl
  obtain ⟨ph, pa, ch, en, sz, pr, gc, gb, sc, sh, sl, ct, tok, wt, pn, lt, wp, sd, kn, co, bo, wd, zs, fp, ea, dn, cd, nx, nd, nc, al, wo, wh, pg, hP, hD, hS, hrel, hca⟩ := hv
  have hrel' := hrel
  obtain ⟨⟨hm8, hzw, htr, hsz24, hen, hgr, hscr, hshr, hslr⟩, hct, hs3, hts0, hzs, hwd, hph, hpa, hch, hfp, hen0⟩ := hrel'
  have hz1 : ∀ k, k < pr → 1 ≤ zs k := fun k hk => (hzw k hk).1
  refine lv_aload_n hx hb dL_law_432 rfl (lv_at hl 1 rfl) ?_
  refine wt_roi (va_runV (As := []) (rest := []) ⟨hx, hb, hml, hown, ht⟩ (c_X_frames l dC dI cI cZ cL q ph pa ch en sz pr gc gb sc sh sl ct tok wt pn lt wp sd) (cwV 0 ht (good_V m_255 m_256 m_257 m_1 m_258) rfl rfl rfl (by decide +kernel) ⟨Nat.le_of_ble_eq_true rfl, Nat.le_of_ble_eq_true rfl⟩) (wt_preV hK hN (hP.sub [0, 1, 2, 3, 4, 5, 6, 7, 8, 9, 10, 11, 12, 13, 14, 15, 16, 17] rfl) (va_recv hK hP (ci := 0) (q0 := 0) rfl rfl)) rfl rfl hl.1 rfl (lv_room (Nat.le_of_ble_eq_true rfl)) dL_law_433 ⟨Nat.le_of_ble_eq_true rfl, Nat.le_of_ble_eq_true rfl⟩) ?_
  refine lv_aload_n hx hb dL_law_436 rfl (lv_at hl 2 rfl) ?_
  refine wt_roi (va_runV (As := []) (rest := [.int (nI ct)]) ⟨hx, hb, hml, hown, ht⟩ (c_M_frames l dC dI cI cZ cL qm kn co bo pr wd zs fp sh sl ct sc ea dn cd nx nd nc al wo wh) (cwV 0 ht (good_V m_514 m_515 m_516 m_7 m_517) rfl rfl rfl (by decide +kernel) ⟨Nat.le_of_ble_eq_true rfl, Nat.le_of_ble_eq_true rfl⟩) (wt_preV hK hN (hP.sub [18, 19, 20, 21, 22, 23, 24, 25, 26, 27, 28, 29, 30, 31, 32, 33] rfl) (va_recv hK hP (ci := 5) (q0 := 18) rfl rfl)) rfl rfl hl.1 rfl (lv_room (Nat.le_of_ble_eq_true rfl)) dL_law_437 ⟨Nat.le_of_ble_eq_true rfl, Nat.le_of_ble_eq_true rfl⟩) ?_
  refine lv_icmp_eq (tgt := 553) hx hb dL_law_440 (by decide) (fun _ => ?_) (fun hne => absurd (rfl) hne)
  have hr9 : rel ph pa ch en sz gc gb sc sh sl ct kn co bo pr wd zs fp pg := hrel
  exact K H locs ls ⟨ph, pa, ch, en, sz, pr, gc, gb, sc, sh, sl, ct, tok, wt, pn, lt, wp, sd, kn, co, bo, wd, zs, fp, ea, dn, cd, nx, nd, nc, al, wo, wh, pg, hP, hD, hS, hr9, hca⟩ hl

set_option maxHeartbeats 4000000 in
set_option maxRecDepth 100000 in
theorem law_nodes {p : Program} {l : Launch} {e : Env} {s : State} {m : MethodId} {below : List Frame} {meth : Method} {c : Code} {dC : Nat → ClassId} {dI : Nat → Nat → Nat} {cI cZ cL : ClassId} {b L : Nat} {xs : Nat → Int32} {q qm : Nat → Nat} (hL : L ≤ 3072) (C0 : lw_At p s m meth c b L xs) (hK : va_K (dC, dI) vwCl [(cI, .int), (cZ, .boolean), (cL, .long)] s) (hN : wt_nest s) {i : Nat} (hi : i + 6 ≤ L) (K : ∀ (H : Heap) (locs : List Loc) (ls : Array Slot), wtInv s dC dI cI cZ cL q qm H locs → lv_has ls 4 [(0, .ref b), (1, .ref (q 0)), (2, .ref (qm 0)), (3, .int (nI i))] → W p l e room_1 s m #[Value.ref b] below meth c H locs 34 14336 (lw_Z below #[Value.ref b] s) (F0 m 553 ls [])) : ∀ (H : Heap) (locs : List Loc) (ls : Array Slot), wtInv s dC dI cI cZ cL q qm H locs → lv_has ls 4 [(0, .ref b), (1, .ref (q 0)), (2, .ref (qm 0)), (3, .int (nI i))] → W p l e room_1 s m #[Value.ref b] below meth c H locs 34 14336 (lw_Z below #[Value.ref b] s) (F0 m 445 ls []) := by
  obtain ⟨hx, hb, hr, hml, hown0, hts, hX, hbl, hlocks, hgv⟩ := id C0
  have hown : s.vm.findClass RL = some m.cls := hown0
  have ht : ∀ w ∈ tb, w.before _ s = true := fun w h => hts w (tb_in w h)
  have hA : ∀ a : Nat, s.heap.size ≤ a → (fun a : Nat => s.heap.size ≤ a) a := fun _ h => h
  have hbA : ¬ (fun a : Nat => s.heap.size ≤ a) b := Nat.not_le.mpr hbl
  intro H locs ls hv hl
  obtain ⟨ph, pa, ch, en, sz, pr, gc, gb, sc, sh, sl, ct, tok, wt, pn, lt, wp, sd, kn, co, bo, wd, zs, fp, ea, dn, cd, nx, nd, nc, al, wo, wh, pg, hP, hD, hS, hrel, hca⟩ := hv
  have hrel' := hrel
  obtain ⟨⟨hm8, hzw, htr, hsz24, hen, hgr, hscr, hshr, hslr⟩, hct, hs3, hts0, hzs, hwd, hph, hpa, hch, hfp, hen0⟩ := hrel'
  have hz1 : ∀ k, k < pr → 1 ≤ zs k := fun k hk => (hzw k hk).1
  refine lv_aload_n hx hb dL_law_445 rfl (lv_at hl 1 rfl) ?_
  refine wt_roi (va_runV (As := []) (rest := []) ⟨hx, hb, hml, hown, ht⟩ (c_X_nodes l dC dI cI cZ cL q ph pa ch en sz pr gc gb sc sh sl ct tok wt pn lt wp sd) (cwV 0 ht (good_V m_259 m_260 m_261 m_1 m_262) rfl rfl rfl (by decide +kernel) ⟨Nat.le_of_ble_eq_true rfl, Nat.le_of_ble_eq_true rfl⟩) (wt_preV hK hN (hP.sub [0, 1, 2, 3, 4, 5, 6, 7, 8, 9, 10, 11, 12, 13, 14, 15, 16, 17] rfl) (va_recv hK hP (ci := 0) (q0 := 0) rfl rfl)) rfl rfl hl.1 rfl (lv_room (Nat.le_of_ble_eq_true rfl)) dL_law_446 ⟨Nat.le_of_ble_eq_true rfl, Nat.le_of_ble_eq_true rfl⟩) ?_
  refine lv_aload_n hx hb dL_law_449 rfl (lv_at hl 2 rfl) ?_
  refine wt_roi (va_runV (As := []) (rest := [.int (nI sz)]) ⟨hx, hb, hml, hown, ht⟩ (c_M_nodes l dC dI cI cZ cL qm kn co bo pr wd zs fp sh sl ct sc ea dn cd nx nd nc al wo wh (by omega) hzs) (cwV 0 ht (good_V m_455 m_456 m_457 m_7 m_458) rfl rfl rfl (by decide +kernel) ⟨Nat.le_of_ble_eq_true rfl, Nat.le_of_ble_eq_true rfl⟩) (wt_preV hK hN (hP.sub [18, 19, 20, 21, 22, 23, 24, 25, 26, 27, 28, 29, 30, 31, 32, 33] rfl) (va_recv hK hP (ci := 5) (q0 := 18) rfl rfl)) rfl rfl hl.1 rfl (lv_room (Nat.le_of_ble_eq_true rfl)) dL_law_450 ⟨Nat.le_of_ble_eq_true rfl, Nat.le_of_ble_eq_true rfl⟩) ?_
  refine lv_icmp_eq (tgt := 553) hx hb dL_law_453 (by decide) (fun _ => ?_) (fun hne => absurd (congrArg nI (nod_eq hts0 hfp).symm) hne)
  have hr9 : rel ph pa ch en sz gc gb sc sh sl ct kn co bo pr wd zs fp pg := hrel
  exact K H locs ls ⟨ph, pa, ch, en, sz, pr, gc, gb, sc, sh, sl, ct, tok, wt, pn, lt, wp, sd, kn, co, bo, wd, zs, fp, ea, dn, cd, nx, nd, nc, al, wo, wh, pg, hP, hD, hS, hr9, hca⟩ hl

set_option maxHeartbeats 4000000 in
set_option maxRecDepth 100000 in
theorem law_total {p : Program} {l : Launch} {e : Env} {s : State} {m : MethodId} {below : List Frame} {meth : Method} {c : Code} {dC : Nat → ClassId} {dI : Nat → Nat → Nat} {cI cZ cL : ClassId} {b L : Nat} {xs : Nat → Int32} {q qm : Nat → Nat} (hL : L ≤ 3072) (C0 : lw_At p s m meth c b L xs) (hK : va_K (dC, dI) vwCl [(cI, .int), (cZ, .boolean), (cL, .long)] s) (hN : wt_nest s) {i : Nat} (hi : i + 6 ≤ L) (K : ∀ (H : Heap) (locs : List Loc) (ls : Array Slot), wtInv s dC dI cI cZ cL q qm H locs → lv_has ls 4 [(0, .ref b), (1, .ref (q 0)), (2, .ref (qm 0)), (3, .int (nI i))] → W p l e room_1 s m #[Value.ref b] below meth c H locs 34 14336 (lw_Z below #[Value.ref b] s) (F0 m 553 ls [])) : ∀ (H : Heap) (locs : List Loc) (ls : Array Slot), wtInv s dC dI cI cZ cL q qm H locs → lv_has ls 4 [(0, .ref b), (1, .ref (q 0)), (2, .ref (qm 0)), (3, .int (nI i))] → W p l e room_1 s m #[Value.ref b] below meth c H locs 34 14336 (lw_Z below #[Value.ref b] s) (F0 m 458 ls []) := by
  obtain ⟨hx, hb, hr, hml, hown0, hts, hX, hbl, hlocks, hgv⟩ := id C0
  have hown : s.vm.findClass RL = some m.cls := hown0
  have ht : ∀ w ∈ tb, w.before _ s = true := fun w h => hts w (tb_in w h)
  have hA : ∀ a : Nat, s.heap.size ≤ a → (fun a : Nat => s.heap.size ≤ a) a := fun _ h => h
  have hbA : ¬ (fun a : Nat => s.heap.size ≤ a) b := Nat.not_le.mpr hbl
  intro H locs ls hv hl
  obtain ⟨ph, pa, ch, en, sz, pr, gc, gb, sc, sh, sl, ct, tok, wt, pn, lt, wp, sd, kn, co, bo, wd, zs, fp, ea, dn, cd, nx, nd, nc, al, wo, wh, pg, hP, hD, hS, hrel, hca⟩ := hv
  have hrel' := hrel
  obtain ⟨⟨hm8, hzw, htr, hsz24, hen, hgr, hscr, hshr, hslr⟩, hct, hs3, hts0, hzs, hwd, hph, hpa, hch, hfp, hen0⟩ := hrel'
  have hz1 : ∀ k, k < pr → 1 ≤ zs k := fun k hk => (hzw k hk).1
  have hc9 := cache_run hca
  have hw9 := whole_eq hrel nd nc
  refine lv_aload_n hx hb dL_law_458 rfl (lv_at hl 1 rfl) ?_
  refine wt_cuti (wc := (wX cI cZ cL q ph pa ch en sz pr gc gb sc sh sl ct tok wt pn lt wp sd)) (w1 := (wX cI cZ cL q ph pa ch en sz pr gc gb sc sh sl ct (if sd = true then tok else (wt_run ph pa en sz gc gb sc sh sl ct pn lt).1) (if sd = true then wt else (wt_run ph pa en sz gc gb sc sh sl ct pn lt).2.1) (if sd = true then pn else (wt_run ph pa en sz gc gb sc sh sl ct pn lt).2.2.1) (if sd = true then lt else (wt_run ph pa en sz gc gb sc sh sl ct pn lt).2.2.2) (if sd = true then wp else wt_ep gc gb (wt_run ph pa en sz gc gb sc sh sl ct pn lt).2.1) true)) (wr := (wM cI cZ cL qm kn co bo pr wd zs fp sh sl ct sc ea dn cd nx nd nc al wo wh)) (w2 := (wX cI cZ cL q ph pa ch en sz pr gc gb sc sh sl ct (if sd = true then tok else (wt_run ph pa en sz gc gb sc sh sl ct pn lt).1) (if sd = true then wt else (wt_run ph pa en sz gc gb sc sh sl ct pn lt).2.1) (if sd = true then pn else (wt_run ph pa en sz gc gb sc sh sl ct pn lt).2.2.1) (if sd = true then lt else (wt_run ph pa en sz gc gb sc sh sl ct pn lt).2.2.2) (if sd = true then wp else wt_ep gc gb (wt_run ph pa en sz gc gb sc sh sl ct pn lt).2.1) true) ++ (wM cI cZ cL qm kn co bo pr wd zs fp sh sl ct sc ea dn cd nx nd nc al wo wh)) (va_runV (As := []) (rest := []) ⟨hx, hb, hml, hown, ht⟩ (c_X_total l dC dI cI cZ cL q H.size ph pa ch en sz pr gc gb sc sh sl ct tok wt pn lt wp sd hph hpa hsz24 hct) (cwV 0 ht (good_V m_263 m_264 m_265 m_1 m_266) rfl rfl rfl (by decide +kernel) ⟨Nat.le_of_ble_eq_true rfl, Nat.le_of_ble_eq_true rfl⟩) (wt_preVw hK hN (hP.sub [0, 1, 2, 3, 4, 5, 6, 7, 8, 9, 10, 11, 12, 13, 14, 15, 16, 17] rfl) (hD.sub [0, 1, 2, 3, 4, 5, 6, 7, 8, 9, 10, 11, 12, 13, 14, 15, 16, 17] (by decide) rfl) (va_recv hK hP (ci := 0) (q0 := 0) rfl rfl)) rfl rfl hl.1 rfl (lv_room (Nat.le_of_ble_eq_true rfl)) dL_law_459 ⟨Nat.le_of_ble_eq_true rfl, Nat.le_of_ble_eq_true rfl⟩) hP hD hS hA [0, 1, 2, 3, 4, 5, 6, 7, 8, 9, 10, 11, 12, 13, 14, 15, 16, 17] [18, 19, 20, 21, 22, 23, 24, 25, 26, 27, 28, 29, 30, 31, 32, 33] rfl rfl (by decide) (by decide) [16, 17, 18, 19, 20, 21, 22, 23, 24, 25, 26, 27, 28, 29, 30, 31, 32, 33, 0, 1, 2, 3, 4, 5, 6, 7, 8, 9, 10, 11, 12, 13, 14, 15] (by decide) rfl (fun H locs hP hD hS => ?_)
  refine W.widen (k := 34) (n := 14336) (Nat.le_of_ble_eq_true rfl) (Nat.le_of_ble_eq_true rfl) ?_
  refine lv_aload_n hx hb dL_law_462 rfl (lv_at hl 2 rfl) ?_
  refine wt_cuti (wc := (wM cI cZ cL qm kn co bo pr wd zs fp sh sl ct sc ea dn cd nx nd nc al wo wh)) (w1 := (wM cI cZ cL qm kn co bo pr wd zs fp sh sl ct sc ((wt_mrun pg wd zs pr kn co bo sh sl sc ct nd nc).1) ((wt_mrun pg wd zs pr kn co bo sh sl sc ct nd nc).2.1) ((wt_mrun pg wd zs pr kn co bo sh sl sc ct nd nc).2.2) ((wt_mrun pg wd zs pr kn co bo sh sl sc ct nd nc).1) ((wt_mrun pg wd zs pr kn co bo sh sl sc ct nd nc).2.1) ((wt_mrun pg wd zs pr kn co bo sh sl sc ct nd nc).2.2) ((wt_wh wd zs pr kn co bo sl ((wt_mrun pg wd zs pr kn co bo sh sl sc ct nd nc).1) ((wt_mrun pg wd zs pr kn co bo sh sl sc ct nd nc).2.1) ((wt_mrun pg wd zs pr kn co bo sh sl sc ct nd nc).2.2)).1) ((wt_wh wd zs pr kn co bo sl ((wt_mrun pg wd zs pr kn co bo sh sl sc ct nd nc).1) ((wt_mrun pg wd zs pr kn co bo sh sl sc ct nd nc).2.1) ((wt_mrun pg wd zs pr kn co bo sh sl sc ct nd nc).2.2)).2.1) ((wt_wh wd zs pr kn co bo sl ((wt_mrun pg wd zs pr kn co bo sh sl sc ct nd nc).1) ((wt_mrun pg wd zs pr kn co bo sh sl sc ct nd nc).2.1) ((wt_mrun pg wd zs pr kn co bo sh sl sc ct nd nc).2.2)).2.2))) (wr := (wX cI cZ cL q ph pa ch en sz pr gc gb sc sh sl ct (if sd = true then tok else (wt_run ph pa en sz gc gb sc sh sl ct pn lt).1) (if sd = true then wt else (wt_run ph pa en sz gc gb sc sh sl ct pn lt).2.1) (if sd = true then pn else (wt_run ph pa en sz gc gb sc sh sl ct pn lt).2.2.1) (if sd = true then lt else (wt_run ph pa en sz gc gb sc sh sl ct pn lt).2.2.2) (if sd = true then wp else wt_ep gc gb (wt_run ph pa en sz gc gb sc sh sl ct pn lt).2.1) true)) (w2 := (wX cI cZ cL q ph pa ch en sz pr gc gb sc sh sl ct (if sd = true then tok else (wt_run ph pa en sz gc gb sc sh sl ct pn lt).1) (if sd = true then wt else (wt_run ph pa en sz gc gb sc sh sl ct pn lt).2.1) (if sd = true then pn else (wt_run ph pa en sz gc gb sc sh sl ct pn lt).2.2.1) (if sd = true then lt else (wt_run ph pa en sz gc gb sc sh sl ct pn lt).2.2.2) (if sd = true then wp else wt_ep gc gb (wt_run ph pa en sz gc gb sc sh sl ct pn lt).2.1) true) ++ (wM cI cZ cL qm kn co bo pr wd zs fp sh sl ct sc ((wt_mrun pg wd zs pr kn co bo sh sl sc ct nd nc).1) ((wt_mrun pg wd zs pr kn co bo sh sl sc ct nd nc).2.1) ((wt_mrun pg wd zs pr kn co bo sh sl sc ct nd nc).2.2) ((wt_mrun pg wd zs pr kn co bo sh sl sc ct nd nc).1) ((wt_mrun pg wd zs pr kn co bo sh sl sc ct nd nc).2.1) ((wt_mrun pg wd zs pr kn co bo sh sl sc ct nd nc).2.2) ((wt_wh wd zs pr kn co bo sl ((wt_mrun pg wd zs pr kn co bo sh sl sc ct nd nc).1) ((wt_mrun pg wd zs pr kn co bo sh sl sc ct nd nc).2.1) ((wt_mrun pg wd zs pr kn co bo sh sl sc ct nd nc).2.2)).1) ((wt_wh wd zs pr kn co bo sl ((wt_mrun pg wd zs pr kn co bo sh sl sc ct nd nc).1) ((wt_mrun pg wd zs pr kn co bo sh sl sc ct nd nc).2.1) ((wt_mrun pg wd zs pr kn co bo sh sl sc ct nd nc).2.2)).2.1) ((wt_wh wd zs pr kn co bo sl ((wt_mrun pg wd zs pr kn co bo sh sl sc ct nd nc).1) ((wt_mrun pg wd zs pr kn co bo sh sl sc ct nd nc).2.1) ((wt_mrun pg wd zs pr kn co bo sh sl sc ct nd nc).2.2)).2.2))) (va_runV (As := []) (rest := [.int (wt_tc (if sd = true then wp else wt_ep gc gb (wt_run ph pa en sz gc gb sc sh sl ct pn lt).2.1))]) ⟨hx, hb, hml, hown, ht⟩ (c_M_total l dC dI cI cZ cL qm H.size kn co bo pr wd zs fp sh sl ct sc ea dn cd nx nd nc al wo wh pg hct hm8 hzs hwd hz1 hfp) (cwV 0 ht (good_V m_518 m_519 m_520 m_7 m_521) rfl rfl rfl (by decide +kernel) ⟨Nat.le_of_ble_eq_true rfl, Nat.le_of_ble_eq_true rfl⟩) (wt_preVw hK hN (hP.sub [18, 19, 20, 21, 22, 23, 24, 25, 26, 27, 28, 29, 30, 31, 32, 33] rfl) (hD.sub [18, 19, 20, 21, 22, 23, 24, 25, 26, 27, 28, 29, 30, 31, 32, 33] (by decide) rfl) (va_recv hK hP (ci := 5) (q0 := 18) rfl rfl)) rfl rfl hl.1 rfl (lv_room (Nat.le_of_ble_eq_true rfl)) dL_law_463 ⟨Nat.le_of_ble_eq_true rfl, Nat.le_of_ble_eq_true rfl⟩) hP hD hS hA [18, 19, 20, 21, 22, 23, 24, 25, 26, 27, 28, 29, 30, 31, 32, 33] [0, 1, 2, 3, 4, 5, 6, 7, 8, 9, 10, 11, 12, 13, 14, 15, 16, 17] rfl rfl (by decide) (by decide) [0, 1, 2, 3, 4, 5, 6, 7, 8, 9, 10, 11, 12, 13, 14, 15, 16, 17, 18, 19, 20, 21, 22, 23, 24, 25, 26, 27, 28, 29, 30, 31, 32, 33] (by decide) rfl (fun H locs hP hD hS => ?_)
  refine W.widen (k := 34) (n := 14336) (Nat.le_of_ble_eq_true rfl) (Nat.le_of_ble_eq_true rfl) ?_
  refine lv_icmp_eq (tgt := 553) hx hb dL_law_466 (by decide) (fun _ => ?_) (fun hne => absurd (by rw [hc9.2, hw9.1]; exact ans_tc hw9.2) hne)
  have hr9 : rel ph pa ch en sz gc gb sc sh sl ct kn co bo pr wd zs fp pg := hrel
  exact K H locs ls ⟨ph, pa, ch, en, sz, pr, gc, gb, sc, sh, sl, ct, (if sd = true then tok else (wt_run ph pa en sz gc gb sc sh sl ct pn lt).1), (if sd = true then wt else (wt_run ph pa en sz gc gb sc sh sl ct pn lt).2.1), (if sd = true then pn else (wt_run ph pa en sz gc gb sc sh sl ct pn lt).2.2.1), (if sd = true then lt else (wt_run ph pa en sz gc gb sc sh sl ct pn lt).2.2.2), (if sd = true then wp else wt_ep gc gb (wt_run ph pa en sz gc gb sc sh sl ct pn lt).2.1), true, kn, co, bo, wd, zs, fp, ((wt_mrun pg wd zs pr kn co bo sh sl sc ct nd nc).1), ((wt_mrun pg wd zs pr kn co bo sh sl sc ct nd nc).2.1), ((wt_mrun pg wd zs pr kn co bo sh sl sc ct nd nc).2.2), ((wt_mrun pg wd zs pr kn co bo sh sl sc ct nd nc).1), ((wt_mrun pg wd zs pr kn co bo sh sl sc ct nd nc).2.1), ((wt_mrun pg wd zs pr kn co bo sh sl sc ct nd nc).2.2), ((wt_wh wd zs pr kn co bo sl ((wt_mrun pg wd zs pr kn co bo sh sl sc ct nd nc).1) ((wt_mrun pg wd zs pr kn co bo sh sl sc ct nd nc).2.1) ((wt_mrun pg wd zs pr kn co bo sh sl sc ct nd nc).2.2)).1), ((wt_wh wd zs pr kn co bo sl ((wt_mrun pg wd zs pr kn co bo sh sl sc ct nd nc).1) ((wt_mrun pg wd zs pr kn co bo sh sl sc ct nd nc).2.1) ((wt_mrun pg wd zs pr kn co bo sh sl sc ct nd nc).2.2)).2.1), ((wt_wh wd zs pr kn co bo sl ((wt_mrun pg wd zs pr kn co bo sh sl sc ct nd nc).1) ((wt_mrun pg wd zs pr kn co bo sh sl sc ct nd nc).2.1) ((wt_mrun pg wd zs pr kn co bo sh sl sc ct nd nc).2.2)).2.2), pg, hP, hD, hS, hr9, (fun _ => hc9)⟩ hl

set_option maxHeartbeats 4000000 in
set_option maxRecDepth 100000 in
theorem law_length {p : Program} {l : Launch} {e : Env} {s : State} {m : MethodId} {below : List Frame} {meth : Method} {c : Code} {dC : Nat → ClassId} {dI : Nat → Nat → Nat} {cI cZ cL : ClassId} {b L : Nat} {xs : Nat → Int32} {q qm : Nat → Nat} (hL : L ≤ 3072) (C0 : lw_At p s m meth c b L xs) (hK : va_K (dC, dI) vwCl [(cI, .int), (cZ, .boolean), (cL, .long)] s) (hN : wt_nest s) {i : Nat} (hi : i + 6 ≤ L) (K : ∀ (H : Heap) (locs : List Loc) (ls : Array Slot), wtInv s dC dI cI cZ cL q qm H locs → lv_has ls 4 [(0, .ref b), (1, .ref (q 0)), (2, .ref (qm 0)), (3, .int (nI i))] → W p l e room_1 s m #[Value.ref b] below meth c H locs 34 14336 (lw_Z below #[Value.ref b] s) (F0 m 553 ls [])) : ∀ (H : Heap) (locs : List Loc) (ls : Array Slot), wtInv s dC dI cI cZ cL q qm H locs → lv_has ls 4 [(0, .ref b), (1, .ref (q 0)), (2, .ref (qm 0)), (3, .int (nI i))] → W p l e room_1 s m #[Value.ref b] below meth c H locs 34 14336 (lw_Z below #[Value.ref b] s) (F0 m 471 ls []) := by
  obtain ⟨hx, hb, hr, hml, hown0, hts, hX, hbl, hlocks, hgv⟩ := id C0
  have hown : s.vm.findClass RL = some m.cls := hown0
  have ht : ∀ w ∈ tb, w.before _ s = true := fun w h => hts w (tb_in w h)
  have hA : ∀ a : Nat, s.heap.size ≤ a → (fun a : Nat => s.heap.size ≤ a) a := fun _ h => h
  have hbA : ¬ (fun a : Nat => s.heap.size ≤ a) b := Nat.not_le.mpr hbl
  intro H locs ls hv hl
  obtain ⟨ph, pa, ch, en, sz, pr, gc, gb, sc, sh, sl, ct, tok, wt, pn, lt, wp, sd, kn, co, bo, wd, zs, fp, ea, dn, cd, nx, nd, nc, al, wo, wh, pg, hP, hD, hS, hrel, hca⟩ := hv
  have hrel' := hrel
  obtain ⟨⟨hm8, hzw, htr, hsz24, hen, hgr, hscr, hshr, hslr⟩, hct, hs3, hts0, hzs, hwd, hph, hpa, hch, hfp, hen0⟩ := hrel'
  have hz1 : ∀ k, k < pr → 1 ≤ zs k := fun k hk => (hzw k hk).1
  have hc9 := cache_run hca
  have hw9 := whole_eq hrel nd nc
  refine lv_aload_n hx hb dL_law_471 rfl (lv_at hl 1 rfl) ?_
  refine wt_cuti (wc := (wX cI cZ cL q ph pa ch en sz pr gc gb sc sh sl ct tok wt pn lt wp sd)) (w1 := (wX cI cZ cL q ph pa ch en sz pr gc gb sc sh sl ct (if sd = true then tok else (wt_run ph pa en sz gc gb sc sh sl ct pn lt).1) (if sd = true then wt else (wt_run ph pa en sz gc gb sc sh sl ct pn lt).2.1) (if sd = true then pn else (wt_run ph pa en sz gc gb sc sh sl ct pn lt).2.2.1) (if sd = true then lt else (wt_run ph pa en sz gc gb sc sh sl ct pn lt).2.2.2) (if sd = true then wp else wt_ep gc gb (wt_run ph pa en sz gc gb sc sh sl ct pn lt).2.1) true)) (wr := (wM cI cZ cL qm kn co bo pr wd zs fp sh sl ct sc ea dn cd nx nd nc al wo wh)) (w2 := (wX cI cZ cL q ph pa ch en sz pr gc gb sc sh sl ct (if sd = true then tok else (wt_run ph pa en sz gc gb sc sh sl ct pn lt).1) (if sd = true then wt else (wt_run ph pa en sz gc gb sc sh sl ct pn lt).2.1) (if sd = true then pn else (wt_run ph pa en sz gc gb sc sh sl ct pn lt).2.2.1) (if sd = true then lt else (wt_run ph pa en sz gc gb sc sh sl ct pn lt).2.2.2) (if sd = true then wp else wt_ep gc gb (wt_run ph pa en sz gc gb sc sh sl ct pn lt).2.1) true) ++ (wM cI cZ cL qm kn co bo pr wd zs fp sh sl ct sc ea dn cd nx nd nc al wo wh)) (va_runV (As := []) (rest := []) ⟨hx, hb, hml, hown, ht⟩ (c_X_length l dC dI cI cZ cL q H.size ph pa ch en sz pr gc gb sc sh sl ct tok wt pn lt wp sd hph hpa hsz24 hct) (cwV 0 ht (good_V m_352 m_353 m_354 m_1 m_355) rfl rfl rfl (by decide +kernel) ⟨Nat.le_of_ble_eq_true rfl, Nat.le_of_ble_eq_true rfl⟩) (wt_preVw hK hN (hP.sub [0, 1, 2, 3, 4, 5, 6, 7, 8, 9, 10, 11, 12, 13, 14, 15, 16, 17] rfl) (hD.sub [0, 1, 2, 3, 4, 5, 6, 7, 8, 9, 10, 11, 12, 13, 14, 15, 16, 17] (by decide) rfl) (va_recv hK hP (ci := 0) (q0 := 0) rfl rfl)) rfl rfl hl.1 rfl (lv_room (Nat.le_of_ble_eq_true rfl)) dL_law_472 ⟨Nat.le_of_ble_eq_true rfl, Nat.le_of_ble_eq_true rfl⟩) hP hD hS hA [0, 1, 2, 3, 4, 5, 6, 7, 8, 9, 10, 11, 12, 13, 14, 15, 16, 17] [18, 19, 20, 21, 22, 23, 24, 25, 26, 27, 28, 29, 30, 31, 32, 33] rfl rfl (by decide) (by decide) [16, 17, 18, 19, 20, 21, 22, 23, 24, 25, 26, 27, 28, 29, 30, 31, 32, 33, 0, 1, 2, 3, 4, 5, 6, 7, 8, 9, 10, 11, 12, 13, 14, 15] (by decide) rfl (fun H locs hP hD hS => ?_)
  refine W.widen (k := 34) (n := 14336) (Nat.le_of_ble_eq_true rfl) (Nat.le_of_ble_eq_true rfl) ?_
  refine lv_aload_n hx hb dL_law_475 rfl (lv_at hl 2 rfl) ?_
  refine wt_cuti (wc := (wM cI cZ cL qm kn co bo pr wd zs fp sh sl ct sc ea dn cd nx nd nc al wo wh)) (w1 := (wM cI cZ cL qm kn co bo pr wd zs fp sh sl ct sc ((wt_mrun pg wd zs pr kn co bo sh sl sc ct nd nc).1) ((wt_mrun pg wd zs pr kn co bo sh sl sc ct nd nc).2.1) ((wt_mrun pg wd zs pr kn co bo sh sl sc ct nd nc).2.2) ((wt_mrun pg wd zs pr kn co bo sh sl sc ct nd nc).1) ((wt_mrun pg wd zs pr kn co bo sh sl sc ct nd nc).2.1) ((wt_mrun pg wd zs pr kn co bo sh sl sc ct nd nc).2.2) ((wt_wh wd zs pr kn co bo sl ((wt_mrun pg wd zs pr kn co bo sh sl sc ct nd nc).1) ((wt_mrun pg wd zs pr kn co bo sh sl sc ct nd nc).2.1) ((wt_mrun pg wd zs pr kn co bo sh sl sc ct nd nc).2.2)).1) ((wt_wh wd zs pr kn co bo sl ((wt_mrun pg wd zs pr kn co bo sh sl sc ct nd nc).1) ((wt_mrun pg wd zs pr kn co bo sh sl sc ct nd nc).2.1) ((wt_mrun pg wd zs pr kn co bo sh sl sc ct nd nc).2.2)).2.1) ((wt_wh wd zs pr kn co bo sl ((wt_mrun pg wd zs pr kn co bo sh sl sc ct nd nc).1) ((wt_mrun pg wd zs pr kn co bo sh sl sc ct nd nc).2.1) ((wt_mrun pg wd zs pr kn co bo sh sl sc ct nd nc).2.2)).2.2))) (wr := (wX cI cZ cL q ph pa ch en sz pr gc gb sc sh sl ct (if sd = true then tok else (wt_run ph pa en sz gc gb sc sh sl ct pn lt).1) (if sd = true then wt else (wt_run ph pa en sz gc gb sc sh sl ct pn lt).2.1) (if sd = true then pn else (wt_run ph pa en sz gc gb sc sh sl ct pn lt).2.2.1) (if sd = true then lt else (wt_run ph pa en sz gc gb sc sh sl ct pn lt).2.2.2) (if sd = true then wp else wt_ep gc gb (wt_run ph pa en sz gc gb sc sh sl ct pn lt).2.1) true)) (w2 := (wX cI cZ cL q ph pa ch en sz pr gc gb sc sh sl ct (if sd = true then tok else (wt_run ph pa en sz gc gb sc sh sl ct pn lt).1) (if sd = true then wt else (wt_run ph pa en sz gc gb sc sh sl ct pn lt).2.1) (if sd = true then pn else (wt_run ph pa en sz gc gb sc sh sl ct pn lt).2.2.1) (if sd = true then lt else (wt_run ph pa en sz gc gb sc sh sl ct pn lt).2.2.2) (if sd = true then wp else wt_ep gc gb (wt_run ph pa en sz gc gb sc sh sl ct pn lt).2.1) true) ++ (wM cI cZ cL qm kn co bo pr wd zs fp sh sl ct sc ((wt_mrun pg wd zs pr kn co bo sh sl sc ct nd nc).1) ((wt_mrun pg wd zs pr kn co bo sh sl sc ct nd nc).2.1) ((wt_mrun pg wd zs pr kn co bo sh sl sc ct nd nc).2.2) ((wt_mrun pg wd zs pr kn co bo sh sl sc ct nd nc).1) ((wt_mrun pg wd zs pr kn co bo sh sl sc ct nd nc).2.1) ((wt_mrun pg wd zs pr kn co bo sh sl sc ct nd nc).2.2) ((wt_wh wd zs pr kn co bo sl ((wt_mrun pg wd zs pr kn co bo sh sl sc ct nd nc).1) ((wt_mrun pg wd zs pr kn co bo sh sl sc ct nd nc).2.1) ((wt_mrun pg wd zs pr kn co bo sh sl sc ct nd nc).2.2)).1) ((wt_wh wd zs pr kn co bo sl ((wt_mrun pg wd zs pr kn co bo sh sl sc ct nd nc).1) ((wt_mrun pg wd zs pr kn co bo sh sl sc ct nd nc).2.1) ((wt_mrun pg wd zs pr kn co bo sh sl sc ct nd nc).2.2)).2.1) ((wt_wh wd zs pr kn co bo sl ((wt_mrun pg wd zs pr kn co bo sh sl sc ct nd nc).1) ((wt_mrun pg wd zs pr kn co bo sh sl sc ct nd nc).2.1) ((wt_mrun pg wd zs pr kn co bo sh sl sc ct nd nc).2.2)).2.2))) (va_runV (As := []) (rest := [.int (wt_tn (if sd = true then wp else wt_ep gc gb (wt_run ph pa en sz gc gb sc sh sl ct pn lt).2.1))]) ⟨hx, hb, hml, hown, ht⟩ (c_M_length l dC dI cI cZ cL qm H.size kn co bo pr wd zs fp sh sl ct sc ea dn cd nx nd nc al wo wh pg hct hm8 hzs hwd hz1 hfp) (cwV 0 ht (good_V m_547 m_548 m_549 m_7 m_550) rfl rfl rfl (by decide +kernel) ⟨Nat.le_of_ble_eq_true rfl, Nat.le_of_ble_eq_true rfl⟩) (wt_preVw hK hN (hP.sub [18, 19, 20, 21, 22, 23, 24, 25, 26, 27, 28, 29, 30, 31, 32, 33] rfl) (hD.sub [18, 19, 20, 21, 22, 23, 24, 25, 26, 27, 28, 29, 30, 31, 32, 33] (by decide) rfl) (va_recv hK hP (ci := 5) (q0 := 18) rfl rfl)) rfl rfl hl.1 rfl (lv_room (Nat.le_of_ble_eq_true rfl)) dL_law_476 ⟨Nat.le_of_ble_eq_true rfl, Nat.le_of_ble_eq_true rfl⟩) hP hD hS hA [18, 19, 20, 21, 22, 23, 24, 25, 26, 27, 28, 29, 30, 31, 32, 33] [0, 1, 2, 3, 4, 5, 6, 7, 8, 9, 10, 11, 12, 13, 14, 15, 16, 17] rfl rfl (by decide) (by decide) [0, 1, 2, 3, 4, 5, 6, 7, 8, 9, 10, 11, 12, 13, 14, 15, 16, 17, 18, 19, 20, 21, 22, 23, 24, 25, 26, 27, 28, 29, 30, 31, 32, 33] (by decide) rfl (fun H locs hP hD hS => ?_)
  refine W.widen (k := 34) (n := 14336) (Nat.le_of_ble_eq_true rfl) (Nat.le_of_ble_eq_true rfl) ?_
  refine lv_icmp_eq (tgt := 553) hx hb dL_law_479 (by decide) (fun _ => ?_) (fun hne => absurd (by rw [hc9.2, hw9.1]; exact ans_tn hw9.2) hne)
  have hr9 : rel ph pa ch en sz gc gb sc sh sl ct kn co bo pr wd zs fp pg := hrel
  exact K H locs ls ⟨ph, pa, ch, en, sz, pr, gc, gb, sc, sh, sl, ct, (if sd = true then tok else (wt_run ph pa en sz gc gb sc sh sl ct pn lt).1), (if sd = true then wt else (wt_run ph pa en sz gc gb sc sh sl ct pn lt).2.1), (if sd = true then pn else (wt_run ph pa en sz gc gb sc sh sl ct pn lt).2.2.1), (if sd = true then lt else (wt_run ph pa en sz gc gb sc sh sl ct pn lt).2.2.2), (if sd = true then wp else wt_ep gc gb (wt_run ph pa en sz gc gb sc sh sl ct pn lt).2.1), true, kn, co, bo, wd, zs, fp, ((wt_mrun pg wd zs pr kn co bo sh sl sc ct nd nc).1), ((wt_mrun pg wd zs pr kn co bo sh sl sc ct nd nc).2.1), ((wt_mrun pg wd zs pr kn co bo sh sl sc ct nd nc).2.2), ((wt_mrun pg wd zs pr kn co bo sh sl sc ct nd nc).1), ((wt_mrun pg wd zs pr kn co bo sh sl sc ct nd nc).2.1), ((wt_mrun pg wd zs pr kn co bo sh sl sc ct nd nc).2.2), ((wt_wh wd zs pr kn co bo sl ((wt_mrun pg wd zs pr kn co bo sh sl sc ct nd nc).1) ((wt_mrun pg wd zs pr kn co bo sh sl sc ct nd nc).2.1) ((wt_mrun pg wd zs pr kn co bo sh sl sc ct nd nc).2.2)).1), ((wt_wh wd zs pr kn co bo sl ((wt_mrun pg wd zs pr kn co bo sh sl sc ct nd nc).1) ((wt_mrun pg wd zs pr kn co bo sh sl sc ct nd nc).2.1) ((wt_mrun pg wd zs pr kn co bo sh sl sc ct nd nc).2.2)).2.1), ((wt_wh wd zs pr kn co bo sl ((wt_mrun pg wd zs pr kn co bo sh sl sc ct nd nc).1) ((wt_mrun pg wd zs pr kn co bo sh sl sc ct nd nc).2.1) ((wt_mrun pg wd zs pr kn co bo sh sl sc ct nd nc).2.2)).2.2), pg, hP, hD, hS, hr9, (fun _ => hc9)⟩ hl

set_option maxHeartbeats 4000000 in
set_option maxRecDepth 100000 in
theorem law_wordAt {p : Program} {l : Launch} {e : Env} {s : State} {m : MethodId} {below : List Frame} {meth : Method} {c : Code} {dC : Nat → ClassId} {dI : Nat → Nat → Nat} {cI cZ cL : ClassId} {b L : Nat} {xs : Nat → Int32} {q qm : Nat → Nat} (hL : L ≤ 3072) (C0 : lw_At p s m meth c b L xs) (hK : va_K (dC, dI) vwCl [(cI, .int), (cZ, .boolean), (cL, .long)] s) (hN : wt_nest s) {i : Nat} (hi : i + 6 ≤ L) (K : ∀ (H : Heap) (locs : List Loc) (ls : Array Slot), wtInv s dC dI cI cZ cL q qm H locs → lv_has ls 4 [(0, .ref b), (1, .ref (q 0)), (2, .ref (qm 0)), (3, .int (nI i))] → W p l e room_1 s m #[Value.ref b] below meth c H locs 34 14336 (lw_Z below #[Value.ref b] s) (F0 m 553 ls [])) : ∀ (H : Heap) (locs : List Loc) (ls : Array Slot), wtInv s dC dI cI cZ cL q qm H locs → lv_has ls 4 [(0, .ref b), (1, .ref (q 0)), (2, .ref (qm 0)), (3, .int (nI i))] → W p l e room_1 s m #[Value.ref b] below meth c H locs 34 14336 (lw_Z below #[Value.ref b] s) (F0 m 484 ls []) := by
  obtain ⟨hx, hb, hr, hml, hown0, hts, hX, hbl, hlocks, hgv⟩ := id C0
  have hown : s.vm.findClass RL = some m.cls := hown0
  have ht : ∀ w ∈ tb, w.before _ s = true := fun w h => hts w (tb_in w h)
  have hA : ∀ a : Nat, s.heap.size ≤ a → (fun a : Nat => s.heap.size ≤ a) a := fun _ h => h
  have hbA : ¬ (fun a : Nat => s.heap.size ≤ a) b := Nat.not_le.mpr hbl
  intro H locs ls hv hl
  obtain ⟨ph, pa, ch, en, sz, pr, gc, gb, sc, sh, sl, ct, tok, wt, pn, lt, wp, sd, kn, co, bo, wd, zs, fp, ea, dn, cd, nx, nd, nc, al, wo, wh, pg, hP, hD, hS, hrel, hca⟩ := hv
  have hrel' := hrel
  obtain ⟨⟨hm8, hzw, htr, hsz24, hen, hgr, hscr, hshr, hslr⟩, hct, hs3, hts0, hzs, hwd, hph, hpa, hch, hfp, hen0⟩ := hrel'
  have hz1 : ∀ k, k < pr → 1 ≤ zs k := fun k hk => (hzw k hk).1
  have hc9 := cache_run hca
  have hw9 := whole_eq hrel nd nc
  refine lv_aload_n hx hb dL_law_484 rfl (lv_at hl 1 rfl) ?_
  refine lv_aload_n hx hb dL_law_485 rfl (lv_at hl 0 rfl) ?_
  refine lv_iload_n hx hb dL_law_486 rfl (lv_at hl 3 rfl) ?_
  refine lv_iconst (v := nI 1) hx hb dL_law_487 (by decide) ?_
  refine wt_iadd hx hb dL_law_488 ?_
  refine wt_sld hx hb hX hbl hbA hS (k := i + 1) (by omega) (by omega) (v := xs (i + 1)) rfl dL_law_489 ?_
  refine wt_cuti (wc := (wX cI cZ cL q ph pa ch en sz pr gc gb sc sh sl ct tok wt pn lt wp sd)) (w1 := (wX cI cZ cL q ph pa ch en sz pr gc gb sc sh sl ct (if sd = true then tok else (wt_run ph pa en sz gc gb sc sh sl ct pn lt).1) (if sd = true then wt else (wt_run ph pa en sz gc gb sc sh sl ct pn lt).2.1) (if sd = true then pn else (wt_run ph pa en sz gc gb sc sh sl ct pn lt).2.2.1) (if sd = true then lt else (wt_run ph pa en sz gc gb sc sh sl ct pn lt).2.2.2) (if sd = true then wp else wt_ep gc gb (wt_run ph pa en sz gc gb sc sh sl ct pn lt).2.1) true)) (wr := (wM cI cZ cL qm kn co bo pr wd zs fp sh sl ct sc ea dn cd nx nd nc al wo wh)) (w2 := (wX cI cZ cL q ph pa ch en sz pr gc gb sc sh sl ct (if sd = true then tok else (wt_run ph pa en sz gc gb sc sh sl ct pn lt).1) (if sd = true then wt else (wt_run ph pa en sz gc gb sc sh sl ct pn lt).2.1) (if sd = true then pn else (wt_run ph pa en sz gc gb sc sh sl ct pn lt).2.2.1) (if sd = true then lt else (wt_run ph pa en sz gc gb sc sh sl ct pn lt).2.2.2) (if sd = true then wp else wt_ep gc gb (wt_run ph pa en sz gc gb sc sh sl ct pn lt).2.1) true) ++ (wM cI cZ cL qm kn co bo pr wd zs fp sh sl ct sc ea dn cd nx nd nc al wo wh)) (va_runV (As := [.int (xs (i + 1))]) (rest := []) ⟨hx, hb, hml, hown, ht⟩ (c_X_wordAt l dC dI cI cZ cL q H.size ph pa ch en sz pr gc gb sc sh sl ct tok wt pn lt wp sd (xs (i + 1)) hph hpa hsz24 hct) (cwV 1 ht (good_V m_360 m_361 m_362 m_1 m_363) rfl rfl rfl (by decide +kernel) ⟨Nat.le_of_ble_eq_true rfl, Nat.le_of_ble_eq_true rfl⟩) (wt_preVw hK hN (hP.sub [0, 1, 2, 3, 4, 5, 6, 7, 8, 9, 10, 11, 12, 13, 14, 15, 16, 17] rfl) (hD.sub [0, 1, 2, 3, 4, 5, 6, 7, 8, 9, 10, 11, 12, 13, 14, 15, 16, 17] (by decide) rfl) (va_recv hK hP (ci := 0) (q0 := 0) rfl rfl)) rfl rfl hl.1 rfl (lv_room (Nat.le_of_ble_eq_true rfl)) dL_law_490 ⟨Nat.le_of_ble_eq_true rfl, Nat.le_of_ble_eq_true rfl⟩) hP hD hS hA [0, 1, 2, 3, 4, 5, 6, 7, 8, 9, 10, 11, 12, 13, 14, 15, 16, 17] [18, 19, 20, 21, 22, 23, 24, 25, 26, 27, 28, 29, 30, 31, 32, 33] rfl rfl (by decide) (by decide) [16, 17, 18, 19, 20, 21, 22, 23, 24, 25, 26, 27, 28, 29, 30, 31, 32, 33, 0, 1, 2, 3, 4, 5, 6, 7, 8, 9, 10, 11, 12, 13, 14, 15] (by decide) rfl (fun H locs hP hD hS => ?_)
  refine W.widen (k := 34) (n := 14336) (Nat.le_of_ble_eq_true rfl) (Nat.le_of_ble_eq_true rfl) ?_
  refine lv_aload_n hx hb dL_law_493 rfl (lv_at hl 2 rfl) ?_
  refine lv_aload_n hx hb dL_law_494 rfl (lv_at hl 0 rfl) ?_
  refine lv_iload_n hx hb dL_law_495 rfl (lv_at hl 3 rfl) ?_
  refine lv_iconst (v := nI 1) hx hb dL_law_496 (by decide) ?_
  refine wt_iadd hx hb dL_law_497 ?_
  refine wt_sld hx hb hX hbl hbA hS (k := i + 1) (by omega) (by omega) (v := xs (i + 1)) rfl dL_law_498 ?_
  refine wt_cuti (wc := (wM cI cZ cL qm kn co bo pr wd zs fp sh sl ct sc ea dn cd nx nd nc al wo wh)) (w1 := (wM cI cZ cL qm kn co bo pr wd zs fp sh sl ct sc ((wt_mrun pg wd zs pr kn co bo sh sl sc ct nd nc).1) ((wt_mrun pg wd zs pr kn co bo sh sl sc ct nd nc).2.1) ((wt_mrun pg wd zs pr kn co bo sh sl sc ct nd nc).2.2) ((wt_mrun pg wd zs pr kn co bo sh sl sc ct nd nc).1) ((wt_mrun pg wd zs pr kn co bo sh sl sc ct nd nc).2.1) ((wt_mrun pg wd zs pr kn co bo sh sl sc ct nd nc).2.2) ((wt_wh wd zs pr kn co bo sl ((wt_mrun pg wd zs pr kn co bo sh sl sc ct nd nc).1) ((wt_mrun pg wd zs pr kn co bo sh sl sc ct nd nc).2.1) ((wt_mrun pg wd zs pr kn co bo sh sl sc ct nd nc).2.2)).1) ((wt_wh wd zs pr kn co bo sl ((wt_mrun pg wd zs pr kn co bo sh sl sc ct nd nc).1) ((wt_mrun pg wd zs pr kn co bo sh sl sc ct nd nc).2.1) ((wt_mrun pg wd zs pr kn co bo sh sl sc ct nd nc).2.2)).2.1) ((wt_wh wd zs pr kn co bo sl ((wt_mrun pg wd zs pr kn co bo sh sl sc ct nd nc).1) ((wt_mrun pg wd zs pr kn co bo sh sl sc ct nd nc).2.1) ((wt_mrun pg wd zs pr kn co bo sh sl sc ct nd nc).2.2)).2.2))) (wr := (wX cI cZ cL q ph pa ch en sz pr gc gb sc sh sl ct (if sd = true then tok else (wt_run ph pa en sz gc gb sc sh sl ct pn lt).1) (if sd = true then wt else (wt_run ph pa en sz gc gb sc sh sl ct pn lt).2.1) (if sd = true then pn else (wt_run ph pa en sz gc gb sc sh sl ct pn lt).2.2.1) (if sd = true then lt else (wt_run ph pa en sz gc gb sc sh sl ct pn lt).2.2.2) (if sd = true then wp else wt_ep gc gb (wt_run ph pa en sz gc gb sc sh sl ct pn lt).2.1) true)) (w2 := (wX cI cZ cL q ph pa ch en sz pr gc gb sc sh sl ct (if sd = true then tok else (wt_run ph pa en sz gc gb sc sh sl ct pn lt).1) (if sd = true then wt else (wt_run ph pa en sz gc gb sc sh sl ct pn lt).2.1) (if sd = true then pn else (wt_run ph pa en sz gc gb sc sh sl ct pn lt).2.2.1) (if sd = true then lt else (wt_run ph pa en sz gc gb sc sh sl ct pn lt).2.2.2) (if sd = true then wp else wt_ep gc gb (wt_run ph pa en sz gc gb sc sh sl ct pn lt).2.1) true) ++ (wM cI cZ cL qm kn co bo pr wd zs fp sh sl ct sc ((wt_mrun pg wd zs pr kn co bo sh sl sc ct nd nc).1) ((wt_mrun pg wd zs pr kn co bo sh sl sc ct nd nc).2.1) ((wt_mrun pg wd zs pr kn co bo sh sl sc ct nd nc).2.2) ((wt_mrun pg wd zs pr kn co bo sh sl sc ct nd nc).1) ((wt_mrun pg wd zs pr kn co bo sh sl sc ct nd nc).2.1) ((wt_mrun pg wd zs pr kn co bo sh sl sc ct nd nc).2.2) ((wt_wh wd zs pr kn co bo sl ((wt_mrun pg wd zs pr kn co bo sh sl sc ct nd nc).1) ((wt_mrun pg wd zs pr kn co bo sh sl sc ct nd nc).2.1) ((wt_mrun pg wd zs pr kn co bo sh sl sc ct nd nc).2.2)).1) ((wt_wh wd zs pr kn co bo sl ((wt_mrun pg wd zs pr kn co bo sh sl sc ct nd nc).1) ((wt_mrun pg wd zs pr kn co bo sh sl sc ct nd nc).2.1) ((wt_mrun pg wd zs pr kn co bo sh sl sc ct nd nc).2.2)).2.1) ((wt_wh wd zs pr kn co bo sl ((wt_mrun pg wd zs pr kn co bo sh sl sc ct nd nc).1) ((wt_mrun pg wd zs pr kn co bo sh sl sc ct nd nc).2.1) ((wt_mrun pg wd zs pr kn co bo sh sl sc ct nd nc).2.2)).2.2))) (va_runV (As := [.int (xs (i + 1))]) (rest := [.int (wt_tw (if sd = true then wp else wt_ep gc gb (wt_run ph pa en sz gc gb sc sh sl ct pn lt).2.1) (xs (i + 1)))]) ⟨hx, hb, hml, hown, ht⟩ (c_M_wordAt l dC dI cI cZ cL qm H.size kn co bo pr wd zs fp sh sl ct sc ea dn cd nx nd nc al wo wh pg (xs (i + 1)) hct hm8 hzs hwd hz1 hfp) (cwV 1 ht (good_V m_551 m_552 m_553 m_7 m_554) rfl rfl rfl (by decide +kernel) ⟨Nat.le_of_ble_eq_true rfl, Nat.le_of_ble_eq_true rfl⟩) (wt_preVw hK hN (hP.sub [18, 19, 20, 21, 22, 23, 24, 25, 26, 27, 28, 29, 30, 31, 32, 33] rfl) (hD.sub [18, 19, 20, 21, 22, 23, 24, 25, 26, 27, 28, 29, 30, 31, 32, 33] (by decide) rfl) (va_recv hK hP (ci := 5) (q0 := 18) rfl rfl)) rfl rfl hl.1 rfl (lv_room (Nat.le_of_ble_eq_true rfl)) dL_law_499 ⟨Nat.le_of_ble_eq_true rfl, Nat.le_of_ble_eq_true rfl⟩) hP hD hS hA [18, 19, 20, 21, 22, 23, 24, 25, 26, 27, 28, 29, 30, 31, 32, 33] [0, 1, 2, 3, 4, 5, 6, 7, 8, 9, 10, 11, 12, 13, 14, 15, 16, 17] rfl rfl (by decide) (by decide) [0, 1, 2, 3, 4, 5, 6, 7, 8, 9, 10, 11, 12, 13, 14, 15, 16, 17, 18, 19, 20, 21, 22, 23, 24, 25, 26, 27, 28, 29, 30, 31, 32, 33] (by decide) rfl (fun H locs hP hD hS => ?_)
  refine W.widen (k := 34) (n := 14336) (Nat.le_of_ble_eq_true rfl) (Nat.le_of_ble_eq_true rfl) ?_
  refine lv_icmp_eq (tgt := 553) hx hb dL_law_502 (by decide) (fun _ => ?_) (fun hne => absurd (by rw [hc9.2, hw9.1]; exact ans_tw hw9.2 _) hne)
  have hr9 : rel ph pa ch en sz gc gb sc sh sl ct kn co bo pr wd zs fp pg := hrel
  exact K H locs ls ⟨ph, pa, ch, en, sz, pr, gc, gb, sc, sh, sl, ct, (if sd = true then tok else (wt_run ph pa en sz gc gb sc sh sl ct pn lt).1), (if sd = true then wt else (wt_run ph pa en sz gc gb sc sh sl ct pn lt).2.1), (if sd = true then pn else (wt_run ph pa en sz gc gb sc sh sl ct pn lt).2.2.1), (if sd = true then lt else (wt_run ph pa en sz gc gb sc sh sl ct pn lt).2.2.2), (if sd = true then wp else wt_ep gc gb (wt_run ph pa en sz gc gb sc sh sl ct pn lt).2.1), true, kn, co, bo, wd, zs, fp, ((wt_mrun pg wd zs pr kn co bo sh sl sc ct nd nc).1), ((wt_mrun pg wd zs pr kn co bo sh sl sc ct nd nc).2.1), ((wt_mrun pg wd zs pr kn co bo sh sl sc ct nd nc).2.2), ((wt_mrun pg wd zs pr kn co bo sh sl sc ct nd nc).1), ((wt_mrun pg wd zs pr kn co bo sh sl sc ct nd nc).2.1), ((wt_mrun pg wd zs pr kn co bo sh sl sc ct nd nc).2.2), ((wt_wh wd zs pr kn co bo sl ((wt_mrun pg wd zs pr kn co bo sh sl sc ct nd nc).1) ((wt_mrun pg wd zs pr kn co bo sh sl sc ct nd nc).2.1) ((wt_mrun pg wd zs pr kn co bo sh sl sc ct nd nc).2.2)).1), ((wt_wh wd zs pr kn co bo sl ((wt_mrun pg wd zs pr kn co bo sh sl sc ct nd nc).1) ((wt_mrun pg wd zs pr kn co bo sh sl sc ct nd nc).2.1) ((wt_mrun pg wd zs pr kn co bo sh sl sc ct nd nc).2.2)).2.1), ((wt_wh wd zs pr kn co bo sl ((wt_mrun pg wd zs pr kn co bo sh sl sc ct nd nc).1) ((wt_mrun pg wd zs pr kn co bo sh sl sc ct nd nc).2.1) ((wt_mrun pg wd zs pr kn co bo sh sl sc ct nd nc).2.2)).2.2), pg, hP, hD, hS, hr9, (fun _ => hc9)⟩ hl

set_option maxHeartbeats 4000000 in
set_option maxRecDepth 100000 in
theorem law_live {p : Program} {l : Launch} {e : Env} {s : State} {m : MethodId} {below : List Frame} {meth : Method} {c : Code} {dC : Nat → ClassId} {dI : Nat → Nat → Nat} {cI cZ cL : ClassId} {b L : Nat} {xs : Nat → Int32} {q qm : Nat → Nat} (hL : L ≤ 3072) (C0 : lw_At p s m meth c b L xs) (hK : va_K (dC, dI) vwCl [(cI, .int), (cZ, .boolean), (cL, .long)] s) (hN : wt_nest s) {i : Nat} (hi : i + 6 ≤ L) (K : ∀ (H : Heap) (locs : List Loc) (ls : Array Slot), wtInv s dC dI cI cZ cL q qm H locs → lv_has ls 4 [(0, .ref b), (1, .ref (q 0)), (2, .ref (qm 0)), (3, .int (nI i))] → W p l e room_1 s m #[Value.ref b] below meth c H locs 34 14336 (lw_Z below #[Value.ref b] s) (F0 m 553 ls [])) : ∀ (H : Heap) (locs : List Loc) (ls : Array Slot), wtInv s dC dI cI cZ cL q qm H locs → lv_has ls 4 [(0, .ref b), (1, .ref (q 0)), (2, .ref (qm 0)), (3, .int (nI i))] → W p l e room_1 s m #[Value.ref b] below meth c H locs 34 14336 (lw_Z below #[Value.ref b] s) (F0 m 507 ls []) := by
  obtain ⟨hx, hb, hr, hml, hown0, hts, hX, hbl, hlocks, hgv⟩ := id C0
  have hown : s.vm.findClass RL = some m.cls := hown0
  have ht : ∀ w ∈ tb, w.before _ s = true := fun w h => hts w (tb_in w h)
  have hA : ∀ a : Nat, s.heap.size ≤ a → (fun a : Nat => s.heap.size ≤ a) a := fun _ h => h
  have hbA : ¬ (fun a : Nat => s.heap.size ≤ a) b := Nat.not_le.mpr hbl
  intro H locs ls hv hl
  obtain ⟨ph, pa, ch, en, sz, pr, gc, gb, sc, sh, sl, ct, tok, wt, pn, lt, wp, sd, kn, co, bo, wd, zs, fp, ea, dn, cd, nx, nd, nc, al, wo, wh, pg, hP, hD, hS, hrel, hca⟩ := hv
  have hrel' := hrel
  obtain ⟨⟨hm8, hzw, htr, hsz24, hen, hgr, hscr, hshr, hslr⟩, hct, hs3, hts0, hzs, hwd, hph, hpa, hch, hfp, hen0⟩ := hrel'
  have hz1 : ∀ k, k < pr → 1 ≤ zs k := fun k hk => (hzw k hk).1
  have hc9 := cache_run hca
  cases hLV : decide (1 ≤ (xs (i + 1)).toInt ∧ (xs (i + 1)).toInt ≤ ct) with
  | false =>
    have hLn : ¬ decide (1 ≤ (xs (i + 1)).toInt ∧ (xs (i + 1)).toInt ≤ ct) = true := by rw [hLV]; decide
    refine lv_aload_n hx hb dL_law_507 rfl (lv_at hl 1 rfl) ?_
    refine lv_aload_n hx hb dL_law_508 rfl (lv_at hl 0 rfl) ?_
    refine lv_iload_n hx hb dL_law_509 rfl (lv_at hl 3 rfl) ?_
    refine lv_iconst (v := nI 1) hx hb dL_law_510 (by decide) ?_
    refine wt_iadd hx hb dL_law_511 ?_
    refine wt_sld hx hb hX hbl hbA hS (k := i + 1) (by omega) (by omega) (v := xs (i + 1)) rfl dL_law_512 ?_
    refine wt_cuti (wc := (wX cI cZ cL q ph pa ch en sz pr gc gb sc sh sl ct tok wt pn lt wp sd)) (w1 := (wX cI cZ cL q ph pa ch en sz pr gc gb sc sh sl ct (if decide (1 ≤ (xs (i + 1)).toInt ∧ (xs (i + 1)).toInt ≤ ct) = true then (if sd = true then tok else (wt_run ph pa en sz gc gb sc sh sl ct pn lt).1) else tok) (if decide (1 ≤ (xs (i + 1)).toInt ∧ (xs (i + 1)).toInt ≤ ct) = true then (if sd = true then wt else (wt_run ph pa en sz gc gb sc sh sl ct pn lt).2.1) else wt) (if decide (1 ≤ (xs (i + 1)).toInt ∧ (xs (i + 1)).toInt ≤ ct) = true then (if sd = true then pn else (wt_run ph pa en sz gc gb sc sh sl ct pn lt).2.2.1) else pn) (if decide (1 ≤ (xs (i + 1)).toInt ∧ (xs (i + 1)).toInt ≤ ct) = true then (if sd = true then lt else (wt_run ph pa en sz gc gb sc sh sl ct pn lt).2.2.2) else lt) (if decide (1 ≤ (xs (i + 1)).toInt ∧ (xs (i + 1)).toInt ≤ ct) = true then (if sd = true then wp else wt_ep gc gb (wt_run ph pa en sz gc gb sc sh sl ct pn lt).2.1) else wp) (if decide (1 ≤ (xs (i + 1)).toInt ∧ (xs (i + 1)).toInt ≤ ct) = true then true else sd))) (wr := (wM cI cZ cL qm kn co bo pr wd zs fp sh sl ct sc ea dn cd nx nd nc al wo wh)) (w2 := (wX cI cZ cL q ph pa ch en sz pr gc gb sc sh sl ct (if decide (1 ≤ (xs (i + 1)).toInt ∧ (xs (i + 1)).toInt ≤ ct) = true then (if sd = true then tok else (wt_run ph pa en sz gc gb sc sh sl ct pn lt).1) else tok) (if decide (1 ≤ (xs (i + 1)).toInt ∧ (xs (i + 1)).toInt ≤ ct) = true then (if sd = true then wt else (wt_run ph pa en sz gc gb sc sh sl ct pn lt).2.1) else wt) (if decide (1 ≤ (xs (i + 1)).toInt ∧ (xs (i + 1)).toInt ≤ ct) = true then (if sd = true then pn else (wt_run ph pa en sz gc gb sc sh sl ct pn lt).2.2.1) else pn) (if decide (1 ≤ (xs (i + 1)).toInt ∧ (xs (i + 1)).toInt ≤ ct) = true then (if sd = true then lt else (wt_run ph pa en sz gc gb sc sh sl ct pn lt).2.2.2) else lt) (if decide (1 ≤ (xs (i + 1)).toInt ∧ (xs (i + 1)).toInt ≤ ct) = true then (if sd = true then wp else wt_ep gc gb (wt_run ph pa en sz gc gb sc sh sl ct pn lt).2.1) else wp) (if decide (1 ≤ (xs (i + 1)).toInt ∧ (xs (i + 1)).toInt ≤ ct) = true then true else sd)) ++ (wM cI cZ cL qm kn co bo pr wd zs fp sh sl ct sc ea dn cd nx nd nc al wo wh)) (va_runV (As := [.int (xs (i + 1))]) (rest := []) ⟨hx, hb, hml, hown, ht⟩ (c_X_live l dC dI cI cZ cL q H.size ph pa ch en sz pr gc gb sc sh sl ct tok wt pn lt wp sd (xs (i + 1)) hph hpa hsz24 hct) (cwV 1 ht (good_V m_368 m_369 m_370 m_1 m_371) rfl rfl rfl (by decide +kernel) ⟨Nat.le_of_ble_eq_true rfl, Nat.le_of_ble_eq_true rfl⟩) (wt_preVw hK hN (hP.sub [0, 1, 2, 3, 4, 5, 6, 7, 8, 9, 10, 11, 12, 13, 14, 15, 16, 17] rfl) (hD.sub [0, 1, 2, 3, 4, 5, 6, 7, 8, 9, 10, 11, 12, 13, 14, 15, 16, 17] (by decide) rfl) (va_recv hK hP (ci := 0) (q0 := 0) rfl rfl)) rfl rfl hl.1 rfl (lv_room (Nat.le_of_ble_eq_true rfl)) dL_law_513 ⟨Nat.le_of_ble_eq_true rfl, Nat.le_of_ble_eq_true rfl⟩) hP hD hS hA [0, 1, 2, 3, 4, 5, 6, 7, 8, 9, 10, 11, 12, 13, 14, 15, 16, 17] [18, 19, 20, 21, 22, 23, 24, 25, 26, 27, 28, 29, 30, 31, 32, 33] rfl rfl (by decide) (by decide) [16, 17, 18, 19, 20, 21, 22, 23, 24, 25, 26, 27, 28, 29, 30, 31, 32, 33, 0, 1, 2, 3, 4, 5, 6, 7, 8, 9, 10, 11, 12, 13, 14, 15] (by decide) rfl (fun H locs hP hD hS => ?_)
    refine W.widen (k := 34) (n := 14336) (Nat.le_of_ble_eq_true rfl) (Nat.le_of_ble_eq_true rfl) ?_
    refine lv_aload_n hx hb dL_law_516 rfl (lv_at hl 2 rfl) ?_
    refine lv_aload_n hx hb dL_law_517 rfl (lv_at hl 0 rfl) ?_
    refine lv_iload_n hx hb dL_law_518 rfl (lv_at hl 3 rfl) ?_
    refine lv_iconst (v := nI 1) hx hb dL_law_519 (by decide) ?_
    refine wt_iadd hx hb dL_law_520 ?_
    refine wt_sld hx hb hX hbl hbA hS (k := i + 1) (by omega) (by omega) (v := xs (i + 1)) rfl dL_law_521 ?_
    refine wt_roi (va_runV (As := [.int (xs (i + 1))]) (rest := [.int (if decide (1 ≤ (xs (i + 1)).toInt ∧ (xs (i + 1)).toInt ≤ ct) = true then nI ((if sd = true then pn else (wt_run ph pa en sz gc gb sc sh sl ct pn lt).2.2.1) (xs (i + 1)).toNatClampNeg) else nI 0)]) ⟨hx, hb, hml, hown, ht⟩ (c_M_live_0 l dC dI cI cZ cL qm kn co bo pr wd zs fp sh sl ct sc ea dn cd nx nd nc al wo wh (xs (i + 1)) hLV hct) (cwV 1 ht (good_V m_555 m_556 m_557 m_7 m_558) rfl rfl rfl (by decide +kernel) ⟨Nat.le_of_ble_eq_true rfl, Nat.le_of_ble_eq_true rfl⟩) (wt_preV hK hN (hP.sub [18, 19, 20, 21, 22, 23, 24, 25, 26, 27, 28, 29, 30, 31, 32, 33] rfl) (va_recv hK hP (ci := 5) (q0 := 18) rfl rfl)) rfl rfl hl.1 rfl (lv_room (Nat.le_of_ble_eq_true rfl)) dL_law_522 ⟨Nat.le_of_ble_eq_true rfl, Nat.le_of_ble_eq_true rfl⟩) ?_
    refine lv_icmp_eq (tgt := 553) hx hb dL_law_525 (by decide) (fun _ => ?_) (fun hne => absurd (if_neg hLn) hne)
    have hr9 : rel ph pa ch en sz gc gb sc sh sl ct kn co bo pr wd zs fp pg := hrel
    exact K H locs ls ⟨ph, pa, ch, en, sz, pr, gc, gb, sc, sh, sl, ct, (if decide (1 ≤ (xs (i + 1)).toInt ∧ (xs (i + 1)).toInt ≤ ct) = true then (if sd = true then tok else (wt_run ph pa en sz gc gb sc sh sl ct pn lt).1) else tok), (if decide (1 ≤ (xs (i + 1)).toInt ∧ (xs (i + 1)).toInt ≤ ct) = true then (if sd = true then wt else (wt_run ph pa en sz gc gb sc sh sl ct pn lt).2.1) else wt), (if decide (1 ≤ (xs (i + 1)).toInt ∧ (xs (i + 1)).toInt ≤ ct) = true then (if sd = true then pn else (wt_run ph pa en sz gc gb sc sh sl ct pn lt).2.2.1) else pn), (if decide (1 ≤ (xs (i + 1)).toInt ∧ (xs (i + 1)).toInt ≤ ct) = true then (if sd = true then lt else (wt_run ph pa en sz gc gb sc sh sl ct pn lt).2.2.2) else lt), (if decide (1 ≤ (xs (i + 1)).toInt ∧ (xs (i + 1)).toInt ≤ ct) = true then (if sd = true then wp else wt_ep gc gb (wt_run ph pa en sz gc gb sc sh sl ct pn lt).2.1) else wp), (if decide (1 ≤ (xs (i + 1)).toInt ∧ (xs (i + 1)).toInt ≤ ct) = true then true else sd), kn, co, bo, wd, zs, fp, ea, dn, cd, nx, nd, nc, al, wo, wh, pg, hP, hD, hS, hr9, (by rw [if_neg hLn, if_neg hLn, if_neg hLn, if_neg hLn]; exact hca)⟩ hl
  | true =>
    obtain ⟨n, hn1, hn2, en9⟩ := wt_fc hLV
    rw [en9] at hLV
    refine lv_aload_n hx hb dL_law_507 rfl (lv_at hl 1 rfl) ?_
    refine lv_aload_n hx hb dL_law_508 rfl (lv_at hl 0 rfl) ?_
    refine lv_iload_n hx hb dL_law_509 rfl (lv_at hl 3 rfl) ?_
    refine lv_iconst (v := nI 1) hx hb dL_law_510 (by decide) ?_
    refine wt_iadd hx hb dL_law_511 ?_
    refine wt_sld hx hb hX hbl hbA hS (k := i + 1) (by omega) (by omega) (v := nI n) en9 dL_law_512 ?_
    refine wt_cuti (wc := (wX cI cZ cL q ph pa ch en sz pr gc gb sc sh sl ct tok wt pn lt wp sd)) (w1 := (wX cI cZ cL q ph pa ch en sz pr gc gb sc sh sl ct (if decide (1 ≤ (nI n).toInt ∧ (nI n).toInt ≤ ct) = true then (if sd = true then tok else (wt_run ph pa en sz gc gb sc sh sl ct pn lt).1) else tok) (if decide (1 ≤ (nI n).toInt ∧ (nI n).toInt ≤ ct) = true then (if sd = true then wt else (wt_run ph pa en sz gc gb sc sh sl ct pn lt).2.1) else wt) (if decide (1 ≤ (nI n).toInt ∧ (nI n).toInt ≤ ct) = true then (if sd = true then pn else (wt_run ph pa en sz gc gb sc sh sl ct pn lt).2.2.1) else pn) (if decide (1 ≤ (nI n).toInt ∧ (nI n).toInt ≤ ct) = true then (if sd = true then lt else (wt_run ph pa en sz gc gb sc sh sl ct pn lt).2.2.2) else lt) (if decide (1 ≤ (nI n).toInt ∧ (nI n).toInt ≤ ct) = true then (if sd = true then wp else wt_ep gc gb (wt_run ph pa en sz gc gb sc sh sl ct pn lt).2.1) else wp) (if decide (1 ≤ (nI n).toInt ∧ (nI n).toInt ≤ ct) = true then true else sd))) (wr := (wM cI cZ cL qm kn co bo pr wd zs fp sh sl ct sc ea dn cd nx nd nc al wo wh)) (w2 := (wX cI cZ cL q ph pa ch en sz pr gc gb sc sh sl ct (if decide (1 ≤ (nI n).toInt ∧ (nI n).toInt ≤ ct) = true then (if sd = true then tok else (wt_run ph pa en sz gc gb sc sh sl ct pn lt).1) else tok) (if decide (1 ≤ (nI n).toInt ∧ (nI n).toInt ≤ ct) = true then (if sd = true then wt else (wt_run ph pa en sz gc gb sc sh sl ct pn lt).2.1) else wt) (if decide (1 ≤ (nI n).toInt ∧ (nI n).toInt ≤ ct) = true then (if sd = true then pn else (wt_run ph pa en sz gc gb sc sh sl ct pn lt).2.2.1) else pn) (if decide (1 ≤ (nI n).toInt ∧ (nI n).toInt ≤ ct) = true then (if sd = true then lt else (wt_run ph pa en sz gc gb sc sh sl ct pn lt).2.2.2) else lt) (if decide (1 ≤ (nI n).toInt ∧ (nI n).toInt ≤ ct) = true then (if sd = true then wp else wt_ep gc gb (wt_run ph pa en sz gc gb sc sh sl ct pn lt).2.1) else wp) (if decide (1 ≤ (nI n).toInt ∧ (nI n).toInt ≤ ct) = true then true else sd)) ++ (wM cI cZ cL qm kn co bo pr wd zs fp sh sl ct sc ea dn cd nx nd nc al wo wh)) (va_runV (As := [.int (nI n)]) (rest := []) ⟨hx, hb, hml, hown, ht⟩ (c_X_live l dC dI cI cZ cL q H.size ph pa ch en sz pr gc gb sc sh sl ct tok wt pn lt wp sd (nI n) hph hpa hsz24 hct) (cwV 1 ht (good_V m_368 m_369 m_370 m_1 m_371) rfl rfl rfl (by decide +kernel) ⟨Nat.le_of_ble_eq_true rfl, Nat.le_of_ble_eq_true rfl⟩) (wt_preVw hK hN (hP.sub [0, 1, 2, 3, 4, 5, 6, 7, 8, 9, 10, 11, 12, 13, 14, 15, 16, 17] rfl) (hD.sub [0, 1, 2, 3, 4, 5, 6, 7, 8, 9, 10, 11, 12, 13, 14, 15, 16, 17] (by decide) rfl) (va_recv hK hP (ci := 0) (q0 := 0) rfl rfl)) rfl rfl hl.1 rfl (lv_room (Nat.le_of_ble_eq_true rfl)) dL_law_513 ⟨Nat.le_of_ble_eq_true rfl, Nat.le_of_ble_eq_true rfl⟩) hP hD hS hA [0, 1, 2, 3, 4, 5, 6, 7, 8, 9, 10, 11, 12, 13, 14, 15, 16, 17] [18, 19, 20, 21, 22, 23, 24, 25, 26, 27, 28, 29, 30, 31, 32, 33] rfl rfl (by decide) (by decide) [16, 17, 18, 19, 20, 21, 22, 23, 24, 25, 26, 27, 28, 29, 30, 31, 32, 33, 0, 1, 2, 3, 4, 5, 6, 7, 8, 9, 10, 11, 12, 13, 14, 15] (by decide) rfl (fun H locs hP hD hS => ?_)
    refine W.widen (k := 34) (n := 14336) (Nat.le_of_ble_eq_true rfl) (Nat.le_of_ble_eq_true rfl) ?_
    refine lv_aload_n hx hb dL_law_516 rfl (lv_at hl 2 rfl) ?_
    refine lv_aload_n hx hb dL_law_517 rfl (lv_at hl 0 rfl) ?_
    refine lv_iload_n hx hb dL_law_518 rfl (lv_at hl 3 rfl) ?_
    refine lv_iconst (v := nI 1) hx hb dL_law_519 (by decide) ?_
    refine wt_iadd hx hb dL_law_520 ?_
    refine wt_sld hx hb hX hbl hbA hS (k := i + 1) (by omega) (by omega) (v := nI n) en9 dL_law_521 ?_
    refine wt_cuti (wc := (wM cI cZ cL qm kn co bo pr wd zs fp sh sl ct sc ea dn cd nx nd nc al wo wh)) (w1 := (wM cI cZ cL qm kn co bo pr wd zs fp sh sl ct sc ((wt_mrun pg wd zs pr kn co bo sh sl sc n nd nc).1) ((wt_mrun pg wd zs pr kn co bo sh sl sc n nd nc).2.1) ((wt_mrun pg wd zs pr kn co bo sh sl sc n nd nc).2.2) ((wt_mrun pg wd zs pr kn co bo sh sl sc n nd nc).1) ((wt_mrun pg wd zs pr kn co bo sh sl sc n nd nc).2.1) ((wt_mrun pg wd zs pr kn co bo sh sl sc n nd nc).2.2) al wo wh)) (wr := (wX cI cZ cL q ph pa ch en sz pr gc gb sc sh sl ct (if decide (1 ≤ (nI n).toInt ∧ (nI n).toInt ≤ ct) = true then (if sd = true then tok else (wt_run ph pa en sz gc gb sc sh sl ct pn lt).1) else tok) (if decide (1 ≤ (nI n).toInt ∧ (nI n).toInt ≤ ct) = true then (if sd = true then wt else (wt_run ph pa en sz gc gb sc sh sl ct pn lt).2.1) else wt) (if decide (1 ≤ (nI n).toInt ∧ (nI n).toInt ≤ ct) = true then (if sd = true then pn else (wt_run ph pa en sz gc gb sc sh sl ct pn lt).2.2.1) else pn) (if decide (1 ≤ (nI n).toInt ∧ (nI n).toInt ≤ ct) = true then (if sd = true then lt else (wt_run ph pa en sz gc gb sc sh sl ct pn lt).2.2.2) else lt) (if decide (1 ≤ (nI n).toInt ∧ (nI n).toInt ≤ ct) = true then (if sd = true then wp else wt_ep gc gb (wt_run ph pa en sz gc gb sc sh sl ct pn lt).2.1) else wp) (if decide (1 ≤ (nI n).toInt ∧ (nI n).toInt ≤ ct) = true then true else sd))) (w2 := (wX cI cZ cL q ph pa ch en sz pr gc gb sc sh sl ct (if decide (1 ≤ (nI n).toInt ∧ (nI n).toInt ≤ ct) = true then (if sd = true then tok else (wt_run ph pa en sz gc gb sc sh sl ct pn lt).1) else tok) (if decide (1 ≤ (nI n).toInt ∧ (nI n).toInt ≤ ct) = true then (if sd = true then wt else (wt_run ph pa en sz gc gb sc sh sl ct pn lt).2.1) else wt) (if decide (1 ≤ (nI n).toInt ∧ (nI n).toInt ≤ ct) = true then (if sd = true then pn else (wt_run ph pa en sz gc gb sc sh sl ct pn lt).2.2.1) else pn) (if decide (1 ≤ (nI n).toInt ∧ (nI n).toInt ≤ ct) = true then (if sd = true then lt else (wt_run ph pa en sz gc gb sc sh sl ct pn lt).2.2.2) else lt) (if decide (1 ≤ (nI n).toInt ∧ (nI n).toInt ≤ ct) = true then (if sd = true then wp else wt_ep gc gb (wt_run ph pa en sz gc gb sc sh sl ct pn lt).2.1) else wp) (if decide (1 ≤ (nI n).toInt ∧ (nI n).toInt ≤ ct) = true then true else sd)) ++ (wM cI cZ cL qm kn co bo pr wd zs fp sh sl ct sc ((wt_mrun pg wd zs pr kn co bo sh sl sc n nd nc).1) ((wt_mrun pg wd zs pr kn co bo sh sl sc n nd nc).2.1) ((wt_mrun pg wd zs pr kn co bo sh sl sc n nd nc).2.2) ((wt_mrun pg wd zs pr kn co bo sh sl sc n nd nc).1) ((wt_mrun pg wd zs pr kn co bo sh sl sc n nd nc).2.1) ((wt_mrun pg wd zs pr kn co bo sh sl sc n nd nc).2.2) al wo wh)) (va_runV (As := [.int (nI n)]) (rest := [.int (if decide (1 ≤ (nI n).toInt ∧ (nI n).toInt ≤ ct) = true then nI ((if sd = true then pn else (wt_run ph pa en sz gc gb sc sh sl ct pn lt).2.2.1) (nI n).toNatClampNeg) else nI 0)]) ⟨hx, hb, hml, hown, ht⟩ (c_M_live_1 l dC dI cI cZ cL qm H.size kn co bo pr wd zs fp sh sl ct sc ea dn cd nx nd nc al wo wh pg n hn1 hn2 hct hm8 hzs hwd hz1 hfp) (cwV 1 ht (good_V m_555 m_556 m_557 m_7 m_558) rfl rfl rfl (by decide +kernel) ⟨Nat.le_of_ble_eq_true rfl, Nat.le_of_ble_eq_true rfl⟩) (wt_preVw hK hN (hP.sub [18, 19, 20, 21, 22, 23, 24, 25, 26, 27, 28, 29, 30, 31, 32, 33] rfl) (hD.sub [18, 19, 20, 21, 22, 23, 24, 25, 26, 27, 28, 29, 30, 31, 32, 33] (by decide) rfl) (va_recv hK hP (ci := 5) (q0 := 18) rfl rfl)) rfl rfl hl.1 rfl (lv_room (Nat.le_of_ble_eq_true rfl)) dL_law_522 ⟨Nat.le_of_ble_eq_true rfl, Nat.le_of_ble_eq_true rfl⟩) hP hD hS hA [18, 19, 20, 21, 22, 23, 24, 25, 26, 27, 28, 29, 30, 31, 32, 33] [0, 1, 2, 3, 4, 5, 6, 7, 8, 9, 10, 11, 12, 13, 14, 15, 16, 17] rfl rfl (by decide) (by decide) [0, 1, 2, 3, 4, 5, 6, 7, 8, 9, 10, 11, 12, 13, 14, 15, 16, 17, 18, 19, 20, 21, 22, 23, 24, 25, 26, 27, 28, 29, 30, 31, 32, 33] (by decide) rfl (fun H locs hP hD hS => ?_)
    refine W.widen (k := 34) (n := 14336) (Nat.le_of_ble_eq_true rfl) (Nat.le_of_ble_eq_true rfl) ?_
    refine lv_icmp_eq (tgt := 553) hx hb dL_law_525 (by decide) (fun _ => ?_) (fun hne => absurd ((if_pos hLV).trans (by rw [nI_clamp (by omega), (hc9.1 n hn1 hn2).1]; exact congrArg nI (live_q hrel hn1 hn2 nd nc))) hne)
    have hr9 : rel ph pa ch en sz gc gb sc sh sl ct kn co bo pr wd zs fp pg := hrel
    exact K H locs ls ⟨ph, pa, ch, en, sz, pr, gc, gb, sc, sh, sl, ct, (if decide (1 ≤ (nI n).toInt ∧ (nI n).toInt ≤ ct) = true then (if sd = true then tok else (wt_run ph pa en sz gc gb sc sh sl ct pn lt).1) else tok), (if decide (1 ≤ (nI n).toInt ∧ (nI n).toInt ≤ ct) = true then (if sd = true then wt else (wt_run ph pa en sz gc gb sc sh sl ct pn lt).2.1) else wt), (if decide (1 ≤ (nI n).toInt ∧ (nI n).toInt ≤ ct) = true then (if sd = true then pn else (wt_run ph pa en sz gc gb sc sh sl ct pn lt).2.2.1) else pn), (if decide (1 ≤ (nI n).toInt ∧ (nI n).toInt ≤ ct) = true then (if sd = true then lt else (wt_run ph pa en sz gc gb sc sh sl ct pn lt).2.2.2) else lt), (if decide (1 ≤ (nI n).toInt ∧ (nI n).toInt ≤ ct) = true then (if sd = true then wp else wt_ep gc gb (wt_run ph pa en sz gc gb sc sh sl ct pn lt).2.1) else wp), (if decide (1 ≤ (nI n).toInt ∧ (nI n).toInt ≤ ct) = true then true else sd), kn, co, bo, wd, zs, fp, ((wt_mrun pg wd zs pr kn co bo sh sl sc n nd nc).1), ((wt_mrun pg wd zs pr kn co bo sh sl sc n nd nc).2.1), ((wt_mrun pg wd zs pr kn co bo sh sl sc n nd nc).2.2), ((wt_mrun pg wd zs pr kn co bo sh sl sc n nd nc).1), ((wt_mrun pg wd zs pr kn co bo sh sl sc n nd nc).2.1), ((wt_mrun pg wd zs pr kn co bo sh sl sc n nd nc).2.2), al, wo, wh, pg, hP, hD, hS, hr9, (by rw [if_pos hLV, if_pos hLV, if_pos hLV, if_pos hLV]; exact fun _ => hc9)⟩ hl

set_option maxHeartbeats 4000000 in
set_option maxRecDepth 100000 in
theorem law_best {p : Program} {l : Launch} {e : Env} {s : State} {m : MethodId} {below : List Frame} {meth : Method} {c : Code} {dC : Nat → ClassId} {dI : Nat → Nat → Nat} {cI cZ cL : ClassId} {b L : Nat} {xs : Nat → Int32} {q qm : Nat → Nat} (hL : L ≤ 3072) (C0 : lw_At p s m meth c b L xs) (hK : va_K (dC, dI) vwCl [(cI, .int), (cZ, .boolean), (cL, .long)] s) (hN : wt_nest s) {i : Nat} (hi : i + 6 ≤ L) (K : ∀ (H : Heap) (locs : List Loc) (ls : Array Slot), wtInv s dC dI cI cZ cL q qm H locs → lv_has ls 4 [(0, .ref b), (1, .ref (q 0)), (2, .ref (qm 0)), (3, .int (nI i))] → W p l e room_1 s m #[Value.ref b] below meth c H locs 34 14336 (lw_Z below #[Value.ref b] s) (F0 m 553 ls [])) : ∀ (H : Heap) (locs : List Loc) (ls : Array Slot), wtInv s dC dI cI cZ cL q qm H locs → lv_has ls 4 [(0, .ref b), (1, .ref (q 0)), (2, .ref (qm 0)), (3, .int (nI i))] → W p l e room_1 s m #[Value.ref b] below meth c H locs 34 14336 (lw_Z below #[Value.ref b] s) (F0 m 530 ls []) := by
  obtain ⟨hx, hb, hr, hml, hown0, hts, hX, hbl, hlocks, hgv⟩ := id C0
  have hown : s.vm.findClass RL = some m.cls := hown0
  have ht : ∀ w ∈ tb, w.before _ s = true := fun w h => hts w (tb_in w h)
  have hA : ∀ a : Nat, s.heap.size ≤ a → (fun a : Nat => s.heap.size ≤ a) a := fun _ h => h
  have hbA : ¬ (fun a : Nat => s.heap.size ≤ a) b := Nat.not_le.mpr hbl
  intro H locs ls hv hl
  obtain ⟨ph, pa, ch, en, sz, pr, gc, gb, sc, sh, sl, ct, tok, wt, pn, lt, wp, sd, kn, co, bo, wd, zs, fp, ea, dn, cd, nx, nd, nc, al, wo, wh, pg, hP, hD, hS, hrel, hca⟩ := hv
  have hrel' := hrel
  obtain ⟨⟨hm8, hzw, htr, hsz24, hen, hgr, hscr, hshr, hslr⟩, hct, hs3, hts0, hzs, hwd, hph, hpa, hch, hfp, hen0⟩ := hrel'
  have hz1 : ∀ k, k < pr → 1 ≤ zs k := fun k hk => (hzw k hk).1
  have hc9 := cache_run hca
  cases hLV : decide (1 ≤ (xs (i + 1)).toInt ∧ (xs (i + 1)).toInt ≤ ct) with
  | false =>
    have hLn : ¬ decide (1 ≤ (xs (i + 1)).toInt ∧ (xs (i + 1)).toInt ≤ ct) = true := by rw [hLV]; decide
    refine lv_aload_n hx hb dL_law_530 rfl (lv_at hl 1 rfl) ?_
    refine lv_aload_n hx hb dL_law_531 rfl (lv_at hl 0 rfl) ?_
    refine lv_iload_n hx hb dL_law_532 rfl (lv_at hl 3 rfl) ?_
    refine lv_iconst (v := nI 1) hx hb dL_law_533 (by decide) ?_
    refine wt_iadd hx hb dL_law_534 ?_
    refine wt_sld hx hb hX hbl hbA hS (k := i + 1) (by omega) (by omega) (v := xs (i + 1)) rfl dL_law_535 ?_
    refine wt_cuti (wc := (wX cI cZ cL q ph pa ch en sz pr gc gb sc sh sl ct tok wt pn lt wp sd)) (w1 := (wX cI cZ cL q ph pa ch en sz pr gc gb sc sh sl ct (if decide (1 ≤ (xs (i + 1)).toInt ∧ (xs (i + 1)).toInt ≤ ct) = true then (if sd = true then tok else (wt_run ph pa en sz gc gb sc sh sl ct pn lt).1) else tok) (if decide (1 ≤ (xs (i + 1)).toInt ∧ (xs (i + 1)).toInt ≤ ct) = true then (if sd = true then wt else (wt_run ph pa en sz gc gb sc sh sl ct pn lt).2.1) else wt) (if decide (1 ≤ (xs (i + 1)).toInt ∧ (xs (i + 1)).toInt ≤ ct) = true then (if sd = true then pn else (wt_run ph pa en sz gc gb sc sh sl ct pn lt).2.2.1) else pn) (if decide (1 ≤ (xs (i + 1)).toInt ∧ (xs (i + 1)).toInt ≤ ct) = true then (if sd = true then lt else (wt_run ph pa en sz gc gb sc sh sl ct pn lt).2.2.2) else lt) (if decide (1 ≤ (xs (i + 1)).toInt ∧ (xs (i + 1)).toInt ≤ ct) = true then (if sd = true then wp else wt_ep gc gb (wt_run ph pa en sz gc gb sc sh sl ct pn lt).2.1) else wp) (if decide (1 ≤ (xs (i + 1)).toInt ∧ (xs (i + 1)).toInt ≤ ct) = true then true else sd))) (wr := (wM cI cZ cL qm kn co bo pr wd zs fp sh sl ct sc ea dn cd nx nd nc al wo wh)) (w2 := (wX cI cZ cL q ph pa ch en sz pr gc gb sc sh sl ct (if decide (1 ≤ (xs (i + 1)).toInt ∧ (xs (i + 1)).toInt ≤ ct) = true then (if sd = true then tok else (wt_run ph pa en sz gc gb sc sh sl ct pn lt).1) else tok) (if decide (1 ≤ (xs (i + 1)).toInt ∧ (xs (i + 1)).toInt ≤ ct) = true then (if sd = true then wt else (wt_run ph pa en sz gc gb sc sh sl ct pn lt).2.1) else wt) (if decide (1 ≤ (xs (i + 1)).toInt ∧ (xs (i + 1)).toInt ≤ ct) = true then (if sd = true then pn else (wt_run ph pa en sz gc gb sc sh sl ct pn lt).2.2.1) else pn) (if decide (1 ≤ (xs (i + 1)).toInt ∧ (xs (i + 1)).toInt ≤ ct) = true then (if sd = true then lt else (wt_run ph pa en sz gc gb sc sh sl ct pn lt).2.2.2) else lt) (if decide (1 ≤ (xs (i + 1)).toInt ∧ (xs (i + 1)).toInt ≤ ct) = true then (if sd = true then wp else wt_ep gc gb (wt_run ph pa en sz gc gb sc sh sl ct pn lt).2.1) else wp) (if decide (1 ≤ (xs (i + 1)).toInt ∧ (xs (i + 1)).toInt ≤ ct) = true then true else sd)) ++ (wM cI cZ cL qm kn co bo pr wd zs fp sh sl ct sc ea dn cd nx nd nc al wo wh)) (va_runV (As := [.int (xs (i + 1))]) (rest := []) ⟨hx, hb, hml, hown, ht⟩ (c_X_best l dC dI cI cZ cL q H.size ph pa ch en sz pr gc gb sc sh sl ct tok wt pn lt wp sd (xs (i + 1)) hph hpa hsz24 hct) (cwV 1 ht (good_V m_380 m_381 m_382 m_1 m_383) rfl rfl rfl (by decide +kernel) ⟨Nat.le_of_ble_eq_true rfl, Nat.le_of_ble_eq_true rfl⟩) (wt_preVw hK hN (hP.sub [0, 1, 2, 3, 4, 5, 6, 7, 8, 9, 10, 11, 12, 13, 14, 15, 16, 17] rfl) (hD.sub [0, 1, 2, 3, 4, 5, 6, 7, 8, 9, 10, 11, 12, 13, 14, 15, 16, 17] (by decide) rfl) (va_recv hK hP (ci := 0) (q0 := 0) rfl rfl)) rfl rfl hl.1 rfl (lv_room (Nat.le_of_ble_eq_true rfl)) dL_law_536 ⟨Nat.le_of_ble_eq_true rfl, Nat.le_of_ble_eq_true rfl⟩) hP hD hS hA [0, 1, 2, 3, 4, 5, 6, 7, 8, 9, 10, 11, 12, 13, 14, 15, 16, 17] [18, 19, 20, 21, 22, 23, 24, 25, 26, 27, 28, 29, 30, 31, 32, 33] rfl rfl (by decide) (by decide) [16, 17, 18, 19, 20, 21, 22, 23, 24, 25, 26, 27, 28, 29, 30, 31, 32, 33, 0, 1, 2, 3, 4, 5, 6, 7, 8, 9, 10, 11, 12, 13, 14, 15] (by decide) rfl (fun H locs hP hD hS => ?_)
    refine W.widen (k := 34) (n := 14336) (Nat.le_of_ble_eq_true rfl) (Nat.le_of_ble_eq_true rfl) ?_
    refine lv_aload_n hx hb dL_law_539 rfl (lv_at hl 2 rfl) ?_
    refine lv_aload_n hx hb dL_law_540 rfl (lv_at hl 0 rfl) ?_
    refine lv_iload_n hx hb dL_law_541 rfl (lv_at hl 3 rfl) ?_
    refine lv_iconst (v := nI 1) hx hb dL_law_542 (by decide) ?_
    refine wt_iadd hx hb dL_law_543 ?_
    refine wt_sld hx hb hX hbl hbA hS (k := i + 1) (by omega) (by omega) (v := xs (i + 1)) rfl dL_law_544 ?_
    refine wt_roi (va_runV (As := [.int (xs (i + 1))]) (rest := [.int (if decide (1 ≤ (xs (i + 1)).toInt ∧ (xs (i + 1)).toInt ≤ ct) = true then wt_tc ((if sd = true then lt else (wt_run ph pa en sz gc gb sc sh sl ct pn lt).2.2.2) (xs (i + 1)).toNatClampNeg) else -1)]) ⟨hx, hb, hml, hown, ht⟩ (c_M_best_0 l dC dI cI cZ cL qm kn co bo pr wd zs fp sh sl ct sc ea dn cd nx nd nc al wo wh (xs (i + 1)) hLV hct) (cwV 1 ht (good_V m_559 m_560 m_561 m_7 m_562) rfl rfl rfl (by decide +kernel) ⟨Nat.le_of_ble_eq_true rfl, Nat.le_of_ble_eq_true rfl⟩) (wt_preV hK hN (hP.sub [18, 19, 20, 21, 22, 23, 24, 25, 26, 27, 28, 29, 30, 31, 32, 33] rfl) (va_recv hK hP (ci := 5) (q0 := 18) rfl rfl)) rfl rfl hl.1 rfl (lv_room (Nat.le_of_ble_eq_true rfl)) dL_law_545 ⟨Nat.le_of_ble_eq_true rfl, Nat.le_of_ble_eq_true rfl⟩) ?_
    refine lv_icmp_eq (tgt := 553) hx hb dL_law_548 (by decide) (fun _ => ?_) (fun hne => absurd (if_neg hLn) hne)
    have hr9 : rel ph pa ch en sz gc gb sc sh sl ct kn co bo pr wd zs fp pg := hrel
    exact K H locs ls ⟨ph, pa, ch, en, sz, pr, gc, gb, sc, sh, sl, ct, (if decide (1 ≤ (xs (i + 1)).toInt ∧ (xs (i + 1)).toInt ≤ ct) = true then (if sd = true then tok else (wt_run ph pa en sz gc gb sc sh sl ct pn lt).1) else tok), (if decide (1 ≤ (xs (i + 1)).toInt ∧ (xs (i + 1)).toInt ≤ ct) = true then (if sd = true then wt else (wt_run ph pa en sz gc gb sc sh sl ct pn lt).2.1) else wt), (if decide (1 ≤ (xs (i + 1)).toInt ∧ (xs (i + 1)).toInt ≤ ct) = true then (if sd = true then pn else (wt_run ph pa en sz gc gb sc sh sl ct pn lt).2.2.1) else pn), (if decide (1 ≤ (xs (i + 1)).toInt ∧ (xs (i + 1)).toInt ≤ ct) = true then (if sd = true then lt else (wt_run ph pa en sz gc gb sc sh sl ct pn lt).2.2.2) else lt), (if decide (1 ≤ (xs (i + 1)).toInt ∧ (xs (i + 1)).toInt ≤ ct) = true then (if sd = true then wp else wt_ep gc gb (wt_run ph pa en sz gc gb sc sh sl ct pn lt).2.1) else wp), (if decide (1 ≤ (xs (i + 1)).toInt ∧ (xs (i + 1)).toInt ≤ ct) = true then true else sd), kn, co, bo, wd, zs, fp, ea, dn, cd, nx, nd, nc, al, wo, wh, pg, hP, hD, hS, hr9, (by rw [if_neg hLn, if_neg hLn, if_neg hLn, if_neg hLn]; exact hca)⟩ hl
  | true =>
    obtain ⟨n, hn1, hn2, en9⟩ := wt_fc hLV
    rw [en9] at hLV
    refine lv_aload_n hx hb dL_law_530 rfl (lv_at hl 1 rfl) ?_
    refine lv_aload_n hx hb dL_law_531 rfl (lv_at hl 0 rfl) ?_
    refine lv_iload_n hx hb dL_law_532 rfl (lv_at hl 3 rfl) ?_
    refine lv_iconst (v := nI 1) hx hb dL_law_533 (by decide) ?_
    refine wt_iadd hx hb dL_law_534 ?_
    refine wt_sld hx hb hX hbl hbA hS (k := i + 1) (by omega) (by omega) (v := nI n) en9 dL_law_535 ?_
    refine wt_cuti (wc := (wX cI cZ cL q ph pa ch en sz pr gc gb sc sh sl ct tok wt pn lt wp sd)) (w1 := (wX cI cZ cL q ph pa ch en sz pr gc gb sc sh sl ct (if decide (1 ≤ (nI n).toInt ∧ (nI n).toInt ≤ ct) = true then (if sd = true then tok else (wt_run ph pa en sz gc gb sc sh sl ct pn lt).1) else tok) (if decide (1 ≤ (nI n).toInt ∧ (nI n).toInt ≤ ct) = true then (if sd = true then wt else (wt_run ph pa en sz gc gb sc sh sl ct pn lt).2.1) else wt) (if decide (1 ≤ (nI n).toInt ∧ (nI n).toInt ≤ ct) = true then (if sd = true then pn else (wt_run ph pa en sz gc gb sc sh sl ct pn lt).2.2.1) else pn) (if decide (1 ≤ (nI n).toInt ∧ (nI n).toInt ≤ ct) = true then (if sd = true then lt else (wt_run ph pa en sz gc gb sc sh sl ct pn lt).2.2.2) else lt) (if decide (1 ≤ (nI n).toInt ∧ (nI n).toInt ≤ ct) = true then (if sd = true then wp else wt_ep gc gb (wt_run ph pa en sz gc gb sc sh sl ct pn lt).2.1) else wp) (if decide (1 ≤ (nI n).toInt ∧ (nI n).toInt ≤ ct) = true then true else sd))) (wr := (wM cI cZ cL qm kn co bo pr wd zs fp sh sl ct sc ea dn cd nx nd nc al wo wh)) (w2 := (wX cI cZ cL q ph pa ch en sz pr gc gb sc sh sl ct (if decide (1 ≤ (nI n).toInt ∧ (nI n).toInt ≤ ct) = true then (if sd = true then tok else (wt_run ph pa en sz gc gb sc sh sl ct pn lt).1) else tok) (if decide (1 ≤ (nI n).toInt ∧ (nI n).toInt ≤ ct) = true then (if sd = true then wt else (wt_run ph pa en sz gc gb sc sh sl ct pn lt).2.1) else wt) (if decide (1 ≤ (nI n).toInt ∧ (nI n).toInt ≤ ct) = true then (if sd = true then pn else (wt_run ph pa en sz gc gb sc sh sl ct pn lt).2.2.1) else pn) (if decide (1 ≤ (nI n).toInt ∧ (nI n).toInt ≤ ct) = true then (if sd = true then lt else (wt_run ph pa en sz gc gb sc sh sl ct pn lt).2.2.2) else lt) (if decide (1 ≤ (nI n).toInt ∧ (nI n).toInt ≤ ct) = true then (if sd = true then wp else wt_ep gc gb (wt_run ph pa en sz gc gb sc sh sl ct pn lt).2.1) else wp) (if decide (1 ≤ (nI n).toInt ∧ (nI n).toInt ≤ ct) = true then true else sd)) ++ (wM cI cZ cL qm kn co bo pr wd zs fp sh sl ct sc ea dn cd nx nd nc al wo wh)) (va_runV (As := [.int (nI n)]) (rest := []) ⟨hx, hb, hml, hown, ht⟩ (c_X_best l dC dI cI cZ cL q H.size ph pa ch en sz pr gc gb sc sh sl ct tok wt pn lt wp sd (nI n) hph hpa hsz24 hct) (cwV 1 ht (good_V m_380 m_381 m_382 m_1 m_383) rfl rfl rfl (by decide +kernel) ⟨Nat.le_of_ble_eq_true rfl, Nat.le_of_ble_eq_true rfl⟩) (wt_preVw hK hN (hP.sub [0, 1, 2, 3, 4, 5, 6, 7, 8, 9, 10, 11, 12, 13, 14, 15, 16, 17] rfl) (hD.sub [0, 1, 2, 3, 4, 5, 6, 7, 8, 9, 10, 11, 12, 13, 14, 15, 16, 17] (by decide) rfl) (va_recv hK hP (ci := 0) (q0 := 0) rfl rfl)) rfl rfl hl.1 rfl (lv_room (Nat.le_of_ble_eq_true rfl)) dL_law_536 ⟨Nat.le_of_ble_eq_true rfl, Nat.le_of_ble_eq_true rfl⟩) hP hD hS hA [0, 1, 2, 3, 4, 5, 6, 7, 8, 9, 10, 11, 12, 13, 14, 15, 16, 17] [18, 19, 20, 21, 22, 23, 24, 25, 26, 27, 28, 29, 30, 31, 32, 33] rfl rfl (by decide) (by decide) [16, 17, 18, 19, 20, 21, 22, 23, 24, 25, 26, 27, 28, 29, 30, 31, 32, 33, 0, 1, 2, 3, 4, 5, 6, 7, 8, 9, 10, 11, 12, 13, 14, 15] (by decide) rfl (fun H locs hP hD hS => ?_)
    refine W.widen (k := 34) (n := 14336) (Nat.le_of_ble_eq_true rfl) (Nat.le_of_ble_eq_true rfl) ?_
    refine lv_aload_n hx hb dL_law_539 rfl (lv_at hl 2 rfl) ?_
    refine lv_aload_n hx hb dL_law_540 rfl (lv_at hl 0 rfl) ?_
    refine lv_iload_n hx hb dL_law_541 rfl (lv_at hl 3 rfl) ?_
    refine lv_iconst (v := nI 1) hx hb dL_law_542 (by decide) ?_
    refine wt_iadd hx hb dL_law_543 ?_
    refine wt_sld hx hb hX hbl hbA hS (k := i + 1) (by omega) (by omega) (v := nI n) en9 dL_law_544 ?_
    refine wt_cuti (wc := (wM cI cZ cL qm kn co bo pr wd zs fp sh sl ct sc ea dn cd nx nd nc al wo wh)) (w1 := (wM cI cZ cL qm kn co bo pr wd zs fp sh sl ct sc ((wt_mrun pg wd zs pr kn co bo sh sl sc n nd nc).1) ((wt_mrun pg wd zs pr kn co bo sh sl sc n nd nc).2.1) ((wt_mrun pg wd zs pr kn co bo sh sl sc n nd nc).2.2) ((wt_mrun pg wd zs pr kn co bo sh sl sc n nd nc).1) ((wt_mrun pg wd zs pr kn co bo sh sl sc n nd nc).2.1) ((wt_mrun pg wd zs pr kn co bo sh sl sc n nd nc).2.2) al wo wh)) (wr := (wX cI cZ cL q ph pa ch en sz pr gc gb sc sh sl ct (if decide (1 ≤ (nI n).toInt ∧ (nI n).toInt ≤ ct) = true then (if sd = true then tok else (wt_run ph pa en sz gc gb sc sh sl ct pn lt).1) else tok) (if decide (1 ≤ (nI n).toInt ∧ (nI n).toInt ≤ ct) = true then (if sd = true then wt else (wt_run ph pa en sz gc gb sc sh sl ct pn lt).2.1) else wt) (if decide (1 ≤ (nI n).toInt ∧ (nI n).toInt ≤ ct) = true then (if sd = true then pn else (wt_run ph pa en sz gc gb sc sh sl ct pn lt).2.2.1) else pn) (if decide (1 ≤ (nI n).toInt ∧ (nI n).toInt ≤ ct) = true then (if sd = true then lt else (wt_run ph pa en sz gc gb sc sh sl ct pn lt).2.2.2) else lt) (if decide (1 ≤ (nI n).toInt ∧ (nI n).toInt ≤ ct) = true then (if sd = true then wp else wt_ep gc gb (wt_run ph pa en sz gc gb sc sh sl ct pn lt).2.1) else wp) (if decide (1 ≤ (nI n).toInt ∧ (nI n).toInt ≤ ct) = true then true else sd))) (w2 := (wX cI cZ cL q ph pa ch en sz pr gc gb sc sh sl ct (if decide (1 ≤ (nI n).toInt ∧ (nI n).toInt ≤ ct) = true then (if sd = true then tok else (wt_run ph pa en sz gc gb sc sh sl ct pn lt).1) else tok) (if decide (1 ≤ (nI n).toInt ∧ (nI n).toInt ≤ ct) = true then (if sd = true then wt else (wt_run ph pa en sz gc gb sc sh sl ct pn lt).2.1) else wt) (if decide (1 ≤ (nI n).toInt ∧ (nI n).toInt ≤ ct) = true then (if sd = true then pn else (wt_run ph pa en sz gc gb sc sh sl ct pn lt).2.2.1) else pn) (if decide (1 ≤ (nI n).toInt ∧ (nI n).toInt ≤ ct) = true then (if sd = true then lt else (wt_run ph pa en sz gc gb sc sh sl ct pn lt).2.2.2) else lt) (if decide (1 ≤ (nI n).toInt ∧ (nI n).toInt ≤ ct) = true then (if sd = true then wp else wt_ep gc gb (wt_run ph pa en sz gc gb sc sh sl ct pn lt).2.1) else wp) (if decide (1 ≤ (nI n).toInt ∧ (nI n).toInt ≤ ct) = true then true else sd)) ++ (wM cI cZ cL qm kn co bo pr wd zs fp sh sl ct sc ((wt_mrun pg wd zs pr kn co bo sh sl sc n nd nc).1) ((wt_mrun pg wd zs pr kn co bo sh sl sc n nd nc).2.1) ((wt_mrun pg wd zs pr kn co bo sh sl sc n nd nc).2.2) ((wt_mrun pg wd zs pr kn co bo sh sl sc n nd nc).1) ((wt_mrun pg wd zs pr kn co bo sh sl sc n nd nc).2.1) ((wt_mrun pg wd zs pr kn co bo sh sl sc n nd nc).2.2) al wo wh)) (va_runV (As := [.int (nI n)]) (rest := [.int (if decide (1 ≤ (nI n).toInt ∧ (nI n).toInt ≤ ct) = true then wt_tc ((if sd = true then lt else (wt_run ph pa en sz gc gb sc sh sl ct pn lt).2.2.2) (nI n).toNatClampNeg) else -1)]) ⟨hx, hb, hml, hown, ht⟩ (c_M_best_1 l dC dI cI cZ cL qm H.size kn co bo pr wd zs fp sh sl ct sc ea dn cd nx nd nc al wo wh pg n hn1 hn2 hct hm8 hzs hwd hz1 hfp) (cwV 1 ht (good_V m_559 m_560 m_561 m_7 m_562) rfl rfl rfl (by decide +kernel) ⟨Nat.le_of_ble_eq_true rfl, Nat.le_of_ble_eq_true rfl⟩) (wt_preVw hK hN (hP.sub [18, 19, 20, 21, 22, 23, 24, 25, 26, 27, 28, 29, 30, 31, 32, 33] rfl) (hD.sub [18, 19, 20, 21, 22, 23, 24, 25, 26, 27, 28, 29, 30, 31, 32, 33] (by decide) rfl) (va_recv hK hP (ci := 5) (q0 := 18) rfl rfl)) rfl rfl hl.1 rfl (lv_room (Nat.le_of_ble_eq_true rfl)) dL_law_545 ⟨Nat.le_of_ble_eq_true rfl, Nat.le_of_ble_eq_true rfl⟩) hP hD hS hA [18, 19, 20, 21, 22, 23, 24, 25, 26, 27, 28, 29, 30, 31, 32, 33] [0, 1, 2, 3, 4, 5, 6, 7, 8, 9, 10, 11, 12, 13, 14, 15, 16, 17] rfl rfl (by decide) (by decide) [0, 1, 2, 3, 4, 5, 6, 7, 8, 9, 10, 11, 12, 13, 14, 15, 16, 17, 18, 19, 20, 21, 22, 23, 24, 25, 26, 27, 28, 29, 30, 31, 32, 33] (by decide) rfl (fun H locs hP hD hS => ?_)
    refine W.widen (k := 34) (n := 14336) (Nat.le_of_ble_eq_true rfl) (Nat.le_of_ble_eq_true rfl) ?_
    refine lv_icmp_eq (tgt := 553) hx hb dL_law_548 (by decide) (fun _ => ?_) (fun hne => absurd ((if_pos hLV).trans (by rw [nI_clamp (by omega), (hc9.1 n hn1 hn2).2]; exact best_q hrel hn1 hn2 nd nc)) hne)
    have hr9 : rel ph pa ch en sz gc gb sc sh sl ct kn co bo pr wd zs fp pg := hrel
    exact K H locs ls ⟨ph, pa, ch, en, sz, pr, gc, gb, sc, sh, sl, ct, (if decide (1 ≤ (nI n).toInt ∧ (nI n).toInt ≤ ct) = true then (if sd = true then tok else (wt_run ph pa en sz gc gb sc sh sl ct pn lt).1) else tok), (if decide (1 ≤ (nI n).toInt ∧ (nI n).toInt ≤ ct) = true then (if sd = true then wt else (wt_run ph pa en sz gc gb sc sh sl ct pn lt).2.1) else wt), (if decide (1 ≤ (nI n).toInt ∧ (nI n).toInt ≤ ct) = true then (if sd = true then pn else (wt_run ph pa en sz gc gb sc sh sl ct pn lt).2.2.1) else pn), (if decide (1 ≤ (nI n).toInt ∧ (nI n).toInt ≤ ct) = true then (if sd = true then lt else (wt_run ph pa en sz gc gb sc sh sl ct pn lt).2.2.2) else lt), (if decide (1 ≤ (nI n).toInt ∧ (nI n).toInt ≤ ct) = true then (if sd = true then wp else wt_ep gc gb (wt_run ph pa en sz gc gb sc sh sl ct pn lt).2.1) else wp), (if decide (1 ≤ (nI n).toInt ∧ (nI n).toInt ≤ ct) = true then true else sd), kn, co, bo, wd, zs, fp, ((wt_mrun pg wd zs pr kn co bo sh sl sc n nd nc).1), ((wt_mrun pg wd zs pr kn co bo sh sl sc n nd nc).2.1), ((wt_mrun pg wd zs pr kn co bo sh sl sc n nd nc).2.2), ((wt_mrun pg wd zs pr kn co bo sh sl sc n nd nc).1), ((wt_mrun pg wd zs pr kn co bo sh sl sc n nd nc).2.1), ((wt_mrun pg wd zs pr kn co bo sh sl sc n nd nc).2.2), al, wo, wh, pg, hP, hD, hS, hr9, (by rw [if_pos hLV, if_pos hLV, if_pos hLV, if_pos hLV]; exact fun _ => hc9)⟩ hl

set_option maxHeartbeats 4000000 in
set_option maxRecDepth 100000 in
theorem law_say {p : Program} {l : Launch} {e : Env} {s : State} {m : MethodId} {below : List Frame} {meth : Method} {c : Code} {dC : Nat → ClassId} {dI : Nat → Nat → Nat} {cI cZ cL : ClassId} {b L : Nat} {xs : Nat → Int32} {q qm : Nat → Nat} (hL : L ≤ 3072) (C0 : lw_At p s m meth c b L xs) (hK : va_K (dC, dI) vwCl [(cI, .int), (cZ, .boolean), (cL, .long)] s) (hN : wt_nest s) {i : Nat} (hi : i + 6 ≤ L) (K : ∀ (H : Heap) (locs : List Loc) (ls : Array Slot), wtInv s dC dI cI cZ cL q qm H locs → lv_has ls 4 [(0, .ref b), (1, .ref (q 0)), (2, .ref (qm 0)), (3, .int (nI i))] → W p l e room_1 s m #[Value.ref b] below meth c H locs 34 14336 (lw_Z below #[Value.ref b] s) (F0 m 553 ls [])) : ∀ (H : Heap) (locs : List Loc) (ls : Array Slot), wtInv s dC dI cI cZ cL q qm H locs → lv_has ls 4 [(0, .ref b), (1, .ref (q 0)), (2, .ref (qm 0)), (3, .int (nI i))] → W p l e room_1 s m #[Value.ref b] below meth c H locs 34 14336 (lw_Z below #[Value.ref b] s) (F0 m 108 ls []) := by
  obtain ⟨hx, hb, hr, hml, hown0, hts, hX, hbl, hlocks, hgv⟩ := id C0
  have hown : s.vm.findClass RL = some m.cls := hown0
  have ht : ∀ w ∈ tb, w.before _ s = true := fun w h => hts w (tb_in w h)
  have hA : ∀ a : Nat, s.heap.size ≤ a → (fun a : Nat => s.heap.size ≤ a) a := fun _ h => h
  have hbA : ¬ (fun a : Nat => s.heap.size ≤ a) b := Nat.not_le.mpr hbl
  intro H locs ls hv hl
  obtain ⟨ph, pa, ch, en, sz, pr, gc, gb, sc, sh, sl, ct, tok, wt, pn, lt, wp, sd, kn, co, bo, wd, zs, fp, ea, dn, cd, nx, nd, nc, al, wo, wh, pg, hP, hD, hS, hrel, hca⟩ := hv
  have hrel' := hrel
  obtain ⟨⟨hm8, hzw, htr, hsz24, hen, hgr, hscr, hshr, hslr⟩, hct, hs3, hts0, hzs, hwd, hph, hpa, hch, hfp, hen0⟩ := hrel'
  have hz1 : ∀ k, k < pr → 1 ≤ zs k := fun k hk => (hzw k hk).1
  rcases say_forms (xs (i + 1)) (xs (i + 2)) (xs (i + 3)) (xs (i + 4)) with hbad | ⟨ww, pp, hww, hpp, e1, e2, e3, e4⟩ | ⟨ww, pp, qq, hww, hpp, hqq, e1, e2, e3, e4⟩ | ⟨ww, pp, qq, rr, hww, hpp, hqq, hrr, e1, e2, e3, e4⟩
  · skip
    refine lv_aload_n hx hb dL_law_108 rfl (lv_at hl 1 rfl) ?_
    refine lv_aload_n hx hb dL_law_109 rfl (lv_at hl 0 rfl) ?_
    refine lv_iload_n hx hb dL_law_110 rfl (lv_at hl 3 rfl) ?_
    refine lv_iconst (v := nI 1) hx hb dL_law_111 (by decide) ?_
    refine wt_iadd hx hb dL_law_112 ?_
    refine wt_sld hx hb hX hbl hbA hS (k := i + 1) (by omega) (by omega) (v := xs (i + 1)) rfl dL_law_113 ?_
    refine lv_aload_n hx hb dL_law_114 rfl (lv_at hl 0 rfl) ?_
    refine lv_iload_n hx hb dL_law_115 rfl (lv_at hl 3 rfl) ?_
    refine lv_iconst (v := nI 2) hx hb dL_law_116 (by decide) ?_
    refine wt_iadd hx hb dL_law_117 ?_
    refine wt_sld hx hb hX hbl hbA hS (k := i + 2) (by omega) (by omega) (v := xs (i + 2)) rfl dL_law_118 ?_
    refine lv_aload_n hx hb dL_law_119 rfl (lv_at hl 0 rfl) ?_
    refine lv_iload_n hx hb dL_law_120 rfl (lv_at hl 3 rfl) ?_
    refine lv_iconst (v := nI 3) hx hb dL_law_121 (by decide) ?_
    refine wt_iadd hx hb dL_law_122 ?_
    refine wt_sld hx hb hX hbl hbA hS (k := i + 3) (by omega) (by omega) (v := xs (i + 3)) rfl dL_law_123 ?_
    refine lv_aload_n hx hb dL_law_124 rfl (lv_at hl 0 rfl) ?_
    refine lv_iload_n hx hb dL_law_125 rfl (lv_at hl 3 rfl) ?_
    refine lv_iconst (v := nI 4) hx hb dL_law_126 (by decide) ?_
    refine wt_iadd hx hb dL_law_127 ?_
    refine wt_sld hx hb hX hbl hbA hS (k := i + 4) (by omega) (by omega) (v := xs (i + 4)) rfl dL_law_128 ?_
    refine wt_roi (va_runV (As := [.int (xs (i + 1)), .int (xs (i + 2)), .int (xs (i + 3)), .int (xs (i + 4))]) (rest := []) ⟨hx, hb, hml, hown, ht⟩ (c_X_say_0 l dC dI cI cZ cL q ph pa ch en sz pr gc gb sc sh sl ct tok wt pn lt wp sd (xs (i + 1)) (xs (i + 2)) (xs (i + 3)) (xs (i + 4)) hbad hm8) (cwV 4 ht (good_V m_129 m_130 m_131 m_1 m_132) rfl rfl rfl (by decide +kernel) ⟨Nat.le_of_ble_eq_true rfl, Nat.le_of_ble_eq_true rfl⟩) (wt_preV hK hN (hP.sub [0, 1, 2, 3, 4, 5, 6, 7, 8, 9, 10, 11, 12, 13, 14, 15, 16, 17] rfl) (va_recv hK hP (ci := 0) (q0 := 0) rfl rfl)) rfl rfl hl.1 rfl (lv_room (Nat.le_of_ble_eq_true rfl)) dL_law_129 ⟨Nat.le_of_ble_eq_true rfl, Nat.le_of_ble_eq_true rfl⟩) ?_
    refine lv_aload_n hx hb dL_law_132 rfl (lv_at hl 2 rfl) ?_
    refine lv_aload_n hx hb dL_law_133 rfl (lv_at hl 0 rfl) ?_
    refine lv_iload_n hx hb dL_law_134 rfl (lv_at hl 3 rfl) ?_
    refine lv_iconst (v := nI 1) hx hb dL_law_135 (by decide) ?_
    refine wt_iadd hx hb dL_law_136 ?_
    refine wt_sld hx hb hX hbl hbA hS (k := i + 1) (by omega) (by omega) (v := xs (i + 1)) rfl dL_law_137 ?_
    refine lv_aload_n hx hb dL_law_138 rfl (lv_at hl 0 rfl) ?_
    refine lv_iload_n hx hb dL_law_139 rfl (lv_at hl 3 rfl) ?_
    refine lv_iconst (v := nI 2) hx hb dL_law_140 (by decide) ?_
    refine wt_iadd hx hb dL_law_141 ?_
    refine wt_sld hx hb hX hbl hbA hS (k := i + 2) (by omega) (by omega) (v := xs (i + 2)) rfl dL_law_142 ?_
    refine lv_aload_n hx hb dL_law_143 rfl (lv_at hl 0 rfl) ?_
    refine lv_iload_n hx hb dL_law_144 rfl (lv_at hl 3 rfl) ?_
    refine lv_iconst (v := nI 3) hx hb dL_law_145 (by decide) ?_
    refine wt_iadd hx hb dL_law_146 ?_
    refine wt_sld hx hb hX hbl hbA hS (k := i + 3) (by omega) (by omega) (v := xs (i + 3)) rfl dL_law_147 ?_
    refine lv_aload_n hx hb dL_law_148 rfl (lv_at hl 0 rfl) ?_
    refine lv_iload_n hx hb dL_law_149 rfl (lv_at hl 3 rfl) ?_
    refine lv_iconst (v := nI 4) hx hb dL_law_150 (by decide) ?_
    refine wt_iadd hx hb dL_law_151 ?_
    refine wt_sld hx hb hX hbl hbA hS (k := i + 4) (by omega) (by omega) (v := xs (i + 4)) rfl dL_law_152 ?_
    refine wt_roi (va_runV (As := [.int (xs (i + 1)), .int (xs (i + 2)), .int (xs (i + 3)), .int (xs (i + 4))]) (rest := [.int (-1)]) ⟨hx, hb, hml, hown, ht⟩ (c_M_say_0 l dC dI cI cZ cL qm kn co bo pr wd zs fp sh sl ct sc ea dn cd nx nd nc al wo wh (xs (i + 1)) (xs (i + 2)) (xs (i + 3)) (xs (i + 4)) ((gd_ok _ _ _ _).trans hbad) hm8) (cwV 4 ht (good_V m_467 m_468 m_469 m_7 m_470) rfl rfl rfl (by decide +kernel) ⟨Nat.le_of_ble_eq_true rfl, Nat.le_of_ble_eq_true rfl⟩) (wt_preV hK hN (hP.sub [18, 19, 20, 21, 22, 23, 24, 25, 26, 27, 28, 29, 30, 31, 32, 33] rfl) (va_recv hK hP (ci := 5) (q0 := 18) rfl rfl)) rfl rfl hl.1 rfl (lv_room (Nat.le_of_ble_eq_true rfl)) dL_law_153 ⟨Nat.le_of_ble_eq_true rfl, Nat.le_of_ble_eq_true rfl⟩) ?_
    refine lv_icmp_eq (tgt := 553) hx hb dL_law_156 (by decide) (fun _ => ?_) (fun hne => absurd (rfl) hne)
    have hr9 : rel ph pa ch en sz gc gb sc sh sl ct kn co bo pr wd zs fp pg := hrel
    exact K H locs ls ⟨ph, pa, ch, en, sz, pr, gc, gb, sc, sh, sl, ct, tok, wt, pn, lt, wp, sd, kn, co, bo, wd, zs, fp, ea, dn, cd, nx, nd, nc, al, wo, wh, pg, hP, hD, hS, hr9, hca⟩ hl
  · skip
    by_cases h8 : pr = 8
    · skip
      refine lv_aload_n hx hb dL_law_108 rfl (lv_at hl 1 rfl) ?_
      refine lv_aload_n hx hb dL_law_109 rfl (lv_at hl 0 rfl) ?_
      refine lv_iload_n hx hb dL_law_110 rfl (lv_at hl 3 rfl) ?_
      refine lv_iconst (v := nI 1) hx hb dL_law_111 (by decide) ?_
      refine wt_iadd hx hb dL_law_112 ?_
      refine wt_sld hx hb hX hbl hbA hS (k := i + 1) (by omega) (by omega) (v := nI ww) e1 dL_law_113 ?_
      refine lv_aload_n hx hb dL_law_114 rfl (lv_at hl 0 rfl) ?_
      refine lv_iload_n hx hb dL_law_115 rfl (lv_at hl 3 rfl) ?_
      refine lv_iconst (v := nI 2) hx hb dL_law_116 (by decide) ?_
      refine wt_iadd hx hb dL_law_117 ?_
      refine wt_sld hx hb hX hbl hbA hS (k := i + 2) (by omega) (by omega) (v := nI pp) e2 dL_law_118 ?_
      refine lv_aload_n hx hb dL_law_119 rfl (lv_at hl 0 rfl) ?_
      refine lv_iload_n hx hb dL_law_120 rfl (lv_at hl 3 rfl) ?_
      refine lv_iconst (v := nI 3) hx hb dL_law_121 (by decide) ?_
      refine wt_iadd hx hb dL_law_122 ?_
      refine wt_sld hx hb hX hbl hbA hS (k := i + 3) (by omega) (by omega) (v := (-1)) e3 dL_law_123 ?_
      refine lv_aload_n hx hb dL_law_124 rfl (lv_at hl 0 rfl) ?_
      refine lv_iload_n hx hb dL_law_125 rfl (lv_at hl 3 rfl) ?_
      refine lv_iconst (v := nI 4) hx hb dL_law_126 (by decide) ?_
      refine wt_iadd hx hb dL_law_127 ?_
      refine wt_sld hx hb hX hbl hbA hS (k := i + 4) (by omega) (by omega) (v := (-1)) e4 dL_law_128 ?_
      refine wt_roi (va_runV (As := [.int (nI ww), .int (nI pp), .int (-1), .int (-1)]) (rest := []) ⟨hx, hb, hml, hown, ht⟩ (c_X_say_1f l dC dI cI cZ cL q ph pa ch en sz pr gc gb sc sh sl ct tok wt pn lt wp sd ww pp hww hpp hch hm8 (by omega)) (cwV 4 ht (good_V m_129 m_130 m_131 m_1 m_132) rfl rfl rfl (by decide +kernel) ⟨Nat.le_of_ble_eq_true rfl, Nat.le_of_ble_eq_true rfl⟩) (wt_preV hK hN (hP.sub [0, 1, 2, 3, 4, 5, 6, 7, 8, 9, 10, 11, 12, 13, 14, 15, 16, 17] rfl) (va_recv hK hP (ci := 0) (q0 := 0) rfl rfl)) rfl rfl hl.1 rfl (lv_room (Nat.le_of_ble_eq_true rfl)) dL_law_129 ⟨Nat.le_of_ble_eq_true rfl, Nat.le_of_ble_eq_true rfl⟩) ?_
      refine lv_aload_n hx hb dL_law_132 rfl (lv_at hl 2 rfl) ?_
      refine lv_aload_n hx hb dL_law_133 rfl (lv_at hl 0 rfl) ?_
      refine lv_iload_n hx hb dL_law_134 rfl (lv_at hl 3 rfl) ?_
      refine lv_iconst (v := nI 1) hx hb dL_law_135 (by decide) ?_
      refine wt_iadd hx hb dL_law_136 ?_
      refine wt_sld hx hb hX hbl hbA hS (k := i + 1) (by omega) (by omega) (v := nI ww) e1 dL_law_137 ?_
      refine lv_aload_n hx hb dL_law_138 rfl (lv_at hl 0 rfl) ?_
      refine lv_iload_n hx hb dL_law_139 rfl (lv_at hl 3 rfl) ?_
      refine lv_iconst (v := nI 2) hx hb dL_law_140 (by decide) ?_
      refine wt_iadd hx hb dL_law_141 ?_
      refine wt_sld hx hb hX hbl hbA hS (k := i + 2) (by omega) (by omega) (v := nI pp) e2 dL_law_142 ?_
      refine lv_aload_n hx hb dL_law_143 rfl (lv_at hl 0 rfl) ?_
      refine lv_iload_n hx hb dL_law_144 rfl (lv_at hl 3 rfl) ?_
      refine lv_iconst (v := nI 3) hx hb dL_law_145 (by decide) ?_
      refine wt_iadd hx hb dL_law_146 ?_
      refine wt_sld hx hb hX hbl hbA hS (k := i + 3) (by omega) (by omega) (v := (-1)) e3 dL_law_147 ?_
      refine lv_aload_n hx hb dL_law_148 rfl (lv_at hl 0 rfl) ?_
      refine lv_iload_n hx hb dL_law_149 rfl (lv_at hl 3 rfl) ?_
      refine lv_iconst (v := nI 4) hx hb dL_law_150 (by decide) ?_
      refine wt_iadd hx hb dL_law_151 ?_
      refine wt_sld hx hb hX hbl hbA hS (k := i + 4) (by omega) (by omega) (v := (-1)) e4 dL_law_152 ?_
      refine wt_roi (va_runV (As := [.int (nI ww), .int (nI pp), .int (-1), .int (-1)]) (rest := [.int (-1)]) ⟨hx, hb, hml, hown, ht⟩ (c_M_say_1f l dC dI cI cZ cL qm kn co bo pr wd zs fp sh sl ct sc ea dn cd nx nd nc al wo wh ww pp hww hpp h8) (cwV 4 ht (good_V m_467 m_468 m_469 m_7 m_470) rfl rfl rfl (by decide +kernel) ⟨Nat.le_of_ble_eq_true rfl, Nat.le_of_ble_eq_true rfl⟩) (wt_preV hK hN (hP.sub [18, 19, 20, 21, 22, 23, 24, 25, 26, 27, 28, 29, 30, 31, 32, 33] rfl) (va_recv hK hP (ci := 5) (q0 := 18) rfl rfl)) rfl rfl hl.1 rfl (lv_room (Nat.le_of_ble_eq_true rfl)) dL_law_153 ⟨Nat.le_of_ble_eq_true rfl, Nat.le_of_ble_eq_true rfl⟩) ?_
      refine lv_icmp_eq (tgt := 553) hx hb dL_law_156 (by decide) (fun _ => ?_) (fun hne => absurd (rfl) hne)
      have hr9 : rel ph pa ch en sz gc gb sc sh sl ct kn co bo pr wd zs fp pg := hrel
      exact K H locs ls ⟨ph, pa, ch, en, sz, pr, gc, gb, sc, sh, sl, ct, tok, wt, pn, lt, wp, sd, kn, co, bo, wd, zs, fp, ea, dn, cd, nx, nd, nc, al, wo, wh, pg, hP, hD, hS, hr9, hca⟩ hl
    · skip
      have h7 : pr ≤ 7 := by omega
      have hhd := has_1 (w := ww) hrel h7 hww hpp
      cases hdu : wt_any (fun k => wt_du1 (va_up wd pr ww) (va_up zs pr 1) (upd (upd (upd fp (3 * pr) (nI pp)) (3 * pr + 1) ((-1))) (3 * pr + 2) ((-1))) pr ww k) pr 0 with
      | true =>
        refine lv_aload_n hx hb dL_law_108 rfl (lv_at hl 1 rfl) ?_
        refine lv_aload_n hx hb dL_law_109 rfl (lv_at hl 0 rfl) ?_
        refine lv_iload_n hx hb dL_law_110 rfl (lv_at hl 3 rfl) ?_
        refine lv_iconst (v := nI 1) hx hb dL_law_111 (by decide) ?_
        refine wt_iadd hx hb dL_law_112 ?_
        refine wt_sld hx hb hX hbl hbA hS (k := i + 1) (by omega) (by omega) (v := nI ww) e1 dL_law_113 ?_
        refine lv_aload_n hx hb dL_law_114 rfl (lv_at hl 0 rfl) ?_
        refine lv_iload_n hx hb dL_law_115 rfl (lv_at hl 3 rfl) ?_
        refine lv_iconst (v := nI 2) hx hb dL_law_116 (by decide) ?_
        refine wt_iadd hx hb dL_law_117 ?_
        refine wt_sld hx hb hX hbl hbA hS (k := i + 2) (by omega) (by omega) (v := nI pp) e2 dL_law_118 ?_
        refine lv_aload_n hx hb dL_law_119 rfl (lv_at hl 0 rfl) ?_
        refine lv_iload_n hx hb dL_law_120 rfl (lv_at hl 3 rfl) ?_
        refine lv_iconst (v := nI 3) hx hb dL_law_121 (by decide) ?_
        refine wt_iadd hx hb dL_law_122 ?_
        refine wt_sld hx hb hX hbl hbA hS (k := i + 3) (by omega) (by omega) (v := (-1)) e3 dL_law_123 ?_
        refine lv_aload_n hx hb dL_law_124 rfl (lv_at hl 0 rfl) ?_
        refine lv_iload_n hx hb dL_law_125 rfl (lv_at hl 3 rfl) ?_
        refine lv_iconst (v := nI 4) hx hb dL_law_126 (by decide) ?_
        refine wt_iadd hx hb dL_law_127 ?_
        refine wt_sld hx hb hX hbl hbA hS (k := i + 4) (by omega) (by omega) (v := (-1)) e4 dL_law_128 ?_
        refine wt_roi (va_runV (As := [.int (nI ww), .int (nI pp), .int (-1), .int (-1)]) (rest := []) ⟨hx, hb, hml, hown, ht⟩ (c_X_say_1h l dC dI cI cZ cL q ph pa ch en sz pr gc gb sc sh sl ct tok wt pn lt wp sd ww pp hww hpp hch hm8 (hhd.trans hdu)) (cwV 4 ht (good_V m_129 m_130 m_131 m_1 m_132) rfl rfl rfl (by decide +kernel) ⟨Nat.le_of_ble_eq_true rfl, Nat.le_of_ble_eq_true rfl⟩) (wt_preV hK hN (hP.sub [0, 1, 2, 3, 4, 5, 6, 7, 8, 9, 10, 11, 12, 13, 14, 15, 16, 17] rfl) (va_recv hK hP (ci := 0) (q0 := 0) rfl rfl)) rfl rfl hl.1 rfl (lv_room (Nat.le_of_ble_eq_true rfl)) dL_law_129 ⟨Nat.le_of_ble_eq_true rfl, Nat.le_of_ble_eq_true rfl⟩) ?_
        refine lv_aload_n hx hb dL_law_132 rfl (lv_at hl 2 rfl) ?_
        refine lv_aload_n hx hb dL_law_133 rfl (lv_at hl 0 rfl) ?_
        refine lv_iload_n hx hb dL_law_134 rfl (lv_at hl 3 rfl) ?_
        refine lv_iconst (v := nI 1) hx hb dL_law_135 (by decide) ?_
        refine wt_iadd hx hb dL_law_136 ?_
        refine wt_sld hx hb hX hbl hbA hS (k := i + 1) (by omega) (by omega) (v := nI ww) e1 dL_law_137 ?_
        refine lv_aload_n hx hb dL_law_138 rfl (lv_at hl 0 rfl) ?_
        refine lv_iload_n hx hb dL_law_139 rfl (lv_at hl 3 rfl) ?_
        refine lv_iconst (v := nI 2) hx hb dL_law_140 (by decide) ?_
        refine wt_iadd hx hb dL_law_141 ?_
        refine wt_sld hx hb hX hbl hbA hS (k := i + 2) (by omega) (by omega) (v := nI pp) e2 dL_law_142 ?_
        refine lv_aload_n hx hb dL_law_143 rfl (lv_at hl 0 rfl) ?_
        refine lv_iload_n hx hb dL_law_144 rfl (lv_at hl 3 rfl) ?_
        refine lv_iconst (v := nI 3) hx hb dL_law_145 (by decide) ?_
        refine wt_iadd hx hb dL_law_146 ?_
        refine wt_sld hx hb hX hbl hbA hS (k := i + 3) (by omega) (by omega) (v := (-1)) e3 dL_law_147 ?_
        refine lv_aload_n hx hb dL_law_148 rfl (lv_at hl 0 rfl) ?_
        refine lv_iload_n hx hb dL_law_149 rfl (lv_at hl 3 rfl) ?_
        refine lv_iconst (v := nI 4) hx hb dL_law_150 (by decide) ?_
        refine wt_iadd hx hb dL_law_151 ?_
        refine wt_sld hx hb hX hbl hbA hS (k := i + 4) (by omega) (by omega) (v := (-1)) e4 dL_law_152 ?_
        refine wt_cuti (wc := (wM cI cZ cL qm kn co bo pr wd zs fp sh sl ct sc ea dn cd nx nd nc al wo wh)) (w1 := (wM cI cZ cL qm kn co bo pr (va_up wd pr ww) (va_up zs pr 1) (upd (upd (upd fp (3 * pr) (nI pp)) (3 * pr + 1) ((-1))) (3 * pr + 2) ((-1))) sh sl ct sc ea dn cd nx nd nc al wo wh)) (wr := (wX cI cZ cL q ph pa ch en sz pr gc gb sc sh sl ct tok wt pn lt wp sd)) (w2 := (wX cI cZ cL q ph pa ch en sz pr gc gb sc sh sl ct tok wt pn lt wp sd) ++ (wM cI cZ cL qm kn co bo pr (va_up wd pr ww) (va_up zs pr 1) (upd (upd (upd fp (3 * pr) (nI pp)) (3 * pr + 1) ((-1))) (3 * pr + 2) ((-1))) sh sl ct sc ea dn cd nx nd nc al wo wh)) (va_runV (As := [.int (nI ww), .int (nI pp), .int (-1), .int (-1)]) (rest := [.int (-1)]) ⟨hx, hb, hml, hown, ht⟩ (c_M_say_1d l dC dI cI cZ cL qm H.size kn co bo pr wd zs fp sh sl ct sc ea dn cd nx nd nc al wo wh ww pp hww hpp h7 hzs hwd hdu) (cwV 4 ht (good_V m_467 m_468 m_469 m_7 m_470) rfl rfl rfl (by decide +kernel) ⟨Nat.le_of_ble_eq_true rfl, Nat.le_of_ble_eq_true rfl⟩) (wt_preVw hK hN (hP.sub [18, 19, 20, 21, 22, 23, 24, 25, 26, 27, 28, 29, 30, 31, 32, 33] rfl) (hD.sub [18, 19, 20, 21, 22, 23, 24, 25, 26, 27, 28, 29, 30, 31, 32, 33] (by decide) rfl) (va_recv hK hP (ci := 5) (q0 := 18) rfl rfl)) rfl rfl hl.1 rfl (lv_room (Nat.le_of_ble_eq_true rfl)) dL_law_153 ⟨Nat.le_of_ble_eq_true rfl, Nat.le_of_ble_eq_true rfl⟩) hP hD hS hA [18, 19, 20, 21, 22, 23, 24, 25, 26, 27, 28, 29, 30, 31, 32, 33] [0, 1, 2, 3, 4, 5, 6, 7, 8, 9, 10, 11, 12, 13, 14, 15, 16, 17] rfl rfl (by decide) (by decide) [0, 1, 2, 3, 4, 5, 6, 7, 8, 9, 10, 11, 12, 13, 14, 15, 16, 17, 18, 19, 20, 21, 22, 23, 24, 25, 26, 27, 28, 29, 30, 31, 32, 33] (by decide) rfl (fun H locs hP hD hS => ?_)
        refine W.widen (k := 34) (n := 14336) (Nat.le_of_ble_eq_true rfl) (Nat.le_of_ble_eq_true rfl) ?_
        refine lv_icmp_eq (tgt := 553) hx hb dL_law_156 (by decide) (fun _ => ?_) (fun hne => absurd (rfl) hne)
        have hr9 : rel ph pa ch en sz gc gb sc sh sl ct kn co bo pr (va_up wd pr ww) (va_up zs pr 1) (upd (upd (upd fp (3 * pr) (nI pp)) (3 * pr + 1) ((-1))) (3 * pr + 2) ((-1))) pg := dup_1 hrel hww
        exact K H locs ls ⟨ph, pa, ch, en, sz, pr, gc, gb, sc, sh, sl, ct, tok, wt, pn, lt, wp, sd, kn, co, bo, (va_up wd pr ww), (va_up zs pr 1), (upd (upd (upd fp (3 * pr) (nI pp)) (3 * pr + 1) ((-1))) (3 * pr + 2) ((-1))), ea, dn, cd, nx, nd, nc, al, wo, wh, pg, hP, hD, hS, hr9, hca⟩ hl
      | false =>
        refine lv_aload_n hx hb dL_law_108 rfl (lv_at hl 1 rfl) ?_
        refine lv_aload_n hx hb dL_law_109 rfl (lv_at hl 0 rfl) ?_
        refine lv_iload_n hx hb dL_law_110 rfl (lv_at hl 3 rfl) ?_
        refine lv_iconst (v := nI 1) hx hb dL_law_111 (by decide) ?_
        refine wt_iadd hx hb dL_law_112 ?_
        refine wt_sld hx hb hX hbl hbA hS (k := i + 1) (by omega) (by omega) (v := nI ww) e1 dL_law_113 ?_
        refine lv_aload_n hx hb dL_law_114 rfl (lv_at hl 0 rfl) ?_
        refine lv_iload_n hx hb dL_law_115 rfl (lv_at hl 3 rfl) ?_
        refine lv_iconst (v := nI 2) hx hb dL_law_116 (by decide) ?_
        refine wt_iadd hx hb dL_law_117 ?_
        refine wt_sld hx hb hX hbl hbA hS (k := i + 2) (by omega) (by omega) (v := nI pp) e2 dL_law_118 ?_
        refine lv_aload_n hx hb dL_law_119 rfl (lv_at hl 0 rfl) ?_
        refine lv_iload_n hx hb dL_law_120 rfl (lv_at hl 3 rfl) ?_
        refine lv_iconst (v := nI 3) hx hb dL_law_121 (by decide) ?_
        refine wt_iadd hx hb dL_law_122 ?_
        refine wt_sld hx hb hX hbl hbA hS (k := i + 3) (by omega) (by omega) (v := (-1)) e3 dL_law_123 ?_
        refine lv_aload_n hx hb dL_law_124 rfl (lv_at hl 0 rfl) ?_
        refine lv_iload_n hx hb dL_law_125 rfl (lv_at hl 3 rfl) ?_
        refine lv_iconst (v := nI 4) hx hb dL_law_126 (by decide) ?_
        refine wt_iadd hx hb dL_law_127 ?_
        refine wt_sld hx hb hX hbl hbA hS (k := i + 4) (by omega) (by omega) (v := (-1)) e4 dL_law_128 ?_
        refine wt_cuti (wc := (wX cI cZ cL q ph pa ch en sz pr gc gb sc sh sl ct tok wt pn lt wp sd)) (w1 := (wX cI cZ cL q ((wt_gr ph pa ch sz 0 pp).1) ((wt_gr ph pa ch sz 0 pp).2.1) ((wt_gr ph pa ch sz 0 pp).2.2.1) (va_up en ((wt_gr ph pa ch sz 0 pp).2.2.2.2 * 4 + ww) true) ((wt_gr ph pa ch sz 0 pp).2.2.2.1) (pr + 1) gc gb sc sh sl ct tok wt pn lt wp false)) (wr := (wM cI cZ cL qm kn co bo pr wd zs fp sh sl ct sc ea dn cd nx nd nc al wo wh)) (w2 := (wX cI cZ cL q ((wt_gr ph pa ch sz 0 pp).1) ((wt_gr ph pa ch sz 0 pp).2.1) ((wt_gr ph pa ch sz 0 pp).2.2.1) (va_up en ((wt_gr ph pa ch sz 0 pp).2.2.2.2 * 4 + ww) true) ((wt_gr ph pa ch sz 0 pp).2.2.2.1) (pr + 1) gc gb sc sh sl ct tok wt pn lt wp false) ++ (wM cI cZ cL qm kn co bo pr wd zs fp sh sl ct sc ea dn cd nx nd nc al wo wh)) (va_runV (As := [.int (nI ww), .int (nI pp), .int (-1), .int (-1)]) (rest := []) ⟨hx, hb, hml, hown, ht⟩ (c_X_say_1a l dC dI cI cZ cL q H.size ph pa ch en sz pr gc gb sc sh sl ct tok wt pn lt wp sd ww pp hww hpp hch hm8 h7 (hhd.trans hdu) (by omega)) (cwV 4 ht (good_V m_129 m_130 m_131 m_1 m_132) rfl rfl rfl (by decide +kernel) ⟨Nat.le_of_ble_eq_true rfl, Nat.le_of_ble_eq_true rfl⟩) (wt_preVw hK hN (hP.sub [0, 1, 2, 3, 4, 5, 6, 7, 8, 9, 10, 11, 12, 13, 14, 15, 16, 17] rfl) (hD.sub [0, 1, 2, 3, 4, 5, 6, 7, 8, 9, 10, 11, 12, 13, 14, 15, 16, 17] (by decide) rfl) (va_recv hK hP (ci := 0) (q0 := 0) rfl rfl)) rfl rfl hl.1 rfl (lv_room (Nat.le_of_ble_eq_true rfl)) dL_law_129 ⟨Nat.le_of_ble_eq_true rfl, Nat.le_of_ble_eq_true rfl⟩) hP hD hS hA [0, 1, 2, 3, 4, 5, 6, 7, 8, 9, 10, 11, 12, 13, 14, 15, 16, 17] [18, 19, 20, 21, 22, 23, 24, 25, 26, 27, 28, 29, 30, 31, 32, 33] rfl rfl (by decide) (by decide) [16, 17, 18, 19, 20, 21, 22, 23, 24, 25, 26, 27, 28, 29, 30, 31, 32, 33, 0, 1, 2, 3, 4, 5, 6, 7, 8, 9, 10, 11, 12, 13, 14, 15] (by decide) rfl (fun H locs hP hD hS => ?_)
        refine W.widen (k := 34) (n := 14336) (Nat.le_of_ble_eq_true rfl) (Nat.le_of_ble_eq_true rfl) ?_
        refine lv_aload_n hx hb dL_law_132 rfl (lv_at hl 2 rfl) ?_
        refine lv_aload_n hx hb dL_law_133 rfl (lv_at hl 0 rfl) ?_
        refine lv_iload_n hx hb dL_law_134 rfl (lv_at hl 3 rfl) ?_
        refine lv_iconst (v := nI 1) hx hb dL_law_135 (by decide) ?_
        refine wt_iadd hx hb dL_law_136 ?_
        refine wt_sld hx hb hX hbl hbA hS (k := i + 1) (by omega) (by omega) (v := nI ww) e1 dL_law_137 ?_
        refine lv_aload_n hx hb dL_law_138 rfl (lv_at hl 0 rfl) ?_
        refine lv_iload_n hx hb dL_law_139 rfl (lv_at hl 3 rfl) ?_
        refine lv_iconst (v := nI 2) hx hb dL_law_140 (by decide) ?_
        refine wt_iadd hx hb dL_law_141 ?_
        refine wt_sld hx hb hX hbl hbA hS (k := i + 2) (by omega) (by omega) (v := nI pp) e2 dL_law_142 ?_
        refine lv_aload_n hx hb dL_law_143 rfl (lv_at hl 0 rfl) ?_
        refine lv_iload_n hx hb dL_law_144 rfl (lv_at hl 3 rfl) ?_
        refine lv_iconst (v := nI 3) hx hb dL_law_145 (by decide) ?_
        refine wt_iadd hx hb dL_law_146 ?_
        refine wt_sld hx hb hX hbl hbA hS (k := i + 3) (by omega) (by omega) (v := (-1)) e3 dL_law_147 ?_
        refine lv_aload_n hx hb dL_law_148 rfl (lv_at hl 0 rfl) ?_
        refine lv_iload_n hx hb dL_law_149 rfl (lv_at hl 3 rfl) ?_
        refine lv_iconst (v := nI 4) hx hb dL_law_150 (by decide) ?_
        refine wt_iadd hx hb dL_law_151 ?_
        refine wt_sld hx hb hX hbl hbA hS (k := i + 4) (by omega) (by omega) (v := (-1)) e4 dL_law_152 ?_
        refine wt_cuti (wc := (wM cI cZ cL qm kn co bo pr wd zs fp sh sl ct sc ea dn cd nx nd nc al wo wh)) (w1 := (wM cI cZ cL qm kn co bo (pr + 1) (va_up wd pr ww) (va_up zs pr 1) (upd (upd (upd fp (3 * pr) (nI pp)) (3 * pr + 1) ((-1))) (3 * pr + 2) ((-1))) sh sl ct sc ea dn cd nx nd nc al wo wh)) (wr := (wX cI cZ cL q ((wt_gr ph pa ch sz 0 pp).1) ((wt_gr ph pa ch sz 0 pp).2.1) ((wt_gr ph pa ch sz 0 pp).2.2.1) (va_up en ((wt_gr ph pa ch sz 0 pp).2.2.2.2 * 4 + ww) true) ((wt_gr ph pa ch sz 0 pp).2.2.2.1) (pr + 1) gc gb sc sh sl ct tok wt pn lt wp false)) (w2 := (wX cI cZ cL q ((wt_gr ph pa ch sz 0 pp).1) ((wt_gr ph pa ch sz 0 pp).2.1) ((wt_gr ph pa ch sz 0 pp).2.2.1) (va_up en ((wt_gr ph pa ch sz 0 pp).2.2.2.2 * 4 + ww) true) ((wt_gr ph pa ch sz 0 pp).2.2.2.1) (pr + 1) gc gb sc sh sl ct tok wt pn lt wp false) ++ (wM cI cZ cL qm kn co bo (pr + 1) (va_up wd pr ww) (va_up zs pr 1) (upd (upd (upd fp (3 * pr) (nI pp)) (3 * pr + 1) ((-1))) (3 * pr + 2) ((-1))) sh sl ct sc ea dn cd nx nd nc al wo wh)) (va_runV (As := [.int (nI ww), .int (nI pp), .int (-1), .int (-1)]) (rest := [.int (nI ((wt_gr ph pa ch sz 0 pp).2.2.2.1))]) ⟨hx, hb, hml, hown, ht⟩ (c_M_say_1a l dC dI cI cZ cL qm H.size kn co bo pr wd zs fp sh sl ct sc ea dn cd nx nd nc al wo wh ww pp hww hpp h7 hzs hwd hdu) (cwV 4 ht (good_V m_467 m_468 m_469 m_7 m_470) rfl rfl rfl (by decide +kernel) ⟨Nat.le_of_ble_eq_true rfl, Nat.le_of_ble_eq_true rfl⟩) (wt_preVw hK hN (hP.sub [18, 19, 20, 21, 22, 23, 24, 25, 26, 27, 28, 29, 30, 31, 32, 33] rfl) (hD.sub [18, 19, 20, 21, 22, 23, 24, 25, 26, 27, 28, 29, 30, 31, 32, 33] (by decide) rfl) (va_recv hK hP (ci := 5) (q0 := 18) rfl rfl)) rfl rfl hl.1 rfl (lv_room (Nat.le_of_ble_eq_true rfl)) dL_law_153 ⟨Nat.le_of_ble_eq_true rfl, Nat.le_of_ble_eq_true rfl⟩) hP hD hS hA [18, 19, 20, 21, 22, 23, 24, 25, 26, 27, 28, 29, 30, 31, 32, 33] [0, 1, 2, 3, 4, 5, 6, 7, 8, 9, 10, 11, 12, 13, 14, 15, 16, 17] rfl rfl (by decide) (by decide) [0, 1, 2, 3, 4, 5, 6, 7, 8, 9, 10, 11, 12, 13, 14, 15, 16, 17, 18, 19, 20, 21, 22, 23, 24, 25, 26, 27, 28, 29, 30, 31, 32, 33] (by decide) rfl (fun H locs hP hD hS => ?_)
        refine W.widen (k := 34) (n := 14336) (Nat.le_of_ble_eq_true rfl) (Nat.le_of_ble_eq_true rfl) ?_
        refine lv_icmp_eq (tgt := 553) hx hb dL_law_156 (by decide) (fun _ => ?_) (fun hne => absurd (congrArg nI (nod_1 hrel h7 hww hpp).symm) hne)
        have hr9 : rel ((wt_gr ph pa ch sz 0 pp).1) ((wt_gr ph pa ch sz 0 pp).2.1) ((wt_gr ph pa ch sz 0 pp).2.2.1) (va_up en ((wt_gr ph pa ch sz 0 pp).2.2.2.2 * 4 + ww) true) ((wt_gr ph pa ch sz 0 pp).2.2.2.1) gc gb sc sh sl ct kn co bo (pr + 1) (va_up wd pr ww) (va_up zs pr 1) (upd (upd (upd fp (3 * pr) (nI pp)) (3 * pr + 1) ((-1))) (3 * pr + 2) ((-1))) (pg3 pg pr pp 0 0) := add_1 hrel h7 hww hpp
        exact K H locs ls ⟨((wt_gr ph pa ch sz 0 pp).1), ((wt_gr ph pa ch sz 0 pp).2.1), ((wt_gr ph pa ch sz 0 pp).2.2.1), (va_up en ((wt_gr ph pa ch sz 0 pp).2.2.2.2 * 4 + ww) true), ((wt_gr ph pa ch sz 0 pp).2.2.2.1), (pr + 1), gc, gb, sc, sh, sl, ct, tok, wt, pn, lt, wp, false, kn, co, bo, (va_up wd pr ww), (va_up zs pr 1), (upd (upd (upd fp (3 * pr) (nI pp)) (3 * pr + 1) ((-1))) (3 * pr + 2) ((-1))), ea, dn, cd, nx, nd, nc, al, wo, wh, (pg3 pg pr pp 0 0), hP, hD, hS, hr9, (fun z => absurd z (by decide))⟩ hl
  · skip
    by_cases h8 : pr = 8
    · skip
      refine lv_aload_n hx hb dL_law_108 rfl (lv_at hl 1 rfl) ?_
      refine lv_aload_n hx hb dL_law_109 rfl (lv_at hl 0 rfl) ?_
      refine lv_iload_n hx hb dL_law_110 rfl (lv_at hl 3 rfl) ?_
      refine lv_iconst (v := nI 1) hx hb dL_law_111 (by decide) ?_
      refine wt_iadd hx hb dL_law_112 ?_
      refine wt_sld hx hb hX hbl hbA hS (k := i + 1) (by omega) (by omega) (v := nI ww) e1 dL_law_113 ?_
      refine lv_aload_n hx hb dL_law_114 rfl (lv_at hl 0 rfl) ?_
      refine lv_iload_n hx hb dL_law_115 rfl (lv_at hl 3 rfl) ?_
      refine lv_iconst (v := nI 2) hx hb dL_law_116 (by decide) ?_
      refine wt_iadd hx hb dL_law_117 ?_
      refine wt_sld hx hb hX hbl hbA hS (k := i + 2) (by omega) (by omega) (v := nI pp) e2 dL_law_118 ?_
      refine lv_aload_n hx hb dL_law_119 rfl (lv_at hl 0 rfl) ?_
      refine lv_iload_n hx hb dL_law_120 rfl (lv_at hl 3 rfl) ?_
      refine lv_iconst (v := nI 3) hx hb dL_law_121 (by decide) ?_
      refine wt_iadd hx hb dL_law_122 ?_
      refine wt_sld hx hb hX hbl hbA hS (k := i + 3) (by omega) (by omega) (v := nI qq) e3 dL_law_123 ?_
      refine lv_aload_n hx hb dL_law_124 rfl (lv_at hl 0 rfl) ?_
      refine lv_iload_n hx hb dL_law_125 rfl (lv_at hl 3 rfl) ?_
      refine lv_iconst (v := nI 4) hx hb dL_law_126 (by decide) ?_
      refine wt_iadd hx hb dL_law_127 ?_
      refine wt_sld hx hb hX hbl hbA hS (k := i + 4) (by omega) (by omega) (v := (-1)) e4 dL_law_128 ?_
      refine wt_roi (va_runV (As := [.int (nI ww), .int (nI pp), .int (nI qq), .int (-1)]) (rest := []) ⟨hx, hb, hml, hown, ht⟩ (c_X_say_2f l dC dI cI cZ cL q ph pa ch en sz pr gc gb sc sh sl ct tok wt pn lt wp sd ww pp qq hww hpp hqq hch hm8 (by omega)) (cwV 4 ht (good_V m_129 m_130 m_131 m_1 m_132) rfl rfl rfl (by decide +kernel) ⟨Nat.le_of_ble_eq_true rfl, Nat.le_of_ble_eq_true rfl⟩) (wt_preV hK hN (hP.sub [0, 1, 2, 3, 4, 5, 6, 7, 8, 9, 10, 11, 12, 13, 14, 15, 16, 17] rfl) (va_recv hK hP (ci := 0) (q0 := 0) rfl rfl)) rfl rfl hl.1 rfl (lv_room (Nat.le_of_ble_eq_true rfl)) dL_law_129 ⟨Nat.le_of_ble_eq_true rfl, Nat.le_of_ble_eq_true rfl⟩) ?_
      refine lv_aload_n hx hb dL_law_132 rfl (lv_at hl 2 rfl) ?_
      refine lv_aload_n hx hb dL_law_133 rfl (lv_at hl 0 rfl) ?_
      refine lv_iload_n hx hb dL_law_134 rfl (lv_at hl 3 rfl) ?_
      refine lv_iconst (v := nI 1) hx hb dL_law_135 (by decide) ?_
      refine wt_iadd hx hb dL_law_136 ?_
      refine wt_sld hx hb hX hbl hbA hS (k := i + 1) (by omega) (by omega) (v := nI ww) e1 dL_law_137 ?_
      refine lv_aload_n hx hb dL_law_138 rfl (lv_at hl 0 rfl) ?_
      refine lv_iload_n hx hb dL_law_139 rfl (lv_at hl 3 rfl) ?_
      refine lv_iconst (v := nI 2) hx hb dL_law_140 (by decide) ?_
      refine wt_iadd hx hb dL_law_141 ?_
      refine wt_sld hx hb hX hbl hbA hS (k := i + 2) (by omega) (by omega) (v := nI pp) e2 dL_law_142 ?_
      refine lv_aload_n hx hb dL_law_143 rfl (lv_at hl 0 rfl) ?_
      refine lv_iload_n hx hb dL_law_144 rfl (lv_at hl 3 rfl) ?_
      refine lv_iconst (v := nI 3) hx hb dL_law_145 (by decide) ?_
      refine wt_iadd hx hb dL_law_146 ?_
      refine wt_sld hx hb hX hbl hbA hS (k := i + 3) (by omega) (by omega) (v := nI qq) e3 dL_law_147 ?_
      refine lv_aload_n hx hb dL_law_148 rfl (lv_at hl 0 rfl) ?_
      refine lv_iload_n hx hb dL_law_149 rfl (lv_at hl 3 rfl) ?_
      refine lv_iconst (v := nI 4) hx hb dL_law_150 (by decide) ?_
      refine wt_iadd hx hb dL_law_151 ?_
      refine wt_sld hx hb hX hbl hbA hS (k := i + 4) (by omega) (by omega) (v := (-1)) e4 dL_law_152 ?_
      refine wt_roi (va_runV (As := [.int (nI ww), .int (nI pp), .int (nI qq), .int (-1)]) (rest := [.int (-1)]) ⟨hx, hb, hml, hown, ht⟩ (c_M_say_2f l dC dI cI cZ cL qm kn co bo pr wd zs fp sh sl ct sc ea dn cd nx nd nc al wo wh ww pp qq hww hpp hqq h8) (cwV 4 ht (good_V m_467 m_468 m_469 m_7 m_470) rfl rfl rfl (by decide +kernel) ⟨Nat.le_of_ble_eq_true rfl, Nat.le_of_ble_eq_true rfl⟩) (wt_preV hK hN (hP.sub [18, 19, 20, 21, 22, 23, 24, 25, 26, 27, 28, 29, 30, 31, 32, 33] rfl) (va_recv hK hP (ci := 5) (q0 := 18) rfl rfl)) rfl rfl hl.1 rfl (lv_room (Nat.le_of_ble_eq_true rfl)) dL_law_153 ⟨Nat.le_of_ble_eq_true rfl, Nat.le_of_ble_eq_true rfl⟩) ?_
      refine lv_icmp_eq (tgt := 553) hx hb dL_law_156 (by decide) (fun _ => ?_) (fun hne => absurd (rfl) hne)
      have hr9 : rel ph pa ch en sz gc gb sc sh sl ct kn co bo pr wd zs fp pg := hrel
      exact K H locs ls ⟨ph, pa, ch, en, sz, pr, gc, gb, sc, sh, sl, ct, tok, wt, pn, lt, wp, sd, kn, co, bo, wd, zs, fp, ea, dn, cd, nx, nd, nc, al, wo, wh, pg, hP, hD, hS, hr9, hca⟩ hl
    · skip
      have h7 : pr ≤ 7 := by omega
      have hhd := has_2 (w := ww) hrel h7 hww hpp hqq
      cases hdu : wt_any (fun k => wt_du1 (va_up wd pr ww) (va_up zs pr 2) (upd (upd (upd fp (3 * pr) (nI pp)) (3 * pr + 1) (nI qq)) (3 * pr + 2) ((-1))) pr ww k) pr 0 with
      | true =>
        refine lv_aload_n hx hb dL_law_108 rfl (lv_at hl 1 rfl) ?_
        refine lv_aload_n hx hb dL_law_109 rfl (lv_at hl 0 rfl) ?_
        refine lv_iload_n hx hb dL_law_110 rfl (lv_at hl 3 rfl) ?_
        refine lv_iconst (v := nI 1) hx hb dL_law_111 (by decide) ?_
        refine wt_iadd hx hb dL_law_112 ?_
        refine wt_sld hx hb hX hbl hbA hS (k := i + 1) (by omega) (by omega) (v := nI ww) e1 dL_law_113 ?_
        refine lv_aload_n hx hb dL_law_114 rfl (lv_at hl 0 rfl) ?_
        refine lv_iload_n hx hb dL_law_115 rfl (lv_at hl 3 rfl) ?_
        refine lv_iconst (v := nI 2) hx hb dL_law_116 (by decide) ?_
        refine wt_iadd hx hb dL_law_117 ?_
        refine wt_sld hx hb hX hbl hbA hS (k := i + 2) (by omega) (by omega) (v := nI pp) e2 dL_law_118 ?_
        refine lv_aload_n hx hb dL_law_119 rfl (lv_at hl 0 rfl) ?_
        refine lv_iload_n hx hb dL_law_120 rfl (lv_at hl 3 rfl) ?_
        refine lv_iconst (v := nI 3) hx hb dL_law_121 (by decide) ?_
        refine wt_iadd hx hb dL_law_122 ?_
        refine wt_sld hx hb hX hbl hbA hS (k := i + 3) (by omega) (by omega) (v := nI qq) e3 dL_law_123 ?_
        refine lv_aload_n hx hb dL_law_124 rfl (lv_at hl 0 rfl) ?_
        refine lv_iload_n hx hb dL_law_125 rfl (lv_at hl 3 rfl) ?_
        refine lv_iconst (v := nI 4) hx hb dL_law_126 (by decide) ?_
        refine wt_iadd hx hb dL_law_127 ?_
        refine wt_sld hx hb hX hbl hbA hS (k := i + 4) (by omega) (by omega) (v := (-1)) e4 dL_law_128 ?_
        refine wt_roi (va_runV (As := [.int (nI ww), .int (nI pp), .int (nI qq), .int (-1)]) (rest := []) ⟨hx, hb, hml, hown, ht⟩ (c_X_say_2h l dC dI cI cZ cL q ph pa ch en sz pr gc gb sc sh sl ct tok wt pn lt wp sd ww pp qq hww hpp hqq hch hm8 (hhd.trans hdu)) (cwV 4 ht (good_V m_129 m_130 m_131 m_1 m_132) rfl rfl rfl (by decide +kernel) ⟨Nat.le_of_ble_eq_true rfl, Nat.le_of_ble_eq_true rfl⟩) (wt_preV hK hN (hP.sub [0, 1, 2, 3, 4, 5, 6, 7, 8, 9, 10, 11, 12, 13, 14, 15, 16, 17] rfl) (va_recv hK hP (ci := 0) (q0 := 0) rfl rfl)) rfl rfl hl.1 rfl (lv_room (Nat.le_of_ble_eq_true rfl)) dL_law_129 ⟨Nat.le_of_ble_eq_true rfl, Nat.le_of_ble_eq_true rfl⟩) ?_
        refine lv_aload_n hx hb dL_law_132 rfl (lv_at hl 2 rfl) ?_
        refine lv_aload_n hx hb dL_law_133 rfl (lv_at hl 0 rfl) ?_
        refine lv_iload_n hx hb dL_law_134 rfl (lv_at hl 3 rfl) ?_
        refine lv_iconst (v := nI 1) hx hb dL_law_135 (by decide) ?_
        refine wt_iadd hx hb dL_law_136 ?_
        refine wt_sld hx hb hX hbl hbA hS (k := i + 1) (by omega) (by omega) (v := nI ww) e1 dL_law_137 ?_
        refine lv_aload_n hx hb dL_law_138 rfl (lv_at hl 0 rfl) ?_
        refine lv_iload_n hx hb dL_law_139 rfl (lv_at hl 3 rfl) ?_
        refine lv_iconst (v := nI 2) hx hb dL_law_140 (by decide) ?_
        refine wt_iadd hx hb dL_law_141 ?_
        refine wt_sld hx hb hX hbl hbA hS (k := i + 2) (by omega) (by omega) (v := nI pp) e2 dL_law_142 ?_
        refine lv_aload_n hx hb dL_law_143 rfl (lv_at hl 0 rfl) ?_
        refine lv_iload_n hx hb dL_law_144 rfl (lv_at hl 3 rfl) ?_
        refine lv_iconst (v := nI 3) hx hb dL_law_145 (by decide) ?_
        refine wt_iadd hx hb dL_law_146 ?_
        refine wt_sld hx hb hX hbl hbA hS (k := i + 3) (by omega) (by omega) (v := nI qq) e3 dL_law_147 ?_
        refine lv_aload_n hx hb dL_law_148 rfl (lv_at hl 0 rfl) ?_
        refine lv_iload_n hx hb dL_law_149 rfl (lv_at hl 3 rfl) ?_
        refine lv_iconst (v := nI 4) hx hb dL_law_150 (by decide) ?_
        refine wt_iadd hx hb dL_law_151 ?_
        refine wt_sld hx hb hX hbl hbA hS (k := i + 4) (by omega) (by omega) (v := (-1)) e4 dL_law_152 ?_
        refine wt_cuti (wc := (wM cI cZ cL qm kn co bo pr wd zs fp sh sl ct sc ea dn cd nx nd nc al wo wh)) (w1 := (wM cI cZ cL qm kn co bo pr (va_up wd pr ww) (va_up zs pr 2) (upd (upd (upd fp (3 * pr) (nI pp)) (3 * pr + 1) (nI qq)) (3 * pr + 2) ((-1))) sh sl ct sc ea dn cd nx nd nc al wo wh)) (wr := (wX cI cZ cL q ph pa ch en sz pr gc gb sc sh sl ct tok wt pn lt wp sd)) (w2 := (wX cI cZ cL q ph pa ch en sz pr gc gb sc sh sl ct tok wt pn lt wp sd) ++ (wM cI cZ cL qm kn co bo pr (va_up wd pr ww) (va_up zs pr 2) (upd (upd (upd fp (3 * pr) (nI pp)) (3 * pr + 1) (nI qq)) (3 * pr + 2) ((-1))) sh sl ct sc ea dn cd nx nd nc al wo wh)) (va_runV (As := [.int (nI ww), .int (nI pp), .int (nI qq), .int (-1)]) (rest := [.int (-1)]) ⟨hx, hb, hml, hown, ht⟩ (c_M_say_2d l dC dI cI cZ cL qm H.size kn co bo pr wd zs fp sh sl ct sc ea dn cd nx nd nc al wo wh ww pp qq hww hpp hqq h7 hzs hwd hdu) (cwV 4 ht (good_V m_467 m_468 m_469 m_7 m_470) rfl rfl rfl (by decide +kernel) ⟨Nat.le_of_ble_eq_true rfl, Nat.le_of_ble_eq_true rfl⟩) (wt_preVw hK hN (hP.sub [18, 19, 20, 21, 22, 23, 24, 25, 26, 27, 28, 29, 30, 31, 32, 33] rfl) (hD.sub [18, 19, 20, 21, 22, 23, 24, 25, 26, 27, 28, 29, 30, 31, 32, 33] (by decide) rfl) (va_recv hK hP (ci := 5) (q0 := 18) rfl rfl)) rfl rfl hl.1 rfl (lv_room (Nat.le_of_ble_eq_true rfl)) dL_law_153 ⟨Nat.le_of_ble_eq_true rfl, Nat.le_of_ble_eq_true rfl⟩) hP hD hS hA [18, 19, 20, 21, 22, 23, 24, 25, 26, 27, 28, 29, 30, 31, 32, 33] [0, 1, 2, 3, 4, 5, 6, 7, 8, 9, 10, 11, 12, 13, 14, 15, 16, 17] rfl rfl (by decide) (by decide) [0, 1, 2, 3, 4, 5, 6, 7, 8, 9, 10, 11, 12, 13, 14, 15, 16, 17, 18, 19, 20, 21, 22, 23, 24, 25, 26, 27, 28, 29, 30, 31, 32, 33] (by decide) rfl (fun H locs hP hD hS => ?_)
        refine W.widen (k := 34) (n := 14336) (Nat.le_of_ble_eq_true rfl) (Nat.le_of_ble_eq_true rfl) ?_
        refine lv_icmp_eq (tgt := 553) hx hb dL_law_156 (by decide) (fun _ => ?_) (fun hne => absurd (rfl) hne)
        have hr9 : rel ph pa ch en sz gc gb sc sh sl ct kn co bo pr (va_up wd pr ww) (va_up zs pr 2) (upd (upd (upd fp (3 * pr) (nI pp)) (3 * pr + 1) (nI qq)) (3 * pr + 2) ((-1))) pg := dup_2 hrel hww
        exact K H locs ls ⟨ph, pa, ch, en, sz, pr, gc, gb, sc, sh, sl, ct, tok, wt, pn, lt, wp, sd, kn, co, bo, (va_up wd pr ww), (va_up zs pr 2), (upd (upd (upd fp (3 * pr) (nI pp)) (3 * pr + 1) (nI qq)) (3 * pr + 2) ((-1))), ea, dn, cd, nx, nd, nc, al, wo, wh, pg, hP, hD, hS, hr9, hca⟩ hl
      | false =>
        refine lv_aload_n hx hb dL_law_108 rfl (lv_at hl 1 rfl) ?_
        refine lv_aload_n hx hb dL_law_109 rfl (lv_at hl 0 rfl) ?_
        refine lv_iload_n hx hb dL_law_110 rfl (lv_at hl 3 rfl) ?_
        refine lv_iconst (v := nI 1) hx hb dL_law_111 (by decide) ?_
        refine wt_iadd hx hb dL_law_112 ?_
        refine wt_sld hx hb hX hbl hbA hS (k := i + 1) (by omega) (by omega) (v := nI ww) e1 dL_law_113 ?_
        refine lv_aload_n hx hb dL_law_114 rfl (lv_at hl 0 rfl) ?_
        refine lv_iload_n hx hb dL_law_115 rfl (lv_at hl 3 rfl) ?_
        refine lv_iconst (v := nI 2) hx hb dL_law_116 (by decide) ?_
        refine wt_iadd hx hb dL_law_117 ?_
        refine wt_sld hx hb hX hbl hbA hS (k := i + 2) (by omega) (by omega) (v := nI pp) e2 dL_law_118 ?_
        refine lv_aload_n hx hb dL_law_119 rfl (lv_at hl 0 rfl) ?_
        refine lv_iload_n hx hb dL_law_120 rfl (lv_at hl 3 rfl) ?_
        refine lv_iconst (v := nI 3) hx hb dL_law_121 (by decide) ?_
        refine wt_iadd hx hb dL_law_122 ?_
        refine wt_sld hx hb hX hbl hbA hS (k := i + 3) (by omega) (by omega) (v := nI qq) e3 dL_law_123 ?_
        refine lv_aload_n hx hb dL_law_124 rfl (lv_at hl 0 rfl) ?_
        refine lv_iload_n hx hb dL_law_125 rfl (lv_at hl 3 rfl) ?_
        refine lv_iconst (v := nI 4) hx hb dL_law_126 (by decide) ?_
        refine wt_iadd hx hb dL_law_127 ?_
        refine wt_sld hx hb hX hbl hbA hS (k := i + 4) (by omega) (by omega) (v := (-1)) e4 dL_law_128 ?_
        refine wt_cuti (wc := (wX cI cZ cL q ph pa ch en sz pr gc gb sc sh sl ct tok wt pn lt wp sd)) (w1 := (wX cI cZ cL q ((wt_gr (wt_gr ph pa ch sz 0 pp).1 (wt_gr ph pa ch sz 0 pp).2.1 (wt_gr ph pa ch sz 0 pp).2.2.1 (wt_gr ph pa ch sz 0 pp).2.2.2.1 (wt_gr ph pa ch sz 0 pp).2.2.2.2 qq).1) ((wt_gr (wt_gr ph pa ch sz 0 pp).1 (wt_gr ph pa ch sz 0 pp).2.1 (wt_gr ph pa ch sz 0 pp).2.2.1 (wt_gr ph pa ch sz 0 pp).2.2.2.1 (wt_gr ph pa ch sz 0 pp).2.2.2.2 qq).2.1) ((wt_gr (wt_gr ph pa ch sz 0 pp).1 (wt_gr ph pa ch sz 0 pp).2.1 (wt_gr ph pa ch sz 0 pp).2.2.1 (wt_gr ph pa ch sz 0 pp).2.2.2.1 (wt_gr ph pa ch sz 0 pp).2.2.2.2 qq).2.2.1) (va_up en ((wt_gr (wt_gr ph pa ch sz 0 pp).1 (wt_gr ph pa ch sz 0 pp).2.1 (wt_gr ph pa ch sz 0 pp).2.2.1 (wt_gr ph pa ch sz 0 pp).2.2.2.1 (wt_gr ph pa ch sz 0 pp).2.2.2.2 qq).2.2.2.2 * 4 + ww) true) ((wt_gr (wt_gr ph pa ch sz 0 pp).1 (wt_gr ph pa ch sz 0 pp).2.1 (wt_gr ph pa ch sz 0 pp).2.2.1 (wt_gr ph pa ch sz 0 pp).2.2.2.1 (wt_gr ph pa ch sz 0 pp).2.2.2.2 qq).2.2.2.1) (pr + 1) gc gb sc sh sl ct tok wt pn lt wp false)) (wr := (wM cI cZ cL qm kn co bo pr wd zs fp sh sl ct sc ea dn cd nx nd nc al wo wh)) (w2 := (wX cI cZ cL q ((wt_gr (wt_gr ph pa ch sz 0 pp).1 (wt_gr ph pa ch sz 0 pp).2.1 (wt_gr ph pa ch sz 0 pp).2.2.1 (wt_gr ph pa ch sz 0 pp).2.2.2.1 (wt_gr ph pa ch sz 0 pp).2.2.2.2 qq).1) ((wt_gr (wt_gr ph pa ch sz 0 pp).1 (wt_gr ph pa ch sz 0 pp).2.1 (wt_gr ph pa ch sz 0 pp).2.2.1 (wt_gr ph pa ch sz 0 pp).2.2.2.1 (wt_gr ph pa ch sz 0 pp).2.2.2.2 qq).2.1) ((wt_gr (wt_gr ph pa ch sz 0 pp).1 (wt_gr ph pa ch sz 0 pp).2.1 (wt_gr ph pa ch sz 0 pp).2.2.1 (wt_gr ph pa ch sz 0 pp).2.2.2.1 (wt_gr ph pa ch sz 0 pp).2.2.2.2 qq).2.2.1) (va_up en ((wt_gr (wt_gr ph pa ch sz 0 pp).1 (wt_gr ph pa ch sz 0 pp).2.1 (wt_gr ph pa ch sz 0 pp).2.2.1 (wt_gr ph pa ch sz 0 pp).2.2.2.1 (wt_gr ph pa ch sz 0 pp).2.2.2.2 qq).2.2.2.2 * 4 + ww) true) ((wt_gr (wt_gr ph pa ch sz 0 pp).1 (wt_gr ph pa ch sz 0 pp).2.1 (wt_gr ph pa ch sz 0 pp).2.2.1 (wt_gr ph pa ch sz 0 pp).2.2.2.1 (wt_gr ph pa ch sz 0 pp).2.2.2.2 qq).2.2.2.1) (pr + 1) gc gb sc sh sl ct tok wt pn lt wp false) ++ (wM cI cZ cL qm kn co bo pr wd zs fp sh sl ct sc ea dn cd nx nd nc al wo wh)) (va_runV (As := [.int (nI ww), .int (nI pp), .int (nI qq), .int (-1)]) (rest := []) ⟨hx, hb, hml, hown, ht⟩ (c_X_say_2a l dC dI cI cZ cL q H.size ph pa ch en sz pr gc gb sc sh sl ct tok wt pn lt wp sd ww pp qq hww hpp hqq hch hm8 h7 (hhd.trans hdu) (by omega)) (cwV 4 ht (good_V m_129 m_130 m_131 m_1 m_132) rfl rfl rfl (by decide +kernel) ⟨Nat.le_of_ble_eq_true rfl, Nat.le_of_ble_eq_true rfl⟩) (wt_preVw hK hN (hP.sub [0, 1, 2, 3, 4, 5, 6, 7, 8, 9, 10, 11, 12, 13, 14, 15, 16, 17] rfl) (hD.sub [0, 1, 2, 3, 4, 5, 6, 7, 8, 9, 10, 11, 12, 13, 14, 15, 16, 17] (by decide) rfl) (va_recv hK hP (ci := 0) (q0 := 0) rfl rfl)) rfl rfl hl.1 rfl (lv_room (Nat.le_of_ble_eq_true rfl)) dL_law_129 ⟨Nat.le_of_ble_eq_true rfl, Nat.le_of_ble_eq_true rfl⟩) hP hD hS hA [0, 1, 2, 3, 4, 5, 6, 7, 8, 9, 10, 11, 12, 13, 14, 15, 16, 17] [18, 19, 20, 21, 22, 23, 24, 25, 26, 27, 28, 29, 30, 31, 32, 33] rfl rfl (by decide) (by decide) [16, 17, 18, 19, 20, 21, 22, 23, 24, 25, 26, 27, 28, 29, 30, 31, 32, 33, 0, 1, 2, 3, 4, 5, 6, 7, 8, 9, 10, 11, 12, 13, 14, 15] (by decide) rfl (fun H locs hP hD hS => ?_)
        refine W.widen (k := 34) (n := 14336) (Nat.le_of_ble_eq_true rfl) (Nat.le_of_ble_eq_true rfl) ?_
        refine lv_aload_n hx hb dL_law_132 rfl (lv_at hl 2 rfl) ?_
        refine lv_aload_n hx hb dL_law_133 rfl (lv_at hl 0 rfl) ?_
        refine lv_iload_n hx hb dL_law_134 rfl (lv_at hl 3 rfl) ?_
        refine lv_iconst (v := nI 1) hx hb dL_law_135 (by decide) ?_
        refine wt_iadd hx hb dL_law_136 ?_
        refine wt_sld hx hb hX hbl hbA hS (k := i + 1) (by omega) (by omega) (v := nI ww) e1 dL_law_137 ?_
        refine lv_aload_n hx hb dL_law_138 rfl (lv_at hl 0 rfl) ?_
        refine lv_iload_n hx hb dL_law_139 rfl (lv_at hl 3 rfl) ?_
        refine lv_iconst (v := nI 2) hx hb dL_law_140 (by decide) ?_
        refine wt_iadd hx hb dL_law_141 ?_
        refine wt_sld hx hb hX hbl hbA hS (k := i + 2) (by omega) (by omega) (v := nI pp) e2 dL_law_142 ?_
        refine lv_aload_n hx hb dL_law_143 rfl (lv_at hl 0 rfl) ?_
        refine lv_iload_n hx hb dL_law_144 rfl (lv_at hl 3 rfl) ?_
        refine lv_iconst (v := nI 3) hx hb dL_law_145 (by decide) ?_
        refine wt_iadd hx hb dL_law_146 ?_
        refine wt_sld hx hb hX hbl hbA hS (k := i + 3) (by omega) (by omega) (v := nI qq) e3 dL_law_147 ?_
        refine lv_aload_n hx hb dL_law_148 rfl (lv_at hl 0 rfl) ?_
        refine lv_iload_n hx hb dL_law_149 rfl (lv_at hl 3 rfl) ?_
        refine lv_iconst (v := nI 4) hx hb dL_law_150 (by decide) ?_
        refine wt_iadd hx hb dL_law_151 ?_
        refine wt_sld hx hb hX hbl hbA hS (k := i + 4) (by omega) (by omega) (v := (-1)) e4 dL_law_152 ?_
        refine wt_cuti (wc := (wM cI cZ cL qm kn co bo pr wd zs fp sh sl ct sc ea dn cd nx nd nc al wo wh)) (w1 := (wM cI cZ cL qm kn co bo (pr + 1) (va_up wd pr ww) (va_up zs pr 2) (upd (upd (upd fp (3 * pr) (nI pp)) (3 * pr + 1) (nI qq)) (3 * pr + 2) ((-1))) sh sl ct sc ea dn cd nx nd nc al wo wh)) (wr := (wX cI cZ cL q ((wt_gr (wt_gr ph pa ch sz 0 pp).1 (wt_gr ph pa ch sz 0 pp).2.1 (wt_gr ph pa ch sz 0 pp).2.2.1 (wt_gr ph pa ch sz 0 pp).2.2.2.1 (wt_gr ph pa ch sz 0 pp).2.2.2.2 qq).1) ((wt_gr (wt_gr ph pa ch sz 0 pp).1 (wt_gr ph pa ch sz 0 pp).2.1 (wt_gr ph pa ch sz 0 pp).2.2.1 (wt_gr ph pa ch sz 0 pp).2.2.2.1 (wt_gr ph pa ch sz 0 pp).2.2.2.2 qq).2.1) ((wt_gr (wt_gr ph pa ch sz 0 pp).1 (wt_gr ph pa ch sz 0 pp).2.1 (wt_gr ph pa ch sz 0 pp).2.2.1 (wt_gr ph pa ch sz 0 pp).2.2.2.1 (wt_gr ph pa ch sz 0 pp).2.2.2.2 qq).2.2.1) (va_up en ((wt_gr (wt_gr ph pa ch sz 0 pp).1 (wt_gr ph pa ch sz 0 pp).2.1 (wt_gr ph pa ch sz 0 pp).2.2.1 (wt_gr ph pa ch sz 0 pp).2.2.2.1 (wt_gr ph pa ch sz 0 pp).2.2.2.2 qq).2.2.2.2 * 4 + ww) true) ((wt_gr (wt_gr ph pa ch sz 0 pp).1 (wt_gr ph pa ch sz 0 pp).2.1 (wt_gr ph pa ch sz 0 pp).2.2.1 (wt_gr ph pa ch sz 0 pp).2.2.2.1 (wt_gr ph pa ch sz 0 pp).2.2.2.2 qq).2.2.2.1) (pr + 1) gc gb sc sh sl ct tok wt pn lt wp false)) (w2 := (wX cI cZ cL q ((wt_gr (wt_gr ph pa ch sz 0 pp).1 (wt_gr ph pa ch sz 0 pp).2.1 (wt_gr ph pa ch sz 0 pp).2.2.1 (wt_gr ph pa ch sz 0 pp).2.2.2.1 (wt_gr ph pa ch sz 0 pp).2.2.2.2 qq).1) ((wt_gr (wt_gr ph pa ch sz 0 pp).1 (wt_gr ph pa ch sz 0 pp).2.1 (wt_gr ph pa ch sz 0 pp).2.2.1 (wt_gr ph pa ch sz 0 pp).2.2.2.1 (wt_gr ph pa ch sz 0 pp).2.2.2.2 qq).2.1) ((wt_gr (wt_gr ph pa ch sz 0 pp).1 (wt_gr ph pa ch sz 0 pp).2.1 (wt_gr ph pa ch sz 0 pp).2.2.1 (wt_gr ph pa ch sz 0 pp).2.2.2.1 (wt_gr ph pa ch sz 0 pp).2.2.2.2 qq).2.2.1) (va_up en ((wt_gr (wt_gr ph pa ch sz 0 pp).1 (wt_gr ph pa ch sz 0 pp).2.1 (wt_gr ph pa ch sz 0 pp).2.2.1 (wt_gr ph pa ch sz 0 pp).2.2.2.1 (wt_gr ph pa ch sz 0 pp).2.2.2.2 qq).2.2.2.2 * 4 + ww) true) ((wt_gr (wt_gr ph pa ch sz 0 pp).1 (wt_gr ph pa ch sz 0 pp).2.1 (wt_gr ph pa ch sz 0 pp).2.2.1 (wt_gr ph pa ch sz 0 pp).2.2.2.1 (wt_gr ph pa ch sz 0 pp).2.2.2.2 qq).2.2.2.1) (pr + 1) gc gb sc sh sl ct tok wt pn lt wp false) ++ (wM cI cZ cL qm kn co bo (pr + 1) (va_up wd pr ww) (va_up zs pr 2) (upd (upd (upd fp (3 * pr) (nI pp)) (3 * pr + 1) (nI qq)) (3 * pr + 2) ((-1))) sh sl ct sc ea dn cd nx nd nc al wo wh)) (va_runV (As := [.int (nI ww), .int (nI pp), .int (nI qq), .int (-1)]) (rest := [.int (nI ((wt_gr (wt_gr ph pa ch sz 0 pp).1 (wt_gr ph pa ch sz 0 pp).2.1 (wt_gr ph pa ch sz 0 pp).2.2.1 (wt_gr ph pa ch sz 0 pp).2.2.2.1 (wt_gr ph pa ch sz 0 pp).2.2.2.2 qq).2.2.2.1))]) ⟨hx, hb, hml, hown, ht⟩ (c_M_say_2a l dC dI cI cZ cL qm H.size kn co bo pr wd zs fp sh sl ct sc ea dn cd nx nd nc al wo wh ww pp qq hww hpp hqq h7 hzs hwd hdu) (cwV 4 ht (good_V m_467 m_468 m_469 m_7 m_470) rfl rfl rfl (by decide +kernel) ⟨Nat.le_of_ble_eq_true rfl, Nat.le_of_ble_eq_true rfl⟩) (wt_preVw hK hN (hP.sub [18, 19, 20, 21, 22, 23, 24, 25, 26, 27, 28, 29, 30, 31, 32, 33] rfl) (hD.sub [18, 19, 20, 21, 22, 23, 24, 25, 26, 27, 28, 29, 30, 31, 32, 33] (by decide) rfl) (va_recv hK hP (ci := 5) (q0 := 18) rfl rfl)) rfl rfl hl.1 rfl (lv_room (Nat.le_of_ble_eq_true rfl)) dL_law_153 ⟨Nat.le_of_ble_eq_true rfl, Nat.le_of_ble_eq_true rfl⟩) hP hD hS hA [18, 19, 20, 21, 22, 23, 24, 25, 26, 27, 28, 29, 30, 31, 32, 33] [0, 1, 2, 3, 4, 5, 6, 7, 8, 9, 10, 11, 12, 13, 14, 15, 16, 17] rfl rfl (by decide) (by decide) [0, 1, 2, 3, 4, 5, 6, 7, 8, 9, 10, 11, 12, 13, 14, 15, 16, 17, 18, 19, 20, 21, 22, 23, 24, 25, 26, 27, 28, 29, 30, 31, 32, 33] (by decide) rfl (fun H locs hP hD hS => ?_)
        refine W.widen (k := 34) (n := 14336) (Nat.le_of_ble_eq_true rfl) (Nat.le_of_ble_eq_true rfl) ?_
        refine lv_icmp_eq (tgt := 553) hx hb dL_law_156 (by decide) (fun _ => ?_) (fun hne => absurd (congrArg nI (nod_2 hrel h7 hww hpp hqq).symm) hne)
        have hr9 : rel ((wt_gr (wt_gr ph pa ch sz 0 pp).1 (wt_gr ph pa ch sz 0 pp).2.1 (wt_gr ph pa ch sz 0 pp).2.2.1 (wt_gr ph pa ch sz 0 pp).2.2.2.1 (wt_gr ph pa ch sz 0 pp).2.2.2.2 qq).1) ((wt_gr (wt_gr ph pa ch sz 0 pp).1 (wt_gr ph pa ch sz 0 pp).2.1 (wt_gr ph pa ch sz 0 pp).2.2.1 (wt_gr ph pa ch sz 0 pp).2.2.2.1 (wt_gr ph pa ch sz 0 pp).2.2.2.2 qq).2.1) ((wt_gr (wt_gr ph pa ch sz 0 pp).1 (wt_gr ph pa ch sz 0 pp).2.1 (wt_gr ph pa ch sz 0 pp).2.2.1 (wt_gr ph pa ch sz 0 pp).2.2.2.1 (wt_gr ph pa ch sz 0 pp).2.2.2.2 qq).2.2.1) (va_up en ((wt_gr (wt_gr ph pa ch sz 0 pp).1 (wt_gr ph pa ch sz 0 pp).2.1 (wt_gr ph pa ch sz 0 pp).2.2.1 (wt_gr ph pa ch sz 0 pp).2.2.2.1 (wt_gr ph pa ch sz 0 pp).2.2.2.2 qq).2.2.2.2 * 4 + ww) true) ((wt_gr (wt_gr ph pa ch sz 0 pp).1 (wt_gr ph pa ch sz 0 pp).2.1 (wt_gr ph pa ch sz 0 pp).2.2.1 (wt_gr ph pa ch sz 0 pp).2.2.2.1 (wt_gr ph pa ch sz 0 pp).2.2.2.2 qq).2.2.2.1) gc gb sc sh sl ct kn co bo (pr + 1) (va_up wd pr ww) (va_up zs pr 2) (upd (upd (upd fp (3 * pr) (nI pp)) (3 * pr + 1) (nI qq)) (3 * pr + 2) ((-1))) (pg3 pg pr pp qq 0) := add_2 hrel h7 hww hpp hqq
        exact K H locs ls ⟨((wt_gr (wt_gr ph pa ch sz 0 pp).1 (wt_gr ph pa ch sz 0 pp).2.1 (wt_gr ph pa ch sz 0 pp).2.2.1 (wt_gr ph pa ch sz 0 pp).2.2.2.1 (wt_gr ph pa ch sz 0 pp).2.2.2.2 qq).1), ((wt_gr (wt_gr ph pa ch sz 0 pp).1 (wt_gr ph pa ch sz 0 pp).2.1 (wt_gr ph pa ch sz 0 pp).2.2.1 (wt_gr ph pa ch sz 0 pp).2.2.2.1 (wt_gr ph pa ch sz 0 pp).2.2.2.2 qq).2.1), ((wt_gr (wt_gr ph pa ch sz 0 pp).1 (wt_gr ph pa ch sz 0 pp).2.1 (wt_gr ph pa ch sz 0 pp).2.2.1 (wt_gr ph pa ch sz 0 pp).2.2.2.1 (wt_gr ph pa ch sz 0 pp).2.2.2.2 qq).2.2.1), (va_up en ((wt_gr (wt_gr ph pa ch sz 0 pp).1 (wt_gr ph pa ch sz 0 pp).2.1 (wt_gr ph pa ch sz 0 pp).2.2.1 (wt_gr ph pa ch sz 0 pp).2.2.2.1 (wt_gr ph pa ch sz 0 pp).2.2.2.2 qq).2.2.2.2 * 4 + ww) true), ((wt_gr (wt_gr ph pa ch sz 0 pp).1 (wt_gr ph pa ch sz 0 pp).2.1 (wt_gr ph pa ch sz 0 pp).2.2.1 (wt_gr ph pa ch sz 0 pp).2.2.2.1 (wt_gr ph pa ch sz 0 pp).2.2.2.2 qq).2.2.2.1), (pr + 1), gc, gb, sc, sh, sl, ct, tok, wt, pn, lt, wp, false, kn, co, bo, (va_up wd pr ww), (va_up zs pr 2), (upd (upd (upd fp (3 * pr) (nI pp)) (3 * pr + 1) (nI qq)) (3 * pr + 2) ((-1))), ea, dn, cd, nx, nd, nc, al, wo, wh, (pg3 pg pr pp qq 0), hP, hD, hS, hr9, (fun z => absurd z (by decide))⟩ hl
  · skip
    by_cases h8 : pr = 8
    · skip
      refine lv_aload_n hx hb dL_law_108 rfl (lv_at hl 1 rfl) ?_
      refine lv_aload_n hx hb dL_law_109 rfl (lv_at hl 0 rfl) ?_
      refine lv_iload_n hx hb dL_law_110 rfl (lv_at hl 3 rfl) ?_
      refine lv_iconst (v := nI 1) hx hb dL_law_111 (by decide) ?_
      refine wt_iadd hx hb dL_law_112 ?_
      refine wt_sld hx hb hX hbl hbA hS (k := i + 1) (by omega) (by omega) (v := nI ww) e1 dL_law_113 ?_
      refine lv_aload_n hx hb dL_law_114 rfl (lv_at hl 0 rfl) ?_
      refine lv_iload_n hx hb dL_law_115 rfl (lv_at hl 3 rfl) ?_
      refine lv_iconst (v := nI 2) hx hb dL_law_116 (by decide) ?_
      refine wt_iadd hx hb dL_law_117 ?_
      refine wt_sld hx hb hX hbl hbA hS (k := i + 2) (by omega) (by omega) (v := nI pp) e2 dL_law_118 ?_
      refine lv_aload_n hx hb dL_law_119 rfl (lv_at hl 0 rfl) ?_
      refine lv_iload_n hx hb dL_law_120 rfl (lv_at hl 3 rfl) ?_
      refine lv_iconst (v := nI 3) hx hb dL_law_121 (by decide) ?_
      refine wt_iadd hx hb dL_law_122 ?_
      refine wt_sld hx hb hX hbl hbA hS (k := i + 3) (by omega) (by omega) (v := nI qq) e3 dL_law_123 ?_
      refine lv_aload_n hx hb dL_law_124 rfl (lv_at hl 0 rfl) ?_
      refine lv_iload_n hx hb dL_law_125 rfl (lv_at hl 3 rfl) ?_
      refine lv_iconst (v := nI 4) hx hb dL_law_126 (by decide) ?_
      refine wt_iadd hx hb dL_law_127 ?_
      refine wt_sld hx hb hX hbl hbA hS (k := i + 4) (by omega) (by omega) (v := nI rr) e4 dL_law_128 ?_
      refine wt_roi (va_runV (As := [.int (nI ww), .int (nI pp), .int (nI qq), .int (nI rr)]) (rest := []) ⟨hx, hb, hml, hown, ht⟩ (c_X_say_3f l dC dI cI cZ cL q ph pa ch en sz pr gc gb sc sh sl ct tok wt pn lt wp sd ww pp qq rr hww hpp hqq hrr hch hm8 (by omega)) (cwV 4 ht (good_V m_129 m_130 m_131 m_1 m_132) rfl rfl rfl (by decide +kernel) ⟨Nat.le_of_ble_eq_true rfl, Nat.le_of_ble_eq_true rfl⟩) (wt_preV hK hN (hP.sub [0, 1, 2, 3, 4, 5, 6, 7, 8, 9, 10, 11, 12, 13, 14, 15, 16, 17] rfl) (va_recv hK hP (ci := 0) (q0 := 0) rfl rfl)) rfl rfl hl.1 rfl (lv_room (Nat.le_of_ble_eq_true rfl)) dL_law_129 ⟨Nat.le_of_ble_eq_true rfl, Nat.le_of_ble_eq_true rfl⟩) ?_
      refine lv_aload_n hx hb dL_law_132 rfl (lv_at hl 2 rfl) ?_
      refine lv_aload_n hx hb dL_law_133 rfl (lv_at hl 0 rfl) ?_
      refine lv_iload_n hx hb dL_law_134 rfl (lv_at hl 3 rfl) ?_
      refine lv_iconst (v := nI 1) hx hb dL_law_135 (by decide) ?_
      refine wt_iadd hx hb dL_law_136 ?_
      refine wt_sld hx hb hX hbl hbA hS (k := i + 1) (by omega) (by omega) (v := nI ww) e1 dL_law_137 ?_
      refine lv_aload_n hx hb dL_law_138 rfl (lv_at hl 0 rfl) ?_
      refine lv_iload_n hx hb dL_law_139 rfl (lv_at hl 3 rfl) ?_
      refine lv_iconst (v := nI 2) hx hb dL_law_140 (by decide) ?_
      refine wt_iadd hx hb dL_law_141 ?_
      refine wt_sld hx hb hX hbl hbA hS (k := i + 2) (by omega) (by omega) (v := nI pp) e2 dL_law_142 ?_
      refine lv_aload_n hx hb dL_law_143 rfl (lv_at hl 0 rfl) ?_
      refine lv_iload_n hx hb dL_law_144 rfl (lv_at hl 3 rfl) ?_
      refine lv_iconst (v := nI 3) hx hb dL_law_145 (by decide) ?_
      refine wt_iadd hx hb dL_law_146 ?_
      refine wt_sld hx hb hX hbl hbA hS (k := i + 3) (by omega) (by omega) (v := nI qq) e3 dL_law_147 ?_
      refine lv_aload_n hx hb dL_law_148 rfl (lv_at hl 0 rfl) ?_
      refine lv_iload_n hx hb dL_law_149 rfl (lv_at hl 3 rfl) ?_
      refine lv_iconst (v := nI 4) hx hb dL_law_150 (by decide) ?_
      refine wt_iadd hx hb dL_law_151 ?_
      refine wt_sld hx hb hX hbl hbA hS (k := i + 4) (by omega) (by omega) (v := nI rr) e4 dL_law_152 ?_
      refine wt_roi (va_runV (As := [.int (nI ww), .int (nI pp), .int (nI qq), .int (nI rr)]) (rest := [.int (-1)]) ⟨hx, hb, hml, hown, ht⟩ (c_M_say_3f l dC dI cI cZ cL qm kn co bo pr wd zs fp sh sl ct sc ea dn cd nx nd nc al wo wh ww pp qq rr hww hpp hqq hrr h8) (cwV 4 ht (good_V m_467 m_468 m_469 m_7 m_470) rfl rfl rfl (by decide +kernel) ⟨Nat.le_of_ble_eq_true rfl, Nat.le_of_ble_eq_true rfl⟩) (wt_preV hK hN (hP.sub [18, 19, 20, 21, 22, 23, 24, 25, 26, 27, 28, 29, 30, 31, 32, 33] rfl) (va_recv hK hP (ci := 5) (q0 := 18) rfl rfl)) rfl rfl hl.1 rfl (lv_room (Nat.le_of_ble_eq_true rfl)) dL_law_153 ⟨Nat.le_of_ble_eq_true rfl, Nat.le_of_ble_eq_true rfl⟩) ?_
      refine lv_icmp_eq (tgt := 553) hx hb dL_law_156 (by decide) (fun _ => ?_) (fun hne => absurd (rfl) hne)
      have hr9 : rel ph pa ch en sz gc gb sc sh sl ct kn co bo pr wd zs fp pg := hrel
      exact K H locs ls ⟨ph, pa, ch, en, sz, pr, gc, gb, sc, sh, sl, ct, tok, wt, pn, lt, wp, sd, kn, co, bo, wd, zs, fp, ea, dn, cd, nx, nd, nc, al, wo, wh, pg, hP, hD, hS, hr9, hca⟩ hl
    · skip
      have h7 : pr ≤ 7 := by omega
      have hhd := has_3 (w := ww) hrel h7 hww hpp hqq hrr
      cases hdu : wt_any (fun k => wt_du1 (va_up wd pr ww) (va_up zs pr 3) (upd (upd (upd fp (3 * pr) (nI pp)) (3 * pr + 1) (nI qq)) (3 * pr + 2) (nI rr)) pr ww k) pr 0 with
      | true =>
        refine lv_aload_n hx hb dL_law_108 rfl (lv_at hl 1 rfl) ?_
        refine lv_aload_n hx hb dL_law_109 rfl (lv_at hl 0 rfl) ?_
        refine lv_iload_n hx hb dL_law_110 rfl (lv_at hl 3 rfl) ?_
        refine lv_iconst (v := nI 1) hx hb dL_law_111 (by decide) ?_
        refine wt_iadd hx hb dL_law_112 ?_
        refine wt_sld hx hb hX hbl hbA hS (k := i + 1) (by omega) (by omega) (v := nI ww) e1 dL_law_113 ?_
        refine lv_aload_n hx hb dL_law_114 rfl (lv_at hl 0 rfl) ?_
        refine lv_iload_n hx hb dL_law_115 rfl (lv_at hl 3 rfl) ?_
        refine lv_iconst (v := nI 2) hx hb dL_law_116 (by decide) ?_
        refine wt_iadd hx hb dL_law_117 ?_
        refine wt_sld hx hb hX hbl hbA hS (k := i + 2) (by omega) (by omega) (v := nI pp) e2 dL_law_118 ?_
        refine lv_aload_n hx hb dL_law_119 rfl (lv_at hl 0 rfl) ?_
        refine lv_iload_n hx hb dL_law_120 rfl (lv_at hl 3 rfl) ?_
        refine lv_iconst (v := nI 3) hx hb dL_law_121 (by decide) ?_
        refine wt_iadd hx hb dL_law_122 ?_
        refine wt_sld hx hb hX hbl hbA hS (k := i + 3) (by omega) (by omega) (v := nI qq) e3 dL_law_123 ?_
        refine lv_aload_n hx hb dL_law_124 rfl (lv_at hl 0 rfl) ?_
        refine lv_iload_n hx hb dL_law_125 rfl (lv_at hl 3 rfl) ?_
        refine lv_iconst (v := nI 4) hx hb dL_law_126 (by decide) ?_
        refine wt_iadd hx hb dL_law_127 ?_
        refine wt_sld hx hb hX hbl hbA hS (k := i + 4) (by omega) (by omega) (v := nI rr) e4 dL_law_128 ?_
        refine wt_roi (va_runV (As := [.int (nI ww), .int (nI pp), .int (nI qq), .int (nI rr)]) (rest := []) ⟨hx, hb, hml, hown, ht⟩ (c_X_say_3h l dC dI cI cZ cL q ph pa ch en sz pr gc gb sc sh sl ct tok wt pn lt wp sd ww pp qq rr hww hpp hqq hrr hch hm8 (hhd.trans hdu)) (cwV 4 ht (good_V m_129 m_130 m_131 m_1 m_132) rfl rfl rfl (by decide +kernel) ⟨Nat.le_of_ble_eq_true rfl, Nat.le_of_ble_eq_true rfl⟩) (wt_preV hK hN (hP.sub [0, 1, 2, 3, 4, 5, 6, 7, 8, 9, 10, 11, 12, 13, 14, 15, 16, 17] rfl) (va_recv hK hP (ci := 0) (q0 := 0) rfl rfl)) rfl rfl hl.1 rfl (lv_room (Nat.le_of_ble_eq_true rfl)) dL_law_129 ⟨Nat.le_of_ble_eq_true rfl, Nat.le_of_ble_eq_true rfl⟩) ?_
        refine lv_aload_n hx hb dL_law_132 rfl (lv_at hl 2 rfl) ?_
        refine lv_aload_n hx hb dL_law_133 rfl (lv_at hl 0 rfl) ?_
        refine lv_iload_n hx hb dL_law_134 rfl (lv_at hl 3 rfl) ?_
        refine lv_iconst (v := nI 1) hx hb dL_law_135 (by decide) ?_
        refine wt_iadd hx hb dL_law_136 ?_
        refine wt_sld hx hb hX hbl hbA hS (k := i + 1) (by omega) (by omega) (v := nI ww) e1 dL_law_137 ?_
        refine lv_aload_n hx hb dL_law_138 rfl (lv_at hl 0 rfl) ?_
        refine lv_iload_n hx hb dL_law_139 rfl (lv_at hl 3 rfl) ?_
        refine lv_iconst (v := nI 2) hx hb dL_law_140 (by decide) ?_
        refine wt_iadd hx hb dL_law_141 ?_
        refine wt_sld hx hb hX hbl hbA hS (k := i + 2) (by omega) (by omega) (v := nI pp) e2 dL_law_142 ?_
        refine lv_aload_n hx hb dL_law_143 rfl (lv_at hl 0 rfl) ?_
        refine lv_iload_n hx hb dL_law_144 rfl (lv_at hl 3 rfl) ?_
        refine lv_iconst (v := nI 3) hx hb dL_law_145 (by decide) ?_
        refine wt_iadd hx hb dL_law_146 ?_
        refine wt_sld hx hb hX hbl hbA hS (k := i + 3) (by omega) (by omega) (v := nI qq) e3 dL_law_147 ?_
        refine lv_aload_n hx hb dL_law_148 rfl (lv_at hl 0 rfl) ?_
        refine lv_iload_n hx hb dL_law_149 rfl (lv_at hl 3 rfl) ?_
        refine lv_iconst (v := nI 4) hx hb dL_law_150 (by decide) ?_
        refine wt_iadd hx hb dL_law_151 ?_
        refine wt_sld hx hb hX hbl hbA hS (k := i + 4) (by omega) (by omega) (v := nI rr) e4 dL_law_152 ?_
        refine wt_cuti (wc := (wM cI cZ cL qm kn co bo pr wd zs fp sh sl ct sc ea dn cd nx nd nc al wo wh)) (w1 := (wM cI cZ cL qm kn co bo pr (va_up wd pr ww) (va_up zs pr 3) (upd (upd (upd fp (3 * pr) (nI pp)) (3 * pr + 1) (nI qq)) (3 * pr + 2) (nI rr)) sh sl ct sc ea dn cd nx nd nc al wo wh)) (wr := (wX cI cZ cL q ph pa ch en sz pr gc gb sc sh sl ct tok wt pn lt wp sd)) (w2 := (wX cI cZ cL q ph pa ch en sz pr gc gb sc sh sl ct tok wt pn lt wp sd) ++ (wM cI cZ cL qm kn co bo pr (va_up wd pr ww) (va_up zs pr 3) (upd (upd (upd fp (3 * pr) (nI pp)) (3 * pr + 1) (nI qq)) (3 * pr + 2) (nI rr)) sh sl ct sc ea dn cd nx nd nc al wo wh)) (va_runV (As := [.int (nI ww), .int (nI pp), .int (nI qq), .int (nI rr)]) (rest := [.int (-1)]) ⟨hx, hb, hml, hown, ht⟩ (c_M_say_3d l dC dI cI cZ cL qm H.size kn co bo pr wd zs fp sh sl ct sc ea dn cd nx nd nc al wo wh ww pp qq rr hww hpp hqq hrr h7 hzs hwd hdu) (cwV 4 ht (good_V m_467 m_468 m_469 m_7 m_470) rfl rfl rfl (by decide +kernel) ⟨Nat.le_of_ble_eq_true rfl, Nat.le_of_ble_eq_true rfl⟩) (wt_preVw hK hN (hP.sub [18, 19, 20, 21, 22, 23, 24, 25, 26, 27, 28, 29, 30, 31, 32, 33] rfl) (hD.sub [18, 19, 20, 21, 22, 23, 24, 25, 26, 27, 28, 29, 30, 31, 32, 33] (by decide) rfl) (va_recv hK hP (ci := 5) (q0 := 18) rfl rfl)) rfl rfl hl.1 rfl (lv_room (Nat.le_of_ble_eq_true rfl)) dL_law_153 ⟨Nat.le_of_ble_eq_true rfl, Nat.le_of_ble_eq_true rfl⟩) hP hD hS hA [18, 19, 20, 21, 22, 23, 24, 25, 26, 27, 28, 29, 30, 31, 32, 33] [0, 1, 2, 3, 4, 5, 6, 7, 8, 9, 10, 11, 12, 13, 14, 15, 16, 17] rfl rfl (by decide) (by decide) [0, 1, 2, 3, 4, 5, 6, 7, 8, 9, 10, 11, 12, 13, 14, 15, 16, 17, 18, 19, 20, 21, 22, 23, 24, 25, 26, 27, 28, 29, 30, 31, 32, 33] (by decide) rfl (fun H locs hP hD hS => ?_)
        refine W.widen (k := 34) (n := 14336) (Nat.le_of_ble_eq_true rfl) (Nat.le_of_ble_eq_true rfl) ?_
        refine lv_icmp_eq (tgt := 553) hx hb dL_law_156 (by decide) (fun _ => ?_) (fun hne => absurd (rfl) hne)
        have hr9 : rel ph pa ch en sz gc gb sc sh sl ct kn co bo pr (va_up wd pr ww) (va_up zs pr 3) (upd (upd (upd fp (3 * pr) (nI pp)) (3 * pr + 1) (nI qq)) (3 * pr + 2) (nI rr)) pg := dup_3 hrel hww
        exact K H locs ls ⟨ph, pa, ch, en, sz, pr, gc, gb, sc, sh, sl, ct, tok, wt, pn, lt, wp, sd, kn, co, bo, (va_up wd pr ww), (va_up zs pr 3), (upd (upd (upd fp (3 * pr) (nI pp)) (3 * pr + 1) (nI qq)) (3 * pr + 2) (nI rr)), ea, dn, cd, nx, nd, nc, al, wo, wh, pg, hP, hD, hS, hr9, hca⟩ hl
      | false =>
        refine lv_aload_n hx hb dL_law_108 rfl (lv_at hl 1 rfl) ?_
        refine lv_aload_n hx hb dL_law_109 rfl (lv_at hl 0 rfl) ?_
        refine lv_iload_n hx hb dL_law_110 rfl (lv_at hl 3 rfl) ?_
        refine lv_iconst (v := nI 1) hx hb dL_law_111 (by decide) ?_
        refine wt_iadd hx hb dL_law_112 ?_
        refine wt_sld hx hb hX hbl hbA hS (k := i + 1) (by omega) (by omega) (v := nI ww) e1 dL_law_113 ?_
        refine lv_aload_n hx hb dL_law_114 rfl (lv_at hl 0 rfl) ?_
        refine lv_iload_n hx hb dL_law_115 rfl (lv_at hl 3 rfl) ?_
        refine lv_iconst (v := nI 2) hx hb dL_law_116 (by decide) ?_
        refine wt_iadd hx hb dL_law_117 ?_
        refine wt_sld hx hb hX hbl hbA hS (k := i + 2) (by omega) (by omega) (v := nI pp) e2 dL_law_118 ?_
        refine lv_aload_n hx hb dL_law_119 rfl (lv_at hl 0 rfl) ?_
        refine lv_iload_n hx hb dL_law_120 rfl (lv_at hl 3 rfl) ?_
        refine lv_iconst (v := nI 3) hx hb dL_law_121 (by decide) ?_
        refine wt_iadd hx hb dL_law_122 ?_
        refine wt_sld hx hb hX hbl hbA hS (k := i + 3) (by omega) (by omega) (v := nI qq) e3 dL_law_123 ?_
        refine lv_aload_n hx hb dL_law_124 rfl (lv_at hl 0 rfl) ?_
        refine lv_iload_n hx hb dL_law_125 rfl (lv_at hl 3 rfl) ?_
        refine lv_iconst (v := nI 4) hx hb dL_law_126 (by decide) ?_
        refine wt_iadd hx hb dL_law_127 ?_
        refine wt_sld hx hb hX hbl hbA hS (k := i + 4) (by omega) (by omega) (v := nI rr) e4 dL_law_128 ?_
        refine wt_cuti (wc := (wX cI cZ cL q ph pa ch en sz pr gc gb sc sh sl ct tok wt pn lt wp sd)) (w1 := (wX cI cZ cL q ((wt_gr (wt_gr (wt_gr ph pa ch sz 0 pp).1 (wt_gr ph pa ch sz 0 pp).2.1 (wt_gr ph pa ch sz 0 pp).2.2.1 (wt_gr ph pa ch sz 0 pp).2.2.2.1 (wt_gr ph pa ch sz 0 pp).2.2.2.2 qq).1 (wt_gr (wt_gr ph pa ch sz 0 pp).1 (wt_gr ph pa ch sz 0 pp).2.1 (wt_gr ph pa ch sz 0 pp).2.2.1 (wt_gr ph pa ch sz 0 pp).2.2.2.1 (wt_gr ph pa ch sz 0 pp).2.2.2.2 qq).2.1 (wt_gr (wt_gr ph pa ch sz 0 pp).1 (wt_gr ph pa ch sz 0 pp).2.1 (wt_gr ph pa ch sz 0 pp).2.2.1 (wt_gr ph pa ch sz 0 pp).2.2.2.1 (wt_gr ph pa ch sz 0 pp).2.2.2.2 qq).2.2.1 (wt_gr (wt_gr ph pa ch sz 0 pp).1 (wt_gr ph pa ch sz 0 pp).2.1 (wt_gr ph pa ch sz 0 pp).2.2.1 (wt_gr ph pa ch sz 0 pp).2.2.2.1 (wt_gr ph pa ch sz 0 pp).2.2.2.2 qq).2.2.2.1 (wt_gr (wt_gr ph pa ch sz 0 pp).1 (wt_gr ph pa ch sz 0 pp).2.1 (wt_gr ph pa ch sz 0 pp).2.2.1 (wt_gr ph pa ch sz 0 pp).2.2.2.1 (wt_gr ph pa ch sz 0 pp).2.2.2.2 qq).2.2.2.2 rr).1) ((wt_gr (wt_gr (wt_gr ph pa ch sz 0 pp).1 (wt_gr ph pa ch sz 0 pp).2.1 (wt_gr ph pa ch sz 0 pp).2.2.1 (wt_gr ph pa ch sz 0 pp).2.2.2.1 (wt_gr ph pa ch sz 0 pp).2.2.2.2 qq).1 (wt_gr (wt_gr ph pa ch sz 0 pp).1 (wt_gr ph pa ch sz 0 pp).2.1 (wt_gr ph pa ch sz 0 pp).2.2.1 (wt_gr ph pa ch sz 0 pp).2.2.2.1 (wt_gr ph pa ch sz 0 pp).2.2.2.2 qq).2.1 (wt_gr (wt_gr ph pa ch sz 0 pp).1 (wt_gr ph pa ch sz 0 pp).2.1 (wt_gr ph pa ch sz 0 pp).2.2.1 (wt_gr ph pa ch sz 0 pp).2.2.2.1 (wt_gr ph pa ch sz 0 pp).2.2.2.2 qq).2.2.1 (wt_gr (wt_gr ph pa ch sz 0 pp).1 (wt_gr ph pa ch sz 0 pp).2.1 (wt_gr ph pa ch sz 0 pp).2.2.1 (wt_gr ph pa ch sz 0 pp).2.2.2.1 (wt_gr ph pa ch sz 0 pp).2.2.2.2 qq).2.2.2.1 (wt_gr (wt_gr ph pa ch sz 0 pp).1 (wt_gr ph pa ch sz 0 pp).2.1 (wt_gr ph pa ch sz 0 pp).2.2.1 (wt_gr ph pa ch sz 0 pp).2.2.2.1 (wt_gr ph pa ch sz 0 pp).2.2.2.2 qq).2.2.2.2 rr).2.1) ((wt_gr (wt_gr (wt_gr ph pa ch sz 0 pp).1 (wt_gr ph pa ch sz 0 pp).2.1 (wt_gr ph pa ch sz 0 pp).2.2.1 (wt_gr ph pa ch sz 0 pp).2.2.2.1 (wt_gr ph pa ch sz 0 pp).2.2.2.2 qq).1 (wt_gr (wt_gr ph pa ch sz 0 pp).1 (wt_gr ph pa ch sz 0 pp).2.1 (wt_gr ph pa ch sz 0 pp).2.2.1 (wt_gr ph pa ch sz 0 pp).2.2.2.1 (wt_gr ph pa ch sz 0 pp).2.2.2.2 qq).2.1 (wt_gr (wt_gr ph pa ch sz 0 pp).1 (wt_gr ph pa ch sz 0 pp).2.1 (wt_gr ph pa ch sz 0 pp).2.2.1 (wt_gr ph pa ch sz 0 pp).2.2.2.1 (wt_gr ph pa ch sz 0 pp).2.2.2.2 qq).2.2.1 (wt_gr (wt_gr ph pa ch sz 0 pp).1 (wt_gr ph pa ch sz 0 pp).2.1 (wt_gr ph pa ch sz 0 pp).2.2.1 (wt_gr ph pa ch sz 0 pp).2.2.2.1 (wt_gr ph pa ch sz 0 pp).2.2.2.2 qq).2.2.2.1 (wt_gr (wt_gr ph pa ch sz 0 pp).1 (wt_gr ph pa ch sz 0 pp).2.1 (wt_gr ph pa ch sz 0 pp).2.2.1 (wt_gr ph pa ch sz 0 pp).2.2.2.1 (wt_gr ph pa ch sz 0 pp).2.2.2.2 qq).2.2.2.2 rr).2.2.1) (va_up en ((wt_gr (wt_gr (wt_gr ph pa ch sz 0 pp).1 (wt_gr ph pa ch sz 0 pp).2.1 (wt_gr ph pa ch sz 0 pp).2.2.1 (wt_gr ph pa ch sz 0 pp).2.2.2.1 (wt_gr ph pa ch sz 0 pp).2.2.2.2 qq).1 (wt_gr (wt_gr ph pa ch sz 0 pp).1 (wt_gr ph pa ch sz 0 pp).2.1 (wt_gr ph pa ch sz 0 pp).2.2.1 (wt_gr ph pa ch sz 0 pp).2.2.2.1 (wt_gr ph pa ch sz 0 pp).2.2.2.2 qq).2.1 (wt_gr (wt_gr ph pa ch sz 0 pp).1 (wt_gr ph pa ch sz 0 pp).2.1 (wt_gr ph pa ch sz 0 pp).2.2.1 (wt_gr ph pa ch sz 0 pp).2.2.2.1 (wt_gr ph pa ch sz 0 pp).2.2.2.2 qq).2.2.1 (wt_gr (wt_gr ph pa ch sz 0 pp).1 (wt_gr ph pa ch sz 0 pp).2.1 (wt_gr ph pa ch sz 0 pp).2.2.1 (wt_gr ph pa ch sz 0 pp).2.2.2.1 (wt_gr ph pa ch sz 0 pp).2.2.2.2 qq).2.2.2.1 (wt_gr (wt_gr ph pa ch sz 0 pp).1 (wt_gr ph pa ch sz 0 pp).2.1 (wt_gr ph pa ch sz 0 pp).2.2.1 (wt_gr ph pa ch sz 0 pp).2.2.2.1 (wt_gr ph pa ch sz 0 pp).2.2.2.2 qq).2.2.2.2 rr).2.2.2.2 * 4 + ww) true) ((wt_gr (wt_gr (wt_gr ph pa ch sz 0 pp).1 (wt_gr ph pa ch sz 0 pp).2.1 (wt_gr ph pa ch sz 0 pp).2.2.1 (wt_gr ph pa ch sz 0 pp).2.2.2.1 (wt_gr ph pa ch sz 0 pp).2.2.2.2 qq).1 (wt_gr (wt_gr ph pa ch sz 0 pp).1 (wt_gr ph pa ch sz 0 pp).2.1 (wt_gr ph pa ch sz 0 pp).2.2.1 (wt_gr ph pa ch sz 0 pp).2.2.2.1 (wt_gr ph pa ch sz 0 pp).2.2.2.2 qq).2.1 (wt_gr (wt_gr ph pa ch sz 0 pp).1 (wt_gr ph pa ch sz 0 pp).2.1 (wt_gr ph pa ch sz 0 pp).2.2.1 (wt_gr ph pa ch sz 0 pp).2.2.2.1 (wt_gr ph pa ch sz 0 pp).2.2.2.2 qq).2.2.1 (wt_gr (wt_gr ph pa ch sz 0 pp).1 (wt_gr ph pa ch sz 0 pp).2.1 (wt_gr ph pa ch sz 0 pp).2.2.1 (wt_gr ph pa ch sz 0 pp).2.2.2.1 (wt_gr ph pa ch sz 0 pp).2.2.2.2 qq).2.2.2.1 (wt_gr (wt_gr ph pa ch sz 0 pp).1 (wt_gr ph pa ch sz 0 pp).2.1 (wt_gr ph pa ch sz 0 pp).2.2.1 (wt_gr ph pa ch sz 0 pp).2.2.2.1 (wt_gr ph pa ch sz 0 pp).2.2.2.2 qq).2.2.2.2 rr).2.2.2.1) (pr + 1) gc gb sc sh sl ct tok wt pn lt wp false)) (wr := (wM cI cZ cL qm kn co bo pr wd zs fp sh sl ct sc ea dn cd nx nd nc al wo wh)) (w2 := (wX cI cZ cL q ((wt_gr (wt_gr (wt_gr ph pa ch sz 0 pp).1 (wt_gr ph pa ch sz 0 pp).2.1 (wt_gr ph pa ch sz 0 pp).2.2.1 (wt_gr ph pa ch sz 0 pp).2.2.2.1 (wt_gr ph pa ch sz 0 pp).2.2.2.2 qq).1 (wt_gr (wt_gr ph pa ch sz 0 pp).1 (wt_gr ph pa ch sz 0 pp).2.1 (wt_gr ph pa ch sz 0 pp).2.2.1 (wt_gr ph pa ch sz 0 pp).2.2.2.1 (wt_gr ph pa ch sz 0 pp).2.2.2.2 qq).2.1 (wt_gr (wt_gr ph pa ch sz 0 pp).1 (wt_gr ph pa ch sz 0 pp).2.1 (wt_gr ph pa ch sz 0 pp).2.2.1 (wt_gr ph pa ch sz 0 pp).2.2.2.1 (wt_gr ph pa ch sz 0 pp).2.2.2.2 qq).2.2.1 (wt_gr (wt_gr ph pa ch sz 0 pp).1 (wt_gr ph pa ch sz 0 pp).2.1 (wt_gr ph pa ch sz 0 pp).2.2.1 (wt_gr ph pa ch sz 0 pp).2.2.2.1 (wt_gr ph pa ch sz 0 pp).2.2.2.2 qq).2.2.2.1 (wt_gr (wt_gr ph pa ch sz 0 pp).1 (wt_gr ph pa ch sz 0 pp).2.1 (wt_gr ph pa ch sz 0 pp).2.2.1 (wt_gr ph pa ch sz 0 pp).2.2.2.1 (wt_gr ph pa ch sz 0 pp).2.2.2.2 qq).2.2.2.2 rr).1) ((wt_gr (wt_gr (wt_gr ph pa ch sz 0 pp).1 (wt_gr ph pa ch sz 0 pp).2.1 (wt_gr ph pa ch sz 0 pp).2.2.1 (wt_gr ph pa ch sz 0 pp).2.2.2.1 (wt_gr ph pa ch sz 0 pp).2.2.2.2 qq).1 (wt_gr (wt_gr ph pa ch sz 0 pp).1 (wt_gr ph pa ch sz 0 pp).2.1 (wt_gr ph pa ch sz 0 pp).2.2.1 (wt_gr ph pa ch sz 0 pp).2.2.2.1 (wt_gr ph pa ch sz 0 pp).2.2.2.2 qq).2.1 (wt_gr (wt_gr ph pa ch sz 0 pp).1 (wt_gr ph pa ch sz 0 pp).2.1 (wt_gr ph pa ch sz 0 pp).2.2.1 (wt_gr ph pa ch sz 0 pp).2.2.2.1 (wt_gr ph pa ch sz 0 pp).2.2.2.2 qq).2.2.1 (wt_gr (wt_gr ph pa ch sz 0 pp).1 (wt_gr ph pa ch sz 0 pp).2.1 (wt_gr ph pa ch sz 0 pp).2.2.1 (wt_gr ph pa ch sz 0 pp).2.2.2.1 (wt_gr ph pa ch sz 0 pp).2.2.2.2 qq).2.2.2.1 (wt_gr (wt_gr ph pa ch sz 0 pp).1 (wt_gr ph pa ch sz 0 pp).2.1 (wt_gr ph pa ch sz 0 pp).2.2.1 (wt_gr ph pa ch sz 0 pp).2.2.2.1 (wt_gr ph pa ch sz 0 pp).2.2.2.2 qq).2.2.2.2 rr).2.1) ((wt_gr (wt_gr (wt_gr ph pa ch sz 0 pp).1 (wt_gr ph pa ch sz 0 pp).2.1 (wt_gr ph pa ch sz 0 pp).2.2.1 (wt_gr ph pa ch sz 0 pp).2.2.2.1 (wt_gr ph pa ch sz 0 pp).2.2.2.2 qq).1 (wt_gr (wt_gr ph pa ch sz 0 pp).1 (wt_gr ph pa ch sz 0 pp).2.1 (wt_gr ph pa ch sz 0 pp).2.2.1 (wt_gr ph pa ch sz 0 pp).2.2.2.1 (wt_gr ph pa ch sz 0 pp).2.2.2.2 qq).2.1 (wt_gr (wt_gr ph pa ch sz 0 pp).1 (wt_gr ph pa ch sz 0 pp).2.1 (wt_gr ph pa ch sz 0 pp).2.2.1 (wt_gr ph pa ch sz 0 pp).2.2.2.1 (wt_gr ph pa ch sz 0 pp).2.2.2.2 qq).2.2.1 (wt_gr (wt_gr ph pa ch sz 0 pp).1 (wt_gr ph pa ch sz 0 pp).2.1 (wt_gr ph pa ch sz 0 pp).2.2.1 (wt_gr ph pa ch sz 0 pp).2.2.2.1 (wt_gr ph pa ch sz 0 pp).2.2.2.2 qq).2.2.2.1 (wt_gr (wt_gr ph pa ch sz 0 pp).1 (wt_gr ph pa ch sz 0 pp).2.1 (wt_gr ph pa ch sz 0 pp).2.2.1 (wt_gr ph pa ch sz 0 pp).2.2.2.1 (wt_gr ph pa ch sz 0 pp).2.2.2.2 qq).2.2.2.2 rr).2.2.1) (va_up en ((wt_gr (wt_gr (wt_gr ph pa ch sz 0 pp).1 (wt_gr ph pa ch sz 0 pp).2.1 (wt_gr ph pa ch sz 0 pp).2.2.1 (wt_gr ph pa ch sz 0 pp).2.2.2.1 (wt_gr ph pa ch sz 0 pp).2.2.2.2 qq).1 (wt_gr (wt_gr ph pa ch sz 0 pp).1 (wt_gr ph pa ch sz 0 pp).2.1 (wt_gr ph pa ch sz 0 pp).2.2.1 (wt_gr ph pa ch sz 0 pp).2.2.2.1 (wt_gr ph pa ch sz 0 pp).2.2.2.2 qq).2.1 (wt_gr (wt_gr ph pa ch sz 0 pp).1 (wt_gr ph pa ch sz 0 pp).2.1 (wt_gr ph pa ch sz 0 pp).2.2.1 (wt_gr ph pa ch sz 0 pp).2.2.2.1 (wt_gr ph pa ch sz 0 pp).2.2.2.2 qq).2.2.1 (wt_gr (wt_gr ph pa ch sz 0 pp).1 (wt_gr ph pa ch sz 0 pp).2.1 (wt_gr ph pa ch sz 0 pp).2.2.1 (wt_gr ph pa ch sz 0 pp).2.2.2.1 (wt_gr ph pa ch sz 0 pp).2.2.2.2 qq).2.2.2.1 (wt_gr (wt_gr ph pa ch sz 0 pp).1 (wt_gr ph pa ch sz 0 pp).2.1 (wt_gr ph pa ch sz 0 pp).2.2.1 (wt_gr ph pa ch sz 0 pp).2.2.2.1 (wt_gr ph pa ch sz 0 pp).2.2.2.2 qq).2.2.2.2 rr).2.2.2.2 * 4 + ww) true) ((wt_gr (wt_gr (wt_gr ph pa ch sz 0 pp).1 (wt_gr ph pa ch sz 0 pp).2.1 (wt_gr ph pa ch sz 0 pp).2.2.1 (wt_gr ph pa ch sz 0 pp).2.2.2.1 (wt_gr ph pa ch sz 0 pp).2.2.2.2 qq).1 (wt_gr (wt_gr ph pa ch sz 0 pp).1 (wt_gr ph pa ch sz 0 pp).2.1 (wt_gr ph pa ch sz 0 pp).2.2.1 (wt_gr ph pa ch sz 0 pp).2.2.2.1 (wt_gr ph pa ch sz 0 pp).2.2.2.2 qq).2.1 (wt_gr (wt_gr ph pa ch sz 0 pp).1 (wt_gr ph pa ch sz 0 pp).2.1 (wt_gr ph pa ch sz 0 pp).2.2.1 (wt_gr ph pa ch sz 0 pp).2.2.2.1 (wt_gr ph pa ch sz 0 pp).2.2.2.2 qq).2.2.1 (wt_gr (wt_gr ph pa ch sz 0 pp).1 (wt_gr ph pa ch sz 0 pp).2.1 (wt_gr ph pa ch sz 0 pp).2.2.1 (wt_gr ph pa ch sz 0 pp).2.2.2.1 (wt_gr ph pa ch sz 0 pp).2.2.2.2 qq).2.2.2.1 (wt_gr (wt_gr ph pa ch sz 0 pp).1 (wt_gr ph pa ch sz 0 pp).2.1 (wt_gr ph pa ch sz 0 pp).2.2.1 (wt_gr ph pa ch sz 0 pp).2.2.2.1 (wt_gr ph pa ch sz 0 pp).2.2.2.2 qq).2.2.2.2 rr).2.2.2.1) (pr + 1) gc gb sc sh sl ct tok wt pn lt wp false) ++ (wM cI cZ cL qm kn co bo pr wd zs fp sh sl ct sc ea dn cd nx nd nc al wo wh)) (va_runV (As := [.int (nI ww), .int (nI pp), .int (nI qq), .int (nI rr)]) (rest := []) ⟨hx, hb, hml, hown, ht⟩ (c_X_say_3a l dC dI cI cZ cL q H.size ph pa ch en sz pr gc gb sc sh sl ct tok wt pn lt wp sd ww pp qq rr hww hpp hqq hrr hch hm8 h7 (hhd.trans hdu) (by omega)) (cwV 4 ht (good_V m_129 m_130 m_131 m_1 m_132) rfl rfl rfl (by decide +kernel) ⟨Nat.le_of_ble_eq_true rfl, Nat.le_of_ble_eq_true rfl⟩) (wt_preVw hK hN (hP.sub [0, 1, 2, 3, 4, 5, 6, 7, 8, 9, 10, 11, 12, 13, 14, 15, 16, 17] rfl) (hD.sub [0, 1, 2, 3, 4, 5, 6, 7, 8, 9, 10, 11, 12, 13, 14, 15, 16, 17] (by decide) rfl) (va_recv hK hP (ci := 0) (q0 := 0) rfl rfl)) rfl rfl hl.1 rfl (lv_room (Nat.le_of_ble_eq_true rfl)) dL_law_129 ⟨Nat.le_of_ble_eq_true rfl, Nat.le_of_ble_eq_true rfl⟩) hP hD hS hA [0, 1, 2, 3, 4, 5, 6, 7, 8, 9, 10, 11, 12, 13, 14, 15, 16, 17] [18, 19, 20, 21, 22, 23, 24, 25, 26, 27, 28, 29, 30, 31, 32, 33] rfl rfl (by decide) (by decide) [16, 17, 18, 19, 20, 21, 22, 23, 24, 25, 26, 27, 28, 29, 30, 31, 32, 33, 0, 1, 2, 3, 4, 5, 6, 7, 8, 9, 10, 11, 12, 13, 14, 15] (by decide) rfl (fun H locs hP hD hS => ?_)
        refine W.widen (k := 34) (n := 14336) (Nat.le_of_ble_eq_true rfl) (Nat.le_of_ble_eq_true rfl) ?_
        refine lv_aload_n hx hb dL_law_132 rfl (lv_at hl 2 rfl) ?_
        refine lv_aload_n hx hb dL_law_133 rfl (lv_at hl 0 rfl) ?_
        refine lv_iload_n hx hb dL_law_134 rfl (lv_at hl 3 rfl) ?_
        refine lv_iconst (v := nI 1) hx hb dL_law_135 (by decide) ?_
        refine wt_iadd hx hb dL_law_136 ?_
        refine wt_sld hx hb hX hbl hbA hS (k := i + 1) (by omega) (by omega) (v := nI ww) e1 dL_law_137 ?_
        refine lv_aload_n hx hb dL_law_138 rfl (lv_at hl 0 rfl) ?_
        refine lv_iload_n hx hb dL_law_139 rfl (lv_at hl 3 rfl) ?_
        refine lv_iconst (v := nI 2) hx hb dL_law_140 (by decide) ?_
        refine wt_iadd hx hb dL_law_141 ?_
        refine wt_sld hx hb hX hbl hbA hS (k := i + 2) (by omega) (by omega) (v := nI pp) e2 dL_law_142 ?_
        refine lv_aload_n hx hb dL_law_143 rfl (lv_at hl 0 rfl) ?_
        refine lv_iload_n hx hb dL_law_144 rfl (lv_at hl 3 rfl) ?_
        refine lv_iconst (v := nI 3) hx hb dL_law_145 (by decide) ?_
        refine wt_iadd hx hb dL_law_146 ?_
        refine wt_sld hx hb hX hbl hbA hS (k := i + 3) (by omega) (by omega) (v := nI qq) e3 dL_law_147 ?_
        refine lv_aload_n hx hb dL_law_148 rfl (lv_at hl 0 rfl) ?_
        refine lv_iload_n hx hb dL_law_149 rfl (lv_at hl 3 rfl) ?_
        refine lv_iconst (v := nI 4) hx hb dL_law_150 (by decide) ?_
        refine wt_iadd hx hb dL_law_151 ?_
        refine wt_sld hx hb hX hbl hbA hS (k := i + 4) (by omega) (by omega) (v := nI rr) e4 dL_law_152 ?_
        refine wt_cuti (wc := (wM cI cZ cL qm kn co bo pr wd zs fp sh sl ct sc ea dn cd nx nd nc al wo wh)) (w1 := (wM cI cZ cL qm kn co bo (pr + 1) (va_up wd pr ww) (va_up zs pr 3) (upd (upd (upd fp (3 * pr) (nI pp)) (3 * pr + 1) (nI qq)) (3 * pr + 2) (nI rr)) sh sl ct sc ea dn cd nx nd nc al wo wh)) (wr := (wX cI cZ cL q ((wt_gr (wt_gr (wt_gr ph pa ch sz 0 pp).1 (wt_gr ph pa ch sz 0 pp).2.1 (wt_gr ph pa ch sz 0 pp).2.2.1 (wt_gr ph pa ch sz 0 pp).2.2.2.1 (wt_gr ph pa ch sz 0 pp).2.2.2.2 qq).1 (wt_gr (wt_gr ph pa ch sz 0 pp).1 (wt_gr ph pa ch sz 0 pp).2.1 (wt_gr ph pa ch sz 0 pp).2.2.1 (wt_gr ph pa ch sz 0 pp).2.2.2.1 (wt_gr ph pa ch sz 0 pp).2.2.2.2 qq).2.1 (wt_gr (wt_gr ph pa ch sz 0 pp).1 (wt_gr ph pa ch sz 0 pp).2.1 (wt_gr ph pa ch sz 0 pp).2.2.1 (wt_gr ph pa ch sz 0 pp).2.2.2.1 (wt_gr ph pa ch sz 0 pp).2.2.2.2 qq).2.2.1 (wt_gr (wt_gr ph pa ch sz 0 pp).1 (wt_gr ph pa ch sz 0 pp).2.1 (wt_gr ph pa ch sz 0 pp).2.2.1 (wt_gr ph pa ch sz 0 pp).2.2.2.1 (wt_gr ph pa ch sz 0 pp).2.2.2.2 qq).2.2.2.1 (wt_gr (wt_gr ph pa ch sz 0 pp).1 (wt_gr ph pa ch sz 0 pp).2.1 (wt_gr ph pa ch sz 0 pp).2.2.1 (wt_gr ph pa ch sz 0 pp).2.2.2.1 (wt_gr ph pa ch sz 0 pp).2.2.2.2 qq).2.2.2.2 rr).1) ((wt_gr (wt_gr (wt_gr ph pa ch sz 0 pp).1 (wt_gr ph pa ch sz 0 pp).2.1 (wt_gr ph pa ch sz 0 pp).2.2.1 (wt_gr ph pa ch sz 0 pp).2.2.2.1 (wt_gr ph pa ch sz 0 pp).2.2.2.2 qq).1 (wt_gr (wt_gr ph pa ch sz 0 pp).1 (wt_gr ph pa ch sz 0 pp).2.1 (wt_gr ph pa ch sz 0 pp).2.2.1 (wt_gr ph pa ch sz 0 pp).2.2.2.1 (wt_gr ph pa ch sz 0 pp).2.2.2.2 qq).2.1 (wt_gr (wt_gr ph pa ch sz 0 pp).1 (wt_gr ph pa ch sz 0 pp).2.1 (wt_gr ph pa ch sz 0 pp).2.2.1 (wt_gr ph pa ch sz 0 pp).2.2.2.1 (wt_gr ph pa ch sz 0 pp).2.2.2.2 qq).2.2.1 (wt_gr (wt_gr ph pa ch sz 0 pp).1 (wt_gr ph pa ch sz 0 pp).2.1 (wt_gr ph pa ch sz 0 pp).2.2.1 (wt_gr ph pa ch sz 0 pp).2.2.2.1 (wt_gr ph pa ch sz 0 pp).2.2.2.2 qq).2.2.2.1 (wt_gr (wt_gr ph pa ch sz 0 pp).1 (wt_gr ph pa ch sz 0 pp).2.1 (wt_gr ph pa ch sz 0 pp).2.2.1 (wt_gr ph pa ch sz 0 pp).2.2.2.1 (wt_gr ph pa ch sz 0 pp).2.2.2.2 qq).2.2.2.2 rr).2.1) ((wt_gr (wt_gr (wt_gr ph pa ch sz 0 pp).1 (wt_gr ph pa ch sz 0 pp).2.1 (wt_gr ph pa ch sz 0 pp).2.2.1 (wt_gr ph pa ch sz 0 pp).2.2.2.1 (wt_gr ph pa ch sz 0 pp).2.2.2.2 qq).1 (wt_gr (wt_gr ph pa ch sz 0 pp).1 (wt_gr ph pa ch sz 0 pp).2.1 (wt_gr ph pa ch sz 0 pp).2.2.1 (wt_gr ph pa ch sz 0 pp).2.2.2.1 (wt_gr ph pa ch sz 0 pp).2.2.2.2 qq).2.1 (wt_gr (wt_gr ph pa ch sz 0 pp).1 (wt_gr ph pa ch sz 0 pp).2.1 (wt_gr ph pa ch sz 0 pp).2.2.1 (wt_gr ph pa ch sz 0 pp).2.2.2.1 (wt_gr ph pa ch sz 0 pp).2.2.2.2 qq).2.2.1 (wt_gr (wt_gr ph pa ch sz 0 pp).1 (wt_gr ph pa ch sz 0 pp).2.1 (wt_gr ph pa ch sz 0 pp).2.2.1 (wt_gr ph pa ch sz 0 pp).2.2.2.1 (wt_gr ph pa ch sz 0 pp).2.2.2.2 qq).2.2.2.1 (wt_gr (wt_gr ph pa ch sz 0 pp).1 (wt_gr ph pa ch sz 0 pp).2.1 (wt_gr ph pa ch sz 0 pp).2.2.1 (wt_gr ph pa ch sz 0 pp).2.2.2.1 (wt_gr ph pa ch sz 0 pp).2.2.2.2 qq).2.2.2.2 rr).2.2.1) (va_up en ((wt_gr (wt_gr (wt_gr ph pa ch sz 0 pp).1 (wt_gr ph pa ch sz 0 pp).2.1 (wt_gr ph pa ch sz 0 pp).2.2.1 (wt_gr ph pa ch sz 0 pp).2.2.2.1 (wt_gr ph pa ch sz 0 pp).2.2.2.2 qq).1 (wt_gr (wt_gr ph pa ch sz 0 pp).1 (wt_gr ph pa ch sz 0 pp).2.1 (wt_gr ph pa ch sz 0 pp).2.2.1 (wt_gr ph pa ch sz 0 pp).2.2.2.1 (wt_gr ph pa ch sz 0 pp).2.2.2.2 qq).2.1 (wt_gr (wt_gr ph pa ch sz 0 pp).1 (wt_gr ph pa ch sz 0 pp).2.1 (wt_gr ph pa ch sz 0 pp).2.2.1 (wt_gr ph pa ch sz 0 pp).2.2.2.1 (wt_gr ph pa ch sz 0 pp).2.2.2.2 qq).2.2.1 (wt_gr (wt_gr ph pa ch sz 0 pp).1 (wt_gr ph pa ch sz 0 pp).2.1 (wt_gr ph pa ch sz 0 pp).2.2.1 (wt_gr ph pa ch sz 0 pp).2.2.2.1 (wt_gr ph pa ch sz 0 pp).2.2.2.2 qq).2.2.2.1 (wt_gr (wt_gr ph pa ch sz 0 pp).1 (wt_gr ph pa ch sz 0 pp).2.1 (wt_gr ph pa ch sz 0 pp).2.2.1 (wt_gr ph pa ch sz 0 pp).2.2.2.1 (wt_gr ph pa ch sz 0 pp).2.2.2.2 qq).2.2.2.2 rr).2.2.2.2 * 4 + ww) true) ((wt_gr (wt_gr (wt_gr ph pa ch sz 0 pp).1 (wt_gr ph pa ch sz 0 pp).2.1 (wt_gr ph pa ch sz 0 pp).2.2.1 (wt_gr ph pa ch sz 0 pp).2.2.2.1 (wt_gr ph pa ch sz 0 pp).2.2.2.2 qq).1 (wt_gr (wt_gr ph pa ch sz 0 pp).1 (wt_gr ph pa ch sz 0 pp).2.1 (wt_gr ph pa ch sz 0 pp).2.2.1 (wt_gr ph pa ch sz 0 pp).2.2.2.1 (wt_gr ph pa ch sz 0 pp).2.2.2.2 qq).2.1 (wt_gr (wt_gr ph pa ch sz 0 pp).1 (wt_gr ph pa ch sz 0 pp).2.1 (wt_gr ph pa ch sz 0 pp).2.2.1 (wt_gr ph pa ch sz 0 pp).2.2.2.1 (wt_gr ph pa ch sz 0 pp).2.2.2.2 qq).2.2.1 (wt_gr (wt_gr ph pa ch sz 0 pp).1 (wt_gr ph pa ch sz 0 pp).2.1 (wt_gr ph pa ch sz 0 pp).2.2.1 (wt_gr ph pa ch sz 0 pp).2.2.2.1 (wt_gr ph pa ch sz 0 pp).2.2.2.2 qq).2.2.2.1 (wt_gr (wt_gr ph pa ch sz 0 pp).1 (wt_gr ph pa ch sz 0 pp).2.1 (wt_gr ph pa ch sz 0 pp).2.2.1 (wt_gr ph pa ch sz 0 pp).2.2.2.1 (wt_gr ph pa ch sz 0 pp).2.2.2.2 qq).2.2.2.2 rr).2.2.2.1) (pr + 1) gc gb sc sh sl ct tok wt pn lt wp false)) (w2 := (wX cI cZ cL q ((wt_gr (wt_gr (wt_gr ph pa ch sz 0 pp).1 (wt_gr ph pa ch sz 0 pp).2.1 (wt_gr ph pa ch sz 0 pp).2.2.1 (wt_gr ph pa ch sz 0 pp).2.2.2.1 (wt_gr ph pa ch sz 0 pp).2.2.2.2 qq).1 (wt_gr (wt_gr ph pa ch sz 0 pp).1 (wt_gr ph pa ch sz 0 pp).2.1 (wt_gr ph pa ch sz 0 pp).2.2.1 (wt_gr ph pa ch sz 0 pp).2.2.2.1 (wt_gr ph pa ch sz 0 pp).2.2.2.2 qq).2.1 (wt_gr (wt_gr ph pa ch sz 0 pp).1 (wt_gr ph pa ch sz 0 pp).2.1 (wt_gr ph pa ch sz 0 pp).2.2.1 (wt_gr ph pa ch sz 0 pp).2.2.2.1 (wt_gr ph pa ch sz 0 pp).2.2.2.2 qq).2.2.1 (wt_gr (wt_gr ph pa ch sz 0 pp).1 (wt_gr ph pa ch sz 0 pp).2.1 (wt_gr ph pa ch sz 0 pp).2.2.1 (wt_gr ph pa ch sz 0 pp).2.2.2.1 (wt_gr ph pa ch sz 0 pp).2.2.2.2 qq).2.2.2.1 (wt_gr (wt_gr ph pa ch sz 0 pp).1 (wt_gr ph pa ch sz 0 pp).2.1 (wt_gr ph pa ch sz 0 pp).2.2.1 (wt_gr ph pa ch sz 0 pp).2.2.2.1 (wt_gr ph pa ch sz 0 pp).2.2.2.2 qq).2.2.2.2 rr).1) ((wt_gr (wt_gr (wt_gr ph pa ch sz 0 pp).1 (wt_gr ph pa ch sz 0 pp).2.1 (wt_gr ph pa ch sz 0 pp).2.2.1 (wt_gr ph pa ch sz 0 pp).2.2.2.1 (wt_gr ph pa ch sz 0 pp).2.2.2.2 qq).1 (wt_gr (wt_gr ph pa ch sz 0 pp).1 (wt_gr ph pa ch sz 0 pp).2.1 (wt_gr ph pa ch sz 0 pp).2.2.1 (wt_gr ph pa ch sz 0 pp).2.2.2.1 (wt_gr ph pa ch sz 0 pp).2.2.2.2 qq).2.1 (wt_gr (wt_gr ph pa ch sz 0 pp).1 (wt_gr ph pa ch sz 0 pp).2.1 (wt_gr ph pa ch sz 0 pp).2.2.1 (wt_gr ph pa ch sz 0 pp).2.2.2.1 (wt_gr ph pa ch sz 0 pp).2.2.2.2 qq).2.2.1 (wt_gr (wt_gr ph pa ch sz 0 pp).1 (wt_gr ph pa ch sz 0 pp).2.1 (wt_gr ph pa ch sz 0 pp).2.2.1 (wt_gr ph pa ch sz 0 pp).2.2.2.1 (wt_gr ph pa ch sz 0 pp).2.2.2.2 qq).2.2.2.1 (wt_gr (wt_gr ph pa ch sz 0 pp).1 (wt_gr ph pa ch sz 0 pp).2.1 (wt_gr ph pa ch sz 0 pp).2.2.1 (wt_gr ph pa ch sz 0 pp).2.2.2.1 (wt_gr ph pa ch sz 0 pp).2.2.2.2 qq).2.2.2.2 rr).2.1) ((wt_gr (wt_gr (wt_gr ph pa ch sz 0 pp).1 (wt_gr ph pa ch sz 0 pp).2.1 (wt_gr ph pa ch sz 0 pp).2.2.1 (wt_gr ph pa ch sz 0 pp).2.2.2.1 (wt_gr ph pa ch sz 0 pp).2.2.2.2 qq).1 (wt_gr (wt_gr ph pa ch sz 0 pp).1 (wt_gr ph pa ch sz 0 pp).2.1 (wt_gr ph pa ch sz 0 pp).2.2.1 (wt_gr ph pa ch sz 0 pp).2.2.2.1 (wt_gr ph pa ch sz 0 pp).2.2.2.2 qq).2.1 (wt_gr (wt_gr ph pa ch sz 0 pp).1 (wt_gr ph pa ch sz 0 pp).2.1 (wt_gr ph pa ch sz 0 pp).2.2.1 (wt_gr ph pa ch sz 0 pp).2.2.2.1 (wt_gr ph pa ch sz 0 pp).2.2.2.2 qq).2.2.1 (wt_gr (wt_gr ph pa ch sz 0 pp).1 (wt_gr ph pa ch sz 0 pp).2.1 (wt_gr ph pa ch sz 0 pp).2.2.1 (wt_gr ph pa ch sz 0 pp).2.2.2.1 (wt_gr ph pa ch sz 0 pp).2.2.2.2 qq).2.2.2.1 (wt_gr (wt_gr ph pa ch sz 0 pp).1 (wt_gr ph pa ch sz 0 pp).2.1 (wt_gr ph pa ch sz 0 pp).2.2.1 (wt_gr ph pa ch sz 0 pp).2.2.2.1 (wt_gr ph pa ch sz 0 pp).2.2.2.2 qq).2.2.2.2 rr).2.2.1) (va_up en ((wt_gr (wt_gr (wt_gr ph pa ch sz 0 pp).1 (wt_gr ph pa ch sz 0 pp).2.1 (wt_gr ph pa ch sz 0 pp).2.2.1 (wt_gr ph pa ch sz 0 pp).2.2.2.1 (wt_gr ph pa ch sz 0 pp).2.2.2.2 qq).1 (wt_gr (wt_gr ph pa ch sz 0 pp).1 (wt_gr ph pa ch sz 0 pp).2.1 (wt_gr ph pa ch sz 0 pp).2.2.1 (wt_gr ph pa ch sz 0 pp).2.2.2.1 (wt_gr ph pa ch sz 0 pp).2.2.2.2 qq).2.1 (wt_gr (wt_gr ph pa ch sz 0 pp).1 (wt_gr ph pa ch sz 0 pp).2.1 (wt_gr ph pa ch sz 0 pp).2.2.1 (wt_gr ph pa ch sz 0 pp).2.2.2.1 (wt_gr ph pa ch sz 0 pp).2.2.2.2 qq).2.2.1 (wt_gr (wt_gr ph pa ch sz 0 pp).1 (wt_gr ph pa ch sz 0 pp).2.1 (wt_gr ph pa ch sz 0 pp).2.2.1 (wt_gr ph pa ch sz 0 pp).2.2.2.1 (wt_gr ph pa ch sz 0 pp).2.2.2.2 qq).2.2.2.1 (wt_gr (wt_gr ph pa ch sz 0 pp).1 (wt_gr ph pa ch sz 0 pp).2.1 (wt_gr ph pa ch sz 0 pp).2.2.1 (wt_gr ph pa ch sz 0 pp).2.2.2.1 (wt_gr ph pa ch sz 0 pp).2.2.2.2 qq).2.2.2.2 rr).2.2.2.2 * 4 + ww) true) ((wt_gr (wt_gr (wt_gr ph pa ch sz 0 pp).1 (wt_gr ph pa ch sz 0 pp).2.1 (wt_gr ph pa ch sz 0 pp).2.2.1 (wt_gr ph pa ch sz 0 pp).2.2.2.1 (wt_gr ph pa ch sz 0 pp).2.2.2.2 qq).1 (wt_gr (wt_gr ph pa ch sz 0 pp).1 (wt_gr ph pa ch sz 0 pp).2.1 (wt_gr ph pa ch sz 0 pp).2.2.1 (wt_gr ph pa ch sz 0 pp).2.2.2.1 (wt_gr ph pa ch sz 0 pp).2.2.2.2 qq).2.1 (wt_gr (wt_gr ph pa ch sz 0 pp).1 (wt_gr ph pa ch sz 0 pp).2.1 (wt_gr ph pa ch sz 0 pp).2.2.1 (wt_gr ph pa ch sz 0 pp).2.2.2.1 (wt_gr ph pa ch sz 0 pp).2.2.2.2 qq).2.2.1 (wt_gr (wt_gr ph pa ch sz 0 pp).1 (wt_gr ph pa ch sz 0 pp).2.1 (wt_gr ph pa ch sz 0 pp).2.2.1 (wt_gr ph pa ch sz 0 pp).2.2.2.1 (wt_gr ph pa ch sz 0 pp).2.2.2.2 qq).2.2.2.1 (wt_gr (wt_gr ph pa ch sz 0 pp).1 (wt_gr ph pa ch sz 0 pp).2.1 (wt_gr ph pa ch sz 0 pp).2.2.1 (wt_gr ph pa ch sz 0 pp).2.2.2.1 (wt_gr ph pa ch sz 0 pp).2.2.2.2 qq).2.2.2.2 rr).2.2.2.1) (pr + 1) gc gb sc sh sl ct tok wt pn lt wp false) ++ (wM cI cZ cL qm kn co bo (pr + 1) (va_up wd pr ww) (va_up zs pr 3) (upd (upd (upd fp (3 * pr) (nI pp)) (3 * pr + 1) (nI qq)) (3 * pr + 2) (nI rr)) sh sl ct sc ea dn cd nx nd nc al wo wh)) (va_runV (As := [.int (nI ww), .int (nI pp), .int (nI qq), .int (nI rr)]) (rest := [.int (nI ((wt_gr (wt_gr (wt_gr ph pa ch sz 0 pp).1 (wt_gr ph pa ch sz 0 pp).2.1 (wt_gr ph pa ch sz 0 pp).2.2.1 (wt_gr ph pa ch sz 0 pp).2.2.2.1 (wt_gr ph pa ch sz 0 pp).2.2.2.2 qq).1 (wt_gr (wt_gr ph pa ch sz 0 pp).1 (wt_gr ph pa ch sz 0 pp).2.1 (wt_gr ph pa ch sz 0 pp).2.2.1 (wt_gr ph pa ch sz 0 pp).2.2.2.1 (wt_gr ph pa ch sz 0 pp).2.2.2.2 qq).2.1 (wt_gr (wt_gr ph pa ch sz 0 pp).1 (wt_gr ph pa ch sz 0 pp).2.1 (wt_gr ph pa ch sz 0 pp).2.2.1 (wt_gr ph pa ch sz 0 pp).2.2.2.1 (wt_gr ph pa ch sz 0 pp).2.2.2.2 qq).2.2.1 (wt_gr (wt_gr ph pa ch sz 0 pp).1 (wt_gr ph pa ch sz 0 pp).2.1 (wt_gr ph pa ch sz 0 pp).2.2.1 (wt_gr ph pa ch sz 0 pp).2.2.2.1 (wt_gr ph pa ch sz 0 pp).2.2.2.2 qq).2.2.2.1 (wt_gr (wt_gr ph pa ch sz 0 pp).1 (wt_gr ph pa ch sz 0 pp).2.1 (wt_gr ph pa ch sz 0 pp).2.2.1 (wt_gr ph pa ch sz 0 pp).2.2.2.1 (wt_gr ph pa ch sz 0 pp).2.2.2.2 qq).2.2.2.2 rr).2.2.2.1))]) ⟨hx, hb, hml, hown, ht⟩ (c_M_say_3a l dC dI cI cZ cL qm H.size kn co bo pr wd zs fp sh sl ct sc ea dn cd nx nd nc al wo wh ww pp qq rr hww hpp hqq hrr h7 hzs hwd hdu) (cwV 4 ht (good_V m_467 m_468 m_469 m_7 m_470) rfl rfl rfl (by decide +kernel) ⟨Nat.le_of_ble_eq_true rfl, Nat.le_of_ble_eq_true rfl⟩) (wt_preVw hK hN (hP.sub [18, 19, 20, 21, 22, 23, 24, 25, 26, 27, 28, 29, 30, 31, 32, 33] rfl) (hD.sub [18, 19, 20, 21, 22, 23, 24, 25, 26, 27, 28, 29, 30, 31, 32, 33] (by decide) rfl) (va_recv hK hP (ci := 5) (q0 := 18) rfl rfl)) rfl rfl hl.1 rfl (lv_room (Nat.le_of_ble_eq_true rfl)) dL_law_153 ⟨Nat.le_of_ble_eq_true rfl, Nat.le_of_ble_eq_true rfl⟩) hP hD hS hA [18, 19, 20, 21, 22, 23, 24, 25, 26, 27, 28, 29, 30, 31, 32, 33] [0, 1, 2, 3, 4, 5, 6, 7, 8, 9, 10, 11, 12, 13, 14, 15, 16, 17] rfl rfl (by decide) (by decide) [0, 1, 2, 3, 4, 5, 6, 7, 8, 9, 10, 11, 12, 13, 14, 15, 16, 17, 18, 19, 20, 21, 22, 23, 24, 25, 26, 27, 28, 29, 30, 31, 32, 33] (by decide) rfl (fun H locs hP hD hS => ?_)
        refine W.widen (k := 34) (n := 14336) (Nat.le_of_ble_eq_true rfl) (Nat.le_of_ble_eq_true rfl) ?_
        refine lv_icmp_eq (tgt := 553) hx hb dL_law_156 (by decide) (fun _ => ?_) (fun hne => absurd (congrArg nI (nod_3 hrel h7 hww hpp hqq hrr).symm) hne)
        have hr9 : rel ((wt_gr (wt_gr (wt_gr ph pa ch sz 0 pp).1 (wt_gr ph pa ch sz 0 pp).2.1 (wt_gr ph pa ch sz 0 pp).2.2.1 (wt_gr ph pa ch sz 0 pp).2.2.2.1 (wt_gr ph pa ch sz 0 pp).2.2.2.2 qq).1 (wt_gr (wt_gr ph pa ch sz 0 pp).1 (wt_gr ph pa ch sz 0 pp).2.1 (wt_gr ph pa ch sz 0 pp).2.2.1 (wt_gr ph pa ch sz 0 pp).2.2.2.1 (wt_gr ph pa ch sz 0 pp).2.2.2.2 qq).2.1 (wt_gr (wt_gr ph pa ch sz 0 pp).1 (wt_gr ph pa ch sz 0 pp).2.1 (wt_gr ph pa ch sz 0 pp).2.2.1 (wt_gr ph pa ch sz 0 pp).2.2.2.1 (wt_gr ph pa ch sz 0 pp).2.2.2.2 qq).2.2.1 (wt_gr (wt_gr ph pa ch sz 0 pp).1 (wt_gr ph pa ch sz 0 pp).2.1 (wt_gr ph pa ch sz 0 pp).2.2.1 (wt_gr ph pa ch sz 0 pp).2.2.2.1 (wt_gr ph pa ch sz 0 pp).2.2.2.2 qq).2.2.2.1 (wt_gr (wt_gr ph pa ch sz 0 pp).1 (wt_gr ph pa ch sz 0 pp).2.1 (wt_gr ph pa ch sz 0 pp).2.2.1 (wt_gr ph pa ch sz 0 pp).2.2.2.1 (wt_gr ph pa ch sz 0 pp).2.2.2.2 qq).2.2.2.2 rr).1) ((wt_gr (wt_gr (wt_gr ph pa ch sz 0 pp).1 (wt_gr ph pa ch sz 0 pp).2.1 (wt_gr ph pa ch sz 0 pp).2.2.1 (wt_gr ph pa ch sz 0 pp).2.2.2.1 (wt_gr ph pa ch sz 0 pp).2.2.2.2 qq).1 (wt_gr (wt_gr ph pa ch sz 0 pp).1 (wt_gr ph pa ch sz 0 pp).2.1 (wt_gr ph pa ch sz 0 pp).2.2.1 (wt_gr ph pa ch sz 0 pp).2.2.2.1 (wt_gr ph pa ch sz 0 pp).2.2.2.2 qq).2.1 (wt_gr (wt_gr ph pa ch sz 0 pp).1 (wt_gr ph pa ch sz 0 pp).2.1 (wt_gr ph pa ch sz 0 pp).2.2.1 (wt_gr ph pa ch sz 0 pp).2.2.2.1 (wt_gr ph pa ch sz 0 pp).2.2.2.2 qq).2.2.1 (wt_gr (wt_gr ph pa ch sz 0 pp).1 (wt_gr ph pa ch sz 0 pp).2.1 (wt_gr ph pa ch sz 0 pp).2.2.1 (wt_gr ph pa ch sz 0 pp).2.2.2.1 (wt_gr ph pa ch sz 0 pp).2.2.2.2 qq).2.2.2.1 (wt_gr (wt_gr ph pa ch sz 0 pp).1 (wt_gr ph pa ch sz 0 pp).2.1 (wt_gr ph pa ch sz 0 pp).2.2.1 (wt_gr ph pa ch sz 0 pp).2.2.2.1 (wt_gr ph pa ch sz 0 pp).2.2.2.2 qq).2.2.2.2 rr).2.1) ((wt_gr (wt_gr (wt_gr ph pa ch sz 0 pp).1 (wt_gr ph pa ch sz 0 pp).2.1 (wt_gr ph pa ch sz 0 pp).2.2.1 (wt_gr ph pa ch sz 0 pp).2.2.2.1 (wt_gr ph pa ch sz 0 pp).2.2.2.2 qq).1 (wt_gr (wt_gr ph pa ch sz 0 pp).1 (wt_gr ph pa ch sz 0 pp).2.1 (wt_gr ph pa ch sz 0 pp).2.2.1 (wt_gr ph pa ch sz 0 pp).2.2.2.1 (wt_gr ph pa ch sz 0 pp).2.2.2.2 qq).2.1 (wt_gr (wt_gr ph pa ch sz 0 pp).1 (wt_gr ph pa ch sz 0 pp).2.1 (wt_gr ph pa ch sz 0 pp).2.2.1 (wt_gr ph pa ch sz 0 pp).2.2.2.1 (wt_gr ph pa ch sz 0 pp).2.2.2.2 qq).2.2.1 (wt_gr (wt_gr ph pa ch sz 0 pp).1 (wt_gr ph pa ch sz 0 pp).2.1 (wt_gr ph pa ch sz 0 pp).2.2.1 (wt_gr ph pa ch sz 0 pp).2.2.2.1 (wt_gr ph pa ch sz 0 pp).2.2.2.2 qq).2.2.2.1 (wt_gr (wt_gr ph pa ch sz 0 pp).1 (wt_gr ph pa ch sz 0 pp).2.1 (wt_gr ph pa ch sz 0 pp).2.2.1 (wt_gr ph pa ch sz 0 pp).2.2.2.1 (wt_gr ph pa ch sz 0 pp).2.2.2.2 qq).2.2.2.2 rr).2.2.1) (va_up en ((wt_gr (wt_gr (wt_gr ph pa ch sz 0 pp).1 (wt_gr ph pa ch sz 0 pp).2.1 (wt_gr ph pa ch sz 0 pp).2.2.1 (wt_gr ph pa ch sz 0 pp).2.2.2.1 (wt_gr ph pa ch sz 0 pp).2.2.2.2 qq).1 (wt_gr (wt_gr ph pa ch sz 0 pp).1 (wt_gr ph pa ch sz 0 pp).2.1 (wt_gr ph pa ch sz 0 pp).2.2.1 (wt_gr ph pa ch sz 0 pp).2.2.2.1 (wt_gr ph pa ch sz 0 pp).2.2.2.2 qq).2.1 (wt_gr (wt_gr ph pa ch sz 0 pp).1 (wt_gr ph pa ch sz 0 pp).2.1 (wt_gr ph pa ch sz 0 pp).2.2.1 (wt_gr ph pa ch sz 0 pp).2.2.2.1 (wt_gr ph pa ch sz 0 pp).2.2.2.2 qq).2.2.1 (wt_gr (wt_gr ph pa ch sz 0 pp).1 (wt_gr ph pa ch sz 0 pp).2.1 (wt_gr ph pa ch sz 0 pp).2.2.1 (wt_gr ph pa ch sz 0 pp).2.2.2.1 (wt_gr ph pa ch sz 0 pp).2.2.2.2 qq).2.2.2.1 (wt_gr (wt_gr ph pa ch sz 0 pp).1 (wt_gr ph pa ch sz 0 pp).2.1 (wt_gr ph pa ch sz 0 pp).2.2.1 (wt_gr ph pa ch sz 0 pp).2.2.2.1 (wt_gr ph pa ch sz 0 pp).2.2.2.2 qq).2.2.2.2 rr).2.2.2.2 * 4 + ww) true) ((wt_gr (wt_gr (wt_gr ph pa ch sz 0 pp).1 (wt_gr ph pa ch sz 0 pp).2.1 (wt_gr ph pa ch sz 0 pp).2.2.1 (wt_gr ph pa ch sz 0 pp).2.2.2.1 (wt_gr ph pa ch sz 0 pp).2.2.2.2 qq).1 (wt_gr (wt_gr ph pa ch sz 0 pp).1 (wt_gr ph pa ch sz 0 pp).2.1 (wt_gr ph pa ch sz 0 pp).2.2.1 (wt_gr ph pa ch sz 0 pp).2.2.2.1 (wt_gr ph pa ch sz 0 pp).2.2.2.2 qq).2.1 (wt_gr (wt_gr ph pa ch sz 0 pp).1 (wt_gr ph pa ch sz 0 pp).2.1 (wt_gr ph pa ch sz 0 pp).2.2.1 (wt_gr ph pa ch sz 0 pp).2.2.2.1 (wt_gr ph pa ch sz 0 pp).2.2.2.2 qq).2.2.1 (wt_gr (wt_gr ph pa ch sz 0 pp).1 (wt_gr ph pa ch sz 0 pp).2.1 (wt_gr ph pa ch sz 0 pp).2.2.1 (wt_gr ph pa ch sz 0 pp).2.2.2.1 (wt_gr ph pa ch sz 0 pp).2.2.2.2 qq).2.2.2.1 (wt_gr (wt_gr ph pa ch sz 0 pp).1 (wt_gr ph pa ch sz 0 pp).2.1 (wt_gr ph pa ch sz 0 pp).2.2.1 (wt_gr ph pa ch sz 0 pp).2.2.2.1 (wt_gr ph pa ch sz 0 pp).2.2.2.2 qq).2.2.2.2 rr).2.2.2.1) gc gb sc sh sl ct kn co bo (pr + 1) (va_up wd pr ww) (va_up zs pr 3) (upd (upd (upd fp (3 * pr) (nI pp)) (3 * pr + 1) (nI qq)) (3 * pr + 2) (nI rr)) (pg3 pg pr pp qq rr) := add_3 hrel h7 hww hpp hqq hrr
        exact K H locs ls ⟨((wt_gr (wt_gr (wt_gr ph pa ch sz 0 pp).1 (wt_gr ph pa ch sz 0 pp).2.1 (wt_gr ph pa ch sz 0 pp).2.2.1 (wt_gr ph pa ch sz 0 pp).2.2.2.1 (wt_gr ph pa ch sz 0 pp).2.2.2.2 qq).1 (wt_gr (wt_gr ph pa ch sz 0 pp).1 (wt_gr ph pa ch sz 0 pp).2.1 (wt_gr ph pa ch sz 0 pp).2.2.1 (wt_gr ph pa ch sz 0 pp).2.2.2.1 (wt_gr ph pa ch sz 0 pp).2.2.2.2 qq).2.1 (wt_gr (wt_gr ph pa ch sz 0 pp).1 (wt_gr ph pa ch sz 0 pp).2.1 (wt_gr ph pa ch sz 0 pp).2.2.1 (wt_gr ph pa ch sz 0 pp).2.2.2.1 (wt_gr ph pa ch sz 0 pp).2.2.2.2 qq).2.2.1 (wt_gr (wt_gr ph pa ch sz 0 pp).1 (wt_gr ph pa ch sz 0 pp).2.1 (wt_gr ph pa ch sz 0 pp).2.2.1 (wt_gr ph pa ch sz 0 pp).2.2.2.1 (wt_gr ph pa ch sz 0 pp).2.2.2.2 qq).2.2.2.1 (wt_gr (wt_gr ph pa ch sz 0 pp).1 (wt_gr ph pa ch sz 0 pp).2.1 (wt_gr ph pa ch sz 0 pp).2.2.1 (wt_gr ph pa ch sz 0 pp).2.2.2.1 (wt_gr ph pa ch sz 0 pp).2.2.2.2 qq).2.2.2.2 rr).1), ((wt_gr (wt_gr (wt_gr ph pa ch sz 0 pp).1 (wt_gr ph pa ch sz 0 pp).2.1 (wt_gr ph pa ch sz 0 pp).2.2.1 (wt_gr ph pa ch sz 0 pp).2.2.2.1 (wt_gr ph pa ch sz 0 pp).2.2.2.2 qq).1 (wt_gr (wt_gr ph pa ch sz 0 pp).1 (wt_gr ph pa ch sz 0 pp).2.1 (wt_gr ph pa ch sz 0 pp).2.2.1 (wt_gr ph pa ch sz 0 pp).2.2.2.1 (wt_gr ph pa ch sz 0 pp).2.2.2.2 qq).2.1 (wt_gr (wt_gr ph pa ch sz 0 pp).1 (wt_gr ph pa ch sz 0 pp).2.1 (wt_gr ph pa ch sz 0 pp).2.2.1 (wt_gr ph pa ch sz 0 pp).2.2.2.1 (wt_gr ph pa ch sz 0 pp).2.2.2.2 qq).2.2.1 (wt_gr (wt_gr ph pa ch sz 0 pp).1 (wt_gr ph pa ch sz 0 pp).2.1 (wt_gr ph pa ch sz 0 pp).2.2.1 (wt_gr ph pa ch sz 0 pp).2.2.2.1 (wt_gr ph pa ch sz 0 pp).2.2.2.2 qq).2.2.2.1 (wt_gr (wt_gr ph pa ch sz 0 pp).1 (wt_gr ph pa ch sz 0 pp).2.1 (wt_gr ph pa ch sz 0 pp).2.2.1 (wt_gr ph pa ch sz 0 pp).2.2.2.1 (wt_gr ph pa ch sz 0 pp).2.2.2.2 qq).2.2.2.2 rr).2.1), ((wt_gr (wt_gr (wt_gr ph pa ch sz 0 pp).1 (wt_gr ph pa ch sz 0 pp).2.1 (wt_gr ph pa ch sz 0 pp).2.2.1 (wt_gr ph pa ch sz 0 pp).2.2.2.1 (wt_gr ph pa ch sz 0 pp).2.2.2.2 qq).1 (wt_gr (wt_gr ph pa ch sz 0 pp).1 (wt_gr ph pa ch sz 0 pp).2.1 (wt_gr ph pa ch sz 0 pp).2.2.1 (wt_gr ph pa ch sz 0 pp).2.2.2.1 (wt_gr ph pa ch sz 0 pp).2.2.2.2 qq).2.1 (wt_gr (wt_gr ph pa ch sz 0 pp).1 (wt_gr ph pa ch sz 0 pp).2.1 (wt_gr ph pa ch sz 0 pp).2.2.1 (wt_gr ph pa ch sz 0 pp).2.2.2.1 (wt_gr ph pa ch sz 0 pp).2.2.2.2 qq).2.2.1 (wt_gr (wt_gr ph pa ch sz 0 pp).1 (wt_gr ph pa ch sz 0 pp).2.1 (wt_gr ph pa ch sz 0 pp).2.2.1 (wt_gr ph pa ch sz 0 pp).2.2.2.1 (wt_gr ph pa ch sz 0 pp).2.2.2.2 qq).2.2.2.1 (wt_gr (wt_gr ph pa ch sz 0 pp).1 (wt_gr ph pa ch sz 0 pp).2.1 (wt_gr ph pa ch sz 0 pp).2.2.1 (wt_gr ph pa ch sz 0 pp).2.2.2.1 (wt_gr ph pa ch sz 0 pp).2.2.2.2 qq).2.2.2.2 rr).2.2.1), (va_up en ((wt_gr (wt_gr (wt_gr ph pa ch sz 0 pp).1 (wt_gr ph pa ch sz 0 pp).2.1 (wt_gr ph pa ch sz 0 pp).2.2.1 (wt_gr ph pa ch sz 0 pp).2.2.2.1 (wt_gr ph pa ch sz 0 pp).2.2.2.2 qq).1 (wt_gr (wt_gr ph pa ch sz 0 pp).1 (wt_gr ph pa ch sz 0 pp).2.1 (wt_gr ph pa ch sz 0 pp).2.2.1 (wt_gr ph pa ch sz 0 pp).2.2.2.1 (wt_gr ph pa ch sz 0 pp).2.2.2.2 qq).2.1 (wt_gr (wt_gr ph pa ch sz 0 pp).1 (wt_gr ph pa ch sz 0 pp).2.1 (wt_gr ph pa ch sz 0 pp).2.2.1 (wt_gr ph pa ch sz 0 pp).2.2.2.1 (wt_gr ph pa ch sz 0 pp).2.2.2.2 qq).2.2.1 (wt_gr (wt_gr ph pa ch sz 0 pp).1 (wt_gr ph pa ch sz 0 pp).2.1 (wt_gr ph pa ch sz 0 pp).2.2.1 (wt_gr ph pa ch sz 0 pp).2.2.2.1 (wt_gr ph pa ch sz 0 pp).2.2.2.2 qq).2.2.2.1 (wt_gr (wt_gr ph pa ch sz 0 pp).1 (wt_gr ph pa ch sz 0 pp).2.1 (wt_gr ph pa ch sz 0 pp).2.2.1 (wt_gr ph pa ch sz 0 pp).2.2.2.1 (wt_gr ph pa ch sz 0 pp).2.2.2.2 qq).2.2.2.2 rr).2.2.2.2 * 4 + ww) true), ((wt_gr (wt_gr (wt_gr ph pa ch sz 0 pp).1 (wt_gr ph pa ch sz 0 pp).2.1 (wt_gr ph pa ch sz 0 pp).2.2.1 (wt_gr ph pa ch sz 0 pp).2.2.2.1 (wt_gr ph pa ch sz 0 pp).2.2.2.2 qq).1 (wt_gr (wt_gr ph pa ch sz 0 pp).1 (wt_gr ph pa ch sz 0 pp).2.1 (wt_gr ph pa ch sz 0 pp).2.2.1 (wt_gr ph pa ch sz 0 pp).2.2.2.1 (wt_gr ph pa ch sz 0 pp).2.2.2.2 qq).2.1 (wt_gr (wt_gr ph pa ch sz 0 pp).1 (wt_gr ph pa ch sz 0 pp).2.1 (wt_gr ph pa ch sz 0 pp).2.2.1 (wt_gr ph pa ch sz 0 pp).2.2.2.1 (wt_gr ph pa ch sz 0 pp).2.2.2.2 qq).2.2.1 (wt_gr (wt_gr ph pa ch sz 0 pp).1 (wt_gr ph pa ch sz 0 pp).2.1 (wt_gr ph pa ch sz 0 pp).2.2.1 (wt_gr ph pa ch sz 0 pp).2.2.2.1 (wt_gr ph pa ch sz 0 pp).2.2.2.2 qq).2.2.2.1 (wt_gr (wt_gr ph pa ch sz 0 pp).1 (wt_gr ph pa ch sz 0 pp).2.1 (wt_gr ph pa ch sz 0 pp).2.2.1 (wt_gr ph pa ch sz 0 pp).2.2.2.1 (wt_gr ph pa ch sz 0 pp).2.2.2.2 qq).2.2.2.2 rr).2.2.2.1), (pr + 1), gc, gb, sc, sh, sl, ct, tok, wt, pn, lt, wp, false, kn, co, bo, (va_up wd pr ww), (va_up zs pr 3), (upd (upd (upd fp (3 * pr) (nI pp)) (3 * pr + 1) (nI qq)) (3 * pr + 2) (nI rr)), ea, dn, cd, nx, nd, nc, al, wo, wh, (pg3 pg pr pp qq rr), hP, hD, hS, hr9, (fun z => absurd z (by decide))⟩ hl

set_option maxHeartbeats 4000000 in
set_option maxRecDepth 100000 in
theorem law_gram {p : Program} {l : Launch} {e : Env} {s : State} {m : MethodId} {below : List Frame} {meth : Method} {c : Code} {dC : Nat → ClassId} {dI : Nat → Nat → Nat} {cI cZ cL : ClassId} {b L : Nat} {xs : Nat → Int32} {q qm : Nat → Nat} (hL : L ≤ 3072) (C0 : lw_At p s m meth c b L xs) (hK : va_K (dC, dI) vwCl [(cI, .int), (cZ, .boolean), (cL, .long)] s) (hN : wt_nest s) {i : Nat} (hi : i + 6 ≤ L) (K : ∀ (H : Heap) (locs : List Loc) (ls : Array Slot), wtInv s dC dI cI cZ cL q qm H locs → lv_has ls 4 [(0, .ref b), (1, .ref (q 0)), (2, .ref (qm 0)), (3, .int (nI i))] → W p l e room_1 s m #[Value.ref b] below meth c H locs 34 14336 (lw_Z below #[Value.ref b] s) (F0 m 553 ls [])) : ∀ (H : Heap) (locs : List Loc) (ls : Array Slot), wtInv s dC dI cI cZ cL q qm H locs → lv_has ls 4 [(0, .ref b), (1, .ref (q 0)), (2, .ref (qm 0)), (3, .int (nI i))] → W p l e room_1 s m #[Value.ref b] below meth c H locs 34 14336 (lw_Z below #[Value.ref b] s) (F0 m 161 ls []) := by
  obtain ⟨hx, hb, hr, hml, hown0, hts, hX, hbl, hlocks, hgv⟩ := id C0
  have hown : s.vm.findClass RL = some m.cls := hown0
  have ht : ∀ w ∈ tb, w.before _ s = true := fun w h => hts w (tb_in w h)
  have hA : ∀ a : Nat, s.heap.size ≤ a → (fun a : Nat => s.heap.size ≤ a) a := fun _ h => h
  have hbA : ¬ (fun a : Nat => s.heap.size ≤ a) b := Nat.not_le.mpr hbl
  intro H locs ls hv hl
  obtain ⟨ph, pa, ch, en, sz, pr, gc, gb, sc, sh, sl, ct, tok, wt, pn, lt, wp, sd, kn, co, bo, wd, zs, fp, ea, dn, cd, nx, nd, nc, al, wo, wh, pg, hP, hD, hS, hrel, hca⟩ := hv
  have hrel' := hrel
  obtain ⟨⟨hm8, hzw, htr, hsz24, hen, hgr, hscr, hshr, hslr⟩, hct, hs3, hts0, hzs, hwd, hph, hpa, hch, hfp, hen0⟩ := hrel'
  have hz1 : ∀ k, k < pr → 1 ≤ zs k := fun k hk => (hzw k hk).1
  rcases gram_forms (xs (i + 1)) (xs (i + 2)) (xs (i + 3)) with hg | ⟨hg, ⟨ww, hww, e1, e2, e3⟩ | ⟨vv, ww, hvv, hww, e1, e2, e3⟩ | ⟨uu, vv, ww, huu, hvv, hww, e1, e2, e3⟩⟩
  · skip
    refine lv_aload_n hx hb dL_law_161 rfl (lv_at hl 1 rfl) ?_
    refine lv_aload_n hx hb dL_law_162 rfl (lv_at hl 0 rfl) ?_
    refine lv_iload_n hx hb dL_law_163 rfl (lv_at hl 3 rfl) ?_
    refine lv_iconst (v := nI 1) hx hb dL_law_164 (by decide) ?_
    refine wt_iadd hx hb dL_law_165 ?_
    refine wt_sld hx hb hX hbl hbA hS (k := i + 1) (by omega) (by omega) (v := xs (i + 1)) rfl dL_law_166 ?_
    refine lv_aload_n hx hb dL_law_167 rfl (lv_at hl 0 rfl) ?_
    refine lv_iload_n hx hb dL_law_168 rfl (lv_at hl 3 rfl) ?_
    refine lv_iconst (v := nI 2) hx hb dL_law_169 (by decide) ?_
    refine wt_iadd hx hb dL_law_170 ?_
    refine wt_sld hx hb hX hbl hbA hS (k := i + 2) (by omega) (by omega) (v := xs (i + 2)) rfl dL_law_171 ?_
    refine lv_aload_n hx hb dL_law_172 rfl (lv_at hl 0 rfl) ?_
    refine lv_iload_n hx hb dL_law_173 rfl (lv_at hl 3 rfl) ?_
    refine lv_iconst (v := nI 3) hx hb dL_law_174 (by decide) ?_
    refine wt_iadd hx hb dL_law_175 ?_
    refine wt_sld hx hb hX hbl hbA hS (k := i + 3) (by omega) (by omega) (v := xs (i + 3)) rfl dL_law_176 ?_
    refine lv_aload_n hx hb dL_law_177 rfl (lv_at hl 0 rfl) ?_
    refine lv_iload_n hx hb dL_law_178 rfl (lv_at hl 3 rfl) ?_
    refine lv_iconst (v := nI 4) hx hb dL_law_179 (by decide) ?_
    refine wt_iadd hx hb dL_law_180 ?_
    refine wt_sld hx hb hX hbl hbA hS (k := i + 4) (by omega) (by omega) (v := xs (i + 4)) rfl dL_law_181 ?_
    refine lv_aload_n hx hb dL_law_182 rfl (lv_at hl 0 rfl) ?_
    refine lv_iload_n hx hb dL_law_183 rfl (lv_at hl 3 rfl) ?_
    refine lv_iconst (v := nI 5) hx hb dL_law_184 (by decide) ?_
    refine wt_iadd hx hb dL_law_185 ?_
    refine wt_sld hx hb hX hbl hbA hS (k := i + 5) (by omega) (by omega) (v := xs (i + 5)) rfl dL_law_186 ?_
    refine wt_roi (va_runV (As := [.int (xs (i + 1)), .int (xs (i + 2)), .int (xs (i + 3)), .int (xs (i + 4)), .int (xs (i + 5))]) (rest := []) ⟨hx, hb, hml, hown, ht⟩ (c_X_gram_0 l dC dI cI cZ cL q ph pa ch en sz pr gc gb sc sh sl ct tok wt pn lt wp sd (xs (i + 1)) (xs (i + 2)) (xs (i + 3)) (xs (i + 4)) (xs (i + 5)) (by rw [hg, Bool.false_and])) (cwV 5 ht (good_V m_170 m_171 m_172 m_1 m_173) rfl rfl rfl (by decide +kernel) ⟨Nat.le_of_ble_eq_true rfl, Nat.le_of_ble_eq_true rfl⟩) (wt_preV hK hN (hP.sub [0, 1, 2, 3, 4, 5, 6, 7, 8, 9, 10, 11, 12, 13, 14, 15, 16, 17] rfl) (va_recv hK hP (ci := 0) (q0 := 0) rfl rfl)) rfl rfl hl.1 rfl (lv_room (Nat.le_of_ble_eq_true rfl)) dL_law_187 ⟨Nat.le_of_ble_eq_true rfl, Nat.le_of_ble_eq_true rfl⟩) ?_
    refine lv_aload_n hx hb dL_law_190 rfl (lv_at hl 2 rfl) ?_
    refine lv_aload_n hx hb dL_law_191 rfl (lv_at hl 0 rfl) ?_
    refine lv_iload_n hx hb dL_law_192 rfl (lv_at hl 3 rfl) ?_
    refine lv_iconst (v := nI 1) hx hb dL_law_193 (by decide) ?_
    refine wt_iadd hx hb dL_law_194 ?_
    refine wt_sld hx hb hX hbl hbA hS (k := i + 1) (by omega) (by omega) (v := xs (i + 1)) rfl dL_law_195 ?_
    refine lv_aload_n hx hb dL_law_196 rfl (lv_at hl 0 rfl) ?_
    refine lv_iload_n hx hb dL_law_197 rfl (lv_at hl 3 rfl) ?_
    refine lv_iconst (v := nI 2) hx hb dL_law_198 (by decide) ?_
    refine wt_iadd hx hb dL_law_199 ?_
    refine wt_sld hx hb hX hbl hbA hS (k := i + 2) (by omega) (by omega) (v := xs (i + 2)) rfl dL_law_200 ?_
    refine lv_aload_n hx hb dL_law_201 rfl (lv_at hl 0 rfl) ?_
    refine lv_iload_n hx hb dL_law_202 rfl (lv_at hl 3 rfl) ?_
    refine lv_iconst (v := nI 3) hx hb dL_law_203 (by decide) ?_
    refine wt_iadd hx hb dL_law_204 ?_
    refine wt_sld hx hb hX hbl hbA hS (k := i + 3) (by omega) (by omega) (v := xs (i + 3)) rfl dL_law_205 ?_
    refine lv_aload_n hx hb dL_law_206 rfl (lv_at hl 0 rfl) ?_
    refine lv_iload_n hx hb dL_law_207 rfl (lv_at hl 3 rfl) ?_
    refine lv_iconst (v := nI 4) hx hb dL_law_208 (by decide) ?_
    refine wt_iadd hx hb dL_law_209 ?_
    refine wt_sld hx hb hX hbl hbA hS (k := i + 4) (by omega) (by omega) (v := xs (i + 4)) rfl dL_law_210 ?_
    refine lv_aload_n hx hb dL_law_211 rfl (lv_at hl 0 rfl) ?_
    refine lv_iload_n hx hb dL_law_212 rfl (lv_at hl 3 rfl) ?_
    refine lv_iconst (v := nI 5) hx hb dL_law_213 (by decide) ?_
    refine wt_iadd hx hb dL_law_214 ?_
    refine wt_sld hx hb hX hbl hbA hS (k := i + 5) (by omega) (by omega) (v := xs (i + 5)) rfl dL_law_215 ?_
    refine wt_roi (va_runV (As := [.int (xs (i + 1)), .int (xs (i + 2)), .int (xs (i + 3)), .int (xs (i + 4)), .int (xs (i + 5))]) (rest := [.int (nI 0)]) ⟨hx, hb, hml, hown, ht⟩ (c_M_gram_g l dC dI cI cZ cL qm kn co bo pr wd zs fp sh sl ct sc ea dn cd nx nd nc al wo wh (xs (i + 1)) (xs (i + 2)) (xs (i + 3)) (xs (i + 4)) (xs (i + 5)) hg) (cwV 5 ht (good_V m_475 m_476 m_477 m_7 m_478) rfl rfl rfl (by decide +kernel) ⟨Nat.le_of_ble_eq_true rfl, Nat.le_of_ble_eq_true rfl⟩) (wt_preV hK hN (hP.sub [18, 19, 20, 21, 22, 23, 24, 25, 26, 27, 28, 29, 30, 31, 32, 33] rfl) (va_recv hK hP (ci := 5) (q0 := 18) rfl rfl)) rfl rfl hl.1 rfl (lv_room (Nat.le_of_ble_eq_true rfl)) dL_law_216 ⟨Nat.le_of_ble_eq_true rfl, Nat.le_of_ble_eq_true rfl⟩) ?_
    refine lv_icmp_eq (tgt := 553) hx hb dL_law_219 (by decide) (fun _ => ?_) (fun hne => absurd (rfl) hne)
    have hr9 : rel ph pa ch en sz gc gb sc sh sl ct kn co bo pr wd zs fp pg := hrel
    exact K H locs ls ⟨ph, pa, ch, en, sz, pr, gc, gb, sc, sh, sl, ct, tok, wt, pn, lt, wp, sd, kn, co, bo, wd, zs, fp, ea, dn, cd, nx, nd, nc, al, wo, wh, pg, hP, hD, hS, hr9, hca⟩ hl
  · skip
    rw [e1, e2, e3] at hg
    rcases bool2 (b := decide (¬ wt_rng (xs (i + 4)) 10000 = 0)) (c := decide (¬ wt_rng (xs (i + 5)) 10000 = 0)) with hcb | ⟨hc1, hc2⟩
    · skip
      refine lv_aload_n hx hb dL_law_161 rfl (lv_at hl 1 rfl) ?_
      refine lv_aload_n hx hb dL_law_162 rfl (lv_at hl 0 rfl) ?_
      refine lv_iload_n hx hb dL_law_163 rfl (lv_at hl 3 rfl) ?_
      refine lv_iconst (v := nI 1) hx hb dL_law_164 (by decide) ?_
      refine wt_iadd hx hb dL_law_165 ?_
      refine wt_sld hx hb hX hbl hbA hS (k := i + 1) (by omega) (by omega) (v := (-1)) e1 dL_law_166 ?_
      refine lv_aload_n hx hb dL_law_167 rfl (lv_at hl 0 rfl) ?_
      refine lv_iload_n hx hb dL_law_168 rfl (lv_at hl 3 rfl) ?_
      refine lv_iconst (v := nI 2) hx hb dL_law_169 (by decide) ?_
      refine wt_iadd hx hb dL_law_170 ?_
      refine wt_sld hx hb hX hbl hbA hS (k := i + 2) (by omega) (by omega) (v := (-1)) e2 dL_law_171 ?_
      refine lv_aload_n hx hb dL_law_172 rfl (lv_at hl 0 rfl) ?_
      refine lv_iload_n hx hb dL_law_173 rfl (lv_at hl 3 rfl) ?_
      refine lv_iconst (v := nI 3) hx hb dL_law_174 (by decide) ?_
      refine wt_iadd hx hb dL_law_175 ?_
      refine wt_sld hx hb hX hbl hbA hS (k := i + 3) (by omega) (by omega) (v := nI ww) e3 dL_law_176 ?_
      refine lv_aload_n hx hb dL_law_177 rfl (lv_at hl 0 rfl) ?_
      refine lv_iload_n hx hb dL_law_178 rfl (lv_at hl 3 rfl) ?_
      refine lv_iconst (v := nI 4) hx hb dL_law_179 (by decide) ?_
      refine wt_iadd hx hb dL_law_180 ?_
      refine wt_sld hx hb hX hbl hbA hS (k := i + 4) (by omega) (by omega) (v := xs (i + 4)) rfl dL_law_181 ?_
      refine lv_aload_n hx hb dL_law_182 rfl (lv_at hl 0 rfl) ?_
      refine lv_iload_n hx hb dL_law_183 rfl (lv_at hl 3 rfl) ?_
      refine lv_iconst (v := nI 5) hx hb dL_law_184 (by decide) ?_
      refine wt_iadd hx hb dL_law_185 ?_
      refine wt_sld hx hb hX hbl hbA hS (k := i + 5) (by omega) (by omega) (v := xs (i + 5)) rfl dL_law_186 ?_
      refine wt_roi (va_runV (As := [.int (-1), .int (-1), .int (nI ww), .int (xs (i + 4)), .int (xs (i + 5))]) (rest := []) ⟨hx, hb, hml, hown, ht⟩ (c_X_gram_0 l dC dI cI cZ cL q ph pa ch en sz pr gc gb sc sh sl ct tok wt pn lt wp sd (-1) (-1) (nI ww) (xs (i + 4)) (xs (i + 5)) (by rw [hg, Bool.true_and]; exact hcb)) (cwV 5 ht (good_V m_170 m_171 m_172 m_1 m_173) rfl rfl rfl (by decide +kernel) ⟨Nat.le_of_ble_eq_true rfl, Nat.le_of_ble_eq_true rfl⟩) (wt_preV hK hN (hP.sub [0, 1, 2, 3, 4, 5, 6, 7, 8, 9, 10, 11, 12, 13, 14, 15, 16, 17] rfl) (va_recv hK hP (ci := 0) (q0 := 0) rfl rfl)) rfl rfl hl.1 rfl (lv_room (Nat.le_of_ble_eq_true rfl)) dL_law_187 ⟨Nat.le_of_ble_eq_true rfl, Nat.le_of_ble_eq_true rfl⟩) ?_
      refine lv_aload_n hx hb dL_law_190 rfl (lv_at hl 2 rfl) ?_
      refine lv_aload_n hx hb dL_law_191 rfl (lv_at hl 0 rfl) ?_
      refine lv_iload_n hx hb dL_law_192 rfl (lv_at hl 3 rfl) ?_
      refine lv_iconst (v := nI 1) hx hb dL_law_193 (by decide) ?_
      refine wt_iadd hx hb dL_law_194 ?_
      refine wt_sld hx hb hX hbl hbA hS (k := i + 1) (by omega) (by omega) (v := (-1)) e1 dL_law_195 ?_
      refine lv_aload_n hx hb dL_law_196 rfl (lv_at hl 0 rfl) ?_
      refine lv_iload_n hx hb dL_law_197 rfl (lv_at hl 3 rfl) ?_
      refine lv_iconst (v := nI 2) hx hb dL_law_198 (by decide) ?_
      refine wt_iadd hx hb dL_law_199 ?_
      refine wt_sld hx hb hX hbl hbA hS (k := i + 2) (by omega) (by omega) (v := (-1)) e2 dL_law_200 ?_
      refine lv_aload_n hx hb dL_law_201 rfl (lv_at hl 0 rfl) ?_
      refine lv_iload_n hx hb dL_law_202 rfl (lv_at hl 3 rfl) ?_
      refine lv_iconst (v := nI 3) hx hb dL_law_203 (by decide) ?_
      refine wt_iadd hx hb dL_law_204 ?_
      refine wt_sld hx hb hX hbl hbA hS (k := i + 3) (by omega) (by omega) (v := nI ww) e3 dL_law_205 ?_
      refine lv_aload_n hx hb dL_law_206 rfl (lv_at hl 0 rfl) ?_
      refine lv_iload_n hx hb dL_law_207 rfl (lv_at hl 3 rfl) ?_
      refine lv_iconst (v := nI 4) hx hb dL_law_208 (by decide) ?_
      refine wt_iadd hx hb dL_law_209 ?_
      refine wt_sld hx hb hX hbl hbA hS (k := i + 4) (by omega) (by omega) (v := xs (i + 4)) rfl dL_law_210 ?_
      refine lv_aload_n hx hb dL_law_211 rfl (lv_at hl 0 rfl) ?_
      refine lv_iload_n hx hb dL_law_212 rfl (lv_at hl 3 rfl) ?_
      refine lv_iconst (v := nI 5) hx hb dL_law_213 (by decide) ?_
      refine wt_iadd hx hb dL_law_214 ?_
      refine wt_sld hx hb hX hbl hbA hS (k := i + 5) (by omega) (by omega) (v := xs (i + 5)) rfl dL_law_215 ?_
      refine wt_roi (va_runV (As := [.int (-1), .int (-1), .int (nI ww), .int (xs (i + 4)), .int (xs (i + 5))]) (rest := [.int (nI 0)]) ⟨hx, hb, hml, hown, ht⟩ (c_M_gram_b1 l dC dI cI cZ cL qm kn co bo pr wd zs fp sh sl ct sc ea dn cd nx nd nc al wo wh ww (xs (i + 4)) (xs (i + 5)) hww hcb) (cwV 5 ht (good_V m_475 m_476 m_477 m_7 m_478) rfl rfl rfl (by decide +kernel) ⟨Nat.le_of_ble_eq_true rfl, Nat.le_of_ble_eq_true rfl⟩) (wt_preV hK hN (hP.sub [18, 19, 20, 21, 22, 23, 24, 25, 26, 27, 28, 29, 30, 31, 32, 33] rfl) (va_recv hK hP (ci := 5) (q0 := 18) rfl rfl)) rfl rfl hl.1 rfl (lv_room (Nat.le_of_ble_eq_true rfl)) dL_law_216 ⟨Nat.le_of_ble_eq_true rfl, Nat.le_of_ble_eq_true rfl⟩) ?_
      refine lv_icmp_eq (tgt := 553) hx hb dL_law_219 (by decide) (fun _ => ?_) (fun hne => absurd (rfl) hne)
      have hr9 : rel ph pa ch en sz gc gb sc sh sl ct kn co bo pr wd zs fp pg := hrel
      exact K H locs ls ⟨ph, pa, ch, en, sz, pr, gc, gb, sc, sh, sl, ct, tok, wt, pn, lt, wp, sd, kn, co, bo, wd, zs, fp, ea, dn, cd, nx, nd, nc, al, wo, wh, pg, hP, hD, hS, hr9, hca⟩ hl
    · skip
      refine lv_aload_n hx hb dL_law_161 rfl (lv_at hl 1 rfl) ?_
      refine lv_aload_n hx hb dL_law_162 rfl (lv_at hl 0 rfl) ?_
      refine lv_iload_n hx hb dL_law_163 rfl (lv_at hl 3 rfl) ?_
      refine lv_iconst (v := nI 1) hx hb dL_law_164 (by decide) ?_
      refine wt_iadd hx hb dL_law_165 ?_
      refine wt_sld hx hb hX hbl hbA hS (k := i + 1) (by omega) (by omega) (v := (-1)) e1 dL_law_166 ?_
      refine lv_aload_n hx hb dL_law_167 rfl (lv_at hl 0 rfl) ?_
      refine lv_iload_n hx hb dL_law_168 rfl (lv_at hl 3 rfl) ?_
      refine lv_iconst (v := nI 2) hx hb dL_law_169 (by decide) ?_
      refine wt_iadd hx hb dL_law_170 ?_
      refine wt_sld hx hb hX hbl hbA hS (k := i + 2) (by omega) (by omega) (v := (-1)) e2 dL_law_171 ?_
      refine lv_aload_n hx hb dL_law_172 rfl (lv_at hl 0 rfl) ?_
      refine lv_iload_n hx hb dL_law_173 rfl (lv_at hl 3 rfl) ?_
      refine lv_iconst (v := nI 3) hx hb dL_law_174 (by decide) ?_
      refine wt_iadd hx hb dL_law_175 ?_
      refine wt_sld hx hb hX hbl hbA hS (k := i + 3) (by omega) (by omega) (v := nI ww) e3 dL_law_176 ?_
      refine lv_aload_n hx hb dL_law_177 rfl (lv_at hl 0 rfl) ?_
      refine lv_iload_n hx hb dL_law_178 rfl (lv_at hl 3 rfl) ?_
      refine lv_iconst (v := nI 4) hx hb dL_law_179 (by decide) ?_
      refine wt_iadd hx hb dL_law_180 ?_
      refine wt_sld hx hb hX hbl hbA hS (k := i + 4) (by omega) (by omega) (v := xs (i + 4)) rfl dL_law_181 ?_
      refine lv_aload_n hx hb dL_law_182 rfl (lv_at hl 0 rfl) ?_
      refine lv_iload_n hx hb dL_law_183 rfl (lv_at hl 3 rfl) ?_
      refine lv_iconst (v := nI 5) hx hb dL_law_184 (by decide) ?_
      refine wt_iadd hx hb dL_law_185 ?_
      refine wt_sld hx hb hX hbl hbA hS (k := i + 5) (by omega) (by omega) (v := xs (i + 5)) rfl dL_law_186 ?_
      refine wt_cuti (wc := (wX cI cZ cL q ph pa ch en sz pr gc gb sc sh sl ct tok wt pn lt wp sd)) (w1 := (wX cI cZ cL q ph pa ch en sz pr (upd gc (wt_sl 0 0 (ww + 1)) (xs (i + 4))) (upd gb (wt_sl 0 0 (ww + 1)) (xs (i + 5))) sc sh sl ct tok wt pn lt wp false)) (wr := (wM cI cZ cL qm kn co bo pr wd zs fp sh sl ct sc ea dn cd nx nd nc al wo wh)) (w2 := (wX cI cZ cL q ph pa ch en sz pr (upd gc (wt_sl 0 0 (ww + 1)) (xs (i + 4))) (upd gb (wt_sl 0 0 (ww + 1)) (xs (i + 5))) sc sh sl ct tok wt pn lt wp false) ++ (wM cI cZ cL qm kn co bo pr wd zs fp sh sl ct sc ea dn cd nx nd nc al wo wh)) (va_runV (As := [.int (-1), .int (-1), .int (nI ww), .int (xs (i + 4)), .int (xs (i + 5))]) (rest := []) ⟨hx, hb, hml, hown, ht⟩ (c_X_gram_1 l dC dI cI cZ cL q H.size ph pa ch en sz pr gc gb sc sh sl ct tok wt pn lt wp sd 0 0 (ww + 1) (-1) (-1) (nI ww) (xs (i + 4)) (xs (i + 5)) hg (of_decide_eq_true hc1) (of_decide_eq_true hc2) wt_m1a wt_m1a (wt_p1 ww) (by omega) (by omega) (by omega)) (cwV 5 ht (good_V m_170 m_171 m_172 m_1 m_173) rfl rfl rfl (by decide +kernel) ⟨Nat.le_of_ble_eq_true rfl, Nat.le_of_ble_eq_true rfl⟩) (wt_preVw hK hN (hP.sub [0, 1, 2, 3, 4, 5, 6, 7, 8, 9, 10, 11, 12, 13, 14, 15, 16, 17] rfl) (hD.sub [0, 1, 2, 3, 4, 5, 6, 7, 8, 9, 10, 11, 12, 13, 14, 15, 16, 17] (by decide) rfl) (va_recv hK hP (ci := 0) (q0 := 0) rfl rfl)) rfl rfl hl.1 rfl (lv_room (Nat.le_of_ble_eq_true rfl)) dL_law_187 ⟨Nat.le_of_ble_eq_true rfl, Nat.le_of_ble_eq_true rfl⟩) hP hD hS hA [0, 1, 2, 3, 4, 5, 6, 7, 8, 9, 10, 11, 12, 13, 14, 15, 16, 17] [18, 19, 20, 21, 22, 23, 24, 25, 26, 27, 28, 29, 30, 31, 32, 33] rfl rfl (by decide) (by decide) [16, 17, 18, 19, 20, 21, 22, 23, 24, 25, 26, 27, 28, 29, 30, 31, 32, 33, 0, 1, 2, 3, 4, 5, 6, 7, 8, 9, 10, 11, 12, 13, 14, 15] (by decide) rfl (fun H locs hP hD hS => ?_)
      refine W.widen (k := 34) (n := 14336) (Nat.le_of_ble_eq_true rfl) (Nat.le_of_ble_eq_true rfl) ?_
      refine lv_aload_n hx hb dL_law_190 rfl (lv_at hl 2 rfl) ?_
      refine lv_aload_n hx hb dL_law_191 rfl (lv_at hl 0 rfl) ?_
      refine lv_iload_n hx hb dL_law_192 rfl (lv_at hl 3 rfl) ?_
      refine lv_iconst (v := nI 1) hx hb dL_law_193 (by decide) ?_
      refine wt_iadd hx hb dL_law_194 ?_
      refine wt_sld hx hb hX hbl hbA hS (k := i + 1) (by omega) (by omega) (v := (-1)) e1 dL_law_195 ?_
      refine lv_aload_n hx hb dL_law_196 rfl (lv_at hl 0 rfl) ?_
      refine lv_iload_n hx hb dL_law_197 rfl (lv_at hl 3 rfl) ?_
      refine lv_iconst (v := nI 2) hx hb dL_law_198 (by decide) ?_
      refine wt_iadd hx hb dL_law_199 ?_
      refine wt_sld hx hb hX hbl hbA hS (k := i + 2) (by omega) (by omega) (v := (-1)) e2 dL_law_200 ?_
      refine lv_aload_n hx hb dL_law_201 rfl (lv_at hl 0 rfl) ?_
      refine lv_iload_n hx hb dL_law_202 rfl (lv_at hl 3 rfl) ?_
      refine lv_iconst (v := nI 3) hx hb dL_law_203 (by decide) ?_
      refine wt_iadd hx hb dL_law_204 ?_
      refine wt_sld hx hb hX hbl hbA hS (k := i + 3) (by omega) (by omega) (v := nI ww) e3 dL_law_205 ?_
      refine lv_aload_n hx hb dL_law_206 rfl (lv_at hl 0 rfl) ?_
      refine lv_iload_n hx hb dL_law_207 rfl (lv_at hl 3 rfl) ?_
      refine lv_iconst (v := nI 4) hx hb dL_law_208 (by decide) ?_
      refine wt_iadd hx hb dL_law_209 ?_
      refine wt_sld hx hb hX hbl hbA hS (k := i + 4) (by omega) (by omega) (v := xs (i + 4)) rfl dL_law_210 ?_
      refine lv_aload_n hx hb dL_law_211 rfl (lv_at hl 0 rfl) ?_
      refine lv_iload_n hx hb dL_law_212 rfl (lv_at hl 3 rfl) ?_
      refine lv_iconst (v := nI 5) hx hb dL_law_213 (by decide) ?_
      refine wt_iadd hx hb dL_law_214 ?_
      refine wt_sld hx hb hX hbl hbA hS (k := i + 5) (by omega) (by omega) (v := xs (i + 5)) rfl dL_law_215 ?_
      refine wt_cuti (wc := (wM cI cZ cL qm kn co bo pr wd zs fp sh sl ct sc ea dn cd nx nd nc al wo wh)) (w1 := (wM cI cZ cL qm (va_up kn (ww) true) (upd co (ww) (xs (i + 4))) (upd bo (ww) (xs (i + 5))) pr wd zs fp sh sl ct sc ea dn cd nx nd nc al wo wh)) (wr := (wX cI cZ cL q ph pa ch en sz pr (upd gc (wt_sl 0 0 (ww + 1)) (xs (i + 4))) (upd gb (wt_sl 0 0 (ww + 1)) (xs (i + 5))) sc sh sl ct tok wt pn lt wp false)) (w2 := (wX cI cZ cL q ph pa ch en sz pr (upd gc (wt_sl 0 0 (ww + 1)) (xs (i + 4))) (upd gb (wt_sl 0 0 (ww + 1)) (xs (i + 5))) sc sh sl ct tok wt pn lt wp false) ++ (wM cI cZ cL qm (va_up kn (ww) true) (upd co (ww) (xs (i + 4))) (upd bo (ww) (xs (i + 5))) pr wd zs fp sh sl ct sc ea dn cd nx nd nc al wo wh)) (va_runV (As := [.int (-1), .int (-1), .int (nI ww), .int (xs (i + 4)), .int (xs (i + 5))]) (rest := [.int (nI 1)]) ⟨hx, hb, hml, hown, ht⟩ (c_M_gram_a1 l dC dI cI cZ cL qm H.size kn co bo pr wd zs fp sh sl ct sc ea dn cd nx nd nc al wo wh ww (xs (i + 4)) (xs (i + 5)) hww (of_decide_eq_true hc1) (of_decide_eq_true hc2)) (cwV 5 ht (good_V m_475 m_476 m_477 m_7 m_478) rfl rfl rfl (by decide +kernel) ⟨Nat.le_of_ble_eq_true rfl, Nat.le_of_ble_eq_true rfl⟩) (wt_preVw hK hN (hP.sub [18, 19, 20, 21, 22, 23, 24, 25, 26, 27, 28, 29, 30, 31, 32, 33] rfl) (hD.sub [18, 19, 20, 21, 22, 23, 24, 25, 26, 27, 28, 29, 30, 31, 32, 33] (by decide) rfl) (va_recv hK hP (ci := 5) (q0 := 18) rfl rfl)) rfl rfl hl.1 rfl (lv_room (Nat.le_of_ble_eq_true rfl)) dL_law_216 ⟨Nat.le_of_ble_eq_true rfl, Nat.le_of_ble_eq_true rfl⟩) hP hD hS hA [18, 19, 20, 21, 22, 23, 24, 25, 26, 27, 28, 29, 30, 31, 32, 33] [0, 1, 2, 3, 4, 5, 6, 7, 8, 9, 10, 11, 12, 13, 14, 15, 16, 17] rfl rfl (by decide) (by decide) [0, 1, 2, 3, 4, 5, 6, 7, 8, 9, 10, 11, 12, 13, 14, 15, 16, 17, 18, 19, 20, 21, 22, 23, 24, 25, 26, 27, 28, 29, 30, 31, 32, 33] (by decide) rfl (fun H locs hP hD hS => ?_)
      refine W.widen (k := 34) (n := 14336) (Nat.le_of_ble_eq_true rfl) (Nat.le_of_ble_eq_true rfl) ?_
      refine lv_icmp_eq (tgt := 553) hx hb dL_law_219 (by decide) (fun _ => ?_) (fun hne => absurd (rfl) hne)
      have hr9 : rel ph pa ch en sz (upd gc (wt_sl 0 0 (ww + 1)) (xs (i + 4))) (upd gb (wt_sl 0 0 (ww + 1)) (xs (i + 5))) sc sh sl ct (va_up kn (ww) true) (upd co (ww) (xs (i + 4))) (upd bo (ww) (xs (i + 5))) pr wd zs fp pg := rel_gr hrel (gr_set (f := 1) (u := 0) (v := 0) (w := ww) hgr (Or.inl ⟨rfl, hww⟩) (of_decide_eq_true hc1) (of_decide_eq_true hc2))
      exact K H locs ls ⟨ph, pa, ch, en, sz, pr, (upd gc (wt_sl 0 0 (ww + 1)) (xs (i + 4))), (upd gb (wt_sl 0 0 (ww + 1)) (xs (i + 5))), sc, sh, sl, ct, tok, wt, pn, lt, wp, false, (va_up kn (ww) true), (upd co (ww) (xs (i + 4))), (upd bo (ww) (xs (i + 5))), wd, zs, fp, ea, dn, cd, nx, nd, nc, al, wo, wh, pg, hP, hD, hS, hr9, (fun z => absurd z (by decide))⟩ hl
  · skip
    rw [e1, e2, e3] at hg
    rcases bool2 (b := decide (¬ wt_rng (xs (i + 4)) 10000 = 0)) (c := decide (¬ wt_rng (xs (i + 5)) 10000 = 0)) with hcb | ⟨hc1, hc2⟩
    · skip
      refine lv_aload_n hx hb dL_law_161 rfl (lv_at hl 1 rfl) ?_
      refine lv_aload_n hx hb dL_law_162 rfl (lv_at hl 0 rfl) ?_
      refine lv_iload_n hx hb dL_law_163 rfl (lv_at hl 3 rfl) ?_
      refine lv_iconst (v := nI 1) hx hb dL_law_164 (by decide) ?_
      refine wt_iadd hx hb dL_law_165 ?_
      refine wt_sld hx hb hX hbl hbA hS (k := i + 1) (by omega) (by omega) (v := (-1)) e1 dL_law_166 ?_
      refine lv_aload_n hx hb dL_law_167 rfl (lv_at hl 0 rfl) ?_
      refine lv_iload_n hx hb dL_law_168 rfl (lv_at hl 3 rfl) ?_
      refine lv_iconst (v := nI 2) hx hb dL_law_169 (by decide) ?_
      refine wt_iadd hx hb dL_law_170 ?_
      refine wt_sld hx hb hX hbl hbA hS (k := i + 2) (by omega) (by omega) (v := nI vv) e2 dL_law_171 ?_
      refine lv_aload_n hx hb dL_law_172 rfl (lv_at hl 0 rfl) ?_
      refine lv_iload_n hx hb dL_law_173 rfl (lv_at hl 3 rfl) ?_
      refine lv_iconst (v := nI 3) hx hb dL_law_174 (by decide) ?_
      refine wt_iadd hx hb dL_law_175 ?_
      refine wt_sld hx hb hX hbl hbA hS (k := i + 3) (by omega) (by omega) (v := nI ww) e3 dL_law_176 ?_
      refine lv_aload_n hx hb dL_law_177 rfl (lv_at hl 0 rfl) ?_
      refine lv_iload_n hx hb dL_law_178 rfl (lv_at hl 3 rfl) ?_
      refine lv_iconst (v := nI 4) hx hb dL_law_179 (by decide) ?_
      refine wt_iadd hx hb dL_law_180 ?_
      refine wt_sld hx hb hX hbl hbA hS (k := i + 4) (by omega) (by omega) (v := xs (i + 4)) rfl dL_law_181 ?_
      refine lv_aload_n hx hb dL_law_182 rfl (lv_at hl 0 rfl) ?_
      refine lv_iload_n hx hb dL_law_183 rfl (lv_at hl 3 rfl) ?_
      refine lv_iconst (v := nI 5) hx hb dL_law_184 (by decide) ?_
      refine wt_iadd hx hb dL_law_185 ?_
      refine wt_sld hx hb hX hbl hbA hS (k := i + 5) (by omega) (by omega) (v := xs (i + 5)) rfl dL_law_186 ?_
      refine wt_roi (va_runV (As := [.int (-1), .int (nI vv), .int (nI ww), .int (xs (i + 4)), .int (xs (i + 5))]) (rest := []) ⟨hx, hb, hml, hown, ht⟩ (c_X_gram_0 l dC dI cI cZ cL q ph pa ch en sz pr gc gb sc sh sl ct tok wt pn lt wp sd (-1) (nI vv) (nI ww) (xs (i + 4)) (xs (i + 5)) (by rw [hg, Bool.true_and]; exact hcb)) (cwV 5 ht (good_V m_170 m_171 m_172 m_1 m_173) rfl rfl rfl (by decide +kernel) ⟨Nat.le_of_ble_eq_true rfl, Nat.le_of_ble_eq_true rfl⟩) (wt_preV hK hN (hP.sub [0, 1, 2, 3, 4, 5, 6, 7, 8, 9, 10, 11, 12, 13, 14, 15, 16, 17] rfl) (va_recv hK hP (ci := 0) (q0 := 0) rfl rfl)) rfl rfl hl.1 rfl (lv_room (Nat.le_of_ble_eq_true rfl)) dL_law_187 ⟨Nat.le_of_ble_eq_true rfl, Nat.le_of_ble_eq_true rfl⟩) ?_
      refine lv_aload_n hx hb dL_law_190 rfl (lv_at hl 2 rfl) ?_
      refine lv_aload_n hx hb dL_law_191 rfl (lv_at hl 0 rfl) ?_
      refine lv_iload_n hx hb dL_law_192 rfl (lv_at hl 3 rfl) ?_
      refine lv_iconst (v := nI 1) hx hb dL_law_193 (by decide) ?_
      refine wt_iadd hx hb dL_law_194 ?_
      refine wt_sld hx hb hX hbl hbA hS (k := i + 1) (by omega) (by omega) (v := (-1)) e1 dL_law_195 ?_
      refine lv_aload_n hx hb dL_law_196 rfl (lv_at hl 0 rfl) ?_
      refine lv_iload_n hx hb dL_law_197 rfl (lv_at hl 3 rfl) ?_
      refine lv_iconst (v := nI 2) hx hb dL_law_198 (by decide) ?_
      refine wt_iadd hx hb dL_law_199 ?_
      refine wt_sld hx hb hX hbl hbA hS (k := i + 2) (by omega) (by omega) (v := nI vv) e2 dL_law_200 ?_
      refine lv_aload_n hx hb dL_law_201 rfl (lv_at hl 0 rfl) ?_
      refine lv_iload_n hx hb dL_law_202 rfl (lv_at hl 3 rfl) ?_
      refine lv_iconst (v := nI 3) hx hb dL_law_203 (by decide) ?_
      refine wt_iadd hx hb dL_law_204 ?_
      refine wt_sld hx hb hX hbl hbA hS (k := i + 3) (by omega) (by omega) (v := nI ww) e3 dL_law_205 ?_
      refine lv_aload_n hx hb dL_law_206 rfl (lv_at hl 0 rfl) ?_
      refine lv_iload_n hx hb dL_law_207 rfl (lv_at hl 3 rfl) ?_
      refine lv_iconst (v := nI 4) hx hb dL_law_208 (by decide) ?_
      refine wt_iadd hx hb dL_law_209 ?_
      refine wt_sld hx hb hX hbl hbA hS (k := i + 4) (by omega) (by omega) (v := xs (i + 4)) rfl dL_law_210 ?_
      refine lv_aload_n hx hb dL_law_211 rfl (lv_at hl 0 rfl) ?_
      refine lv_iload_n hx hb dL_law_212 rfl (lv_at hl 3 rfl) ?_
      refine lv_iconst (v := nI 5) hx hb dL_law_213 (by decide) ?_
      refine wt_iadd hx hb dL_law_214 ?_
      refine wt_sld hx hb hX hbl hbA hS (k := i + 5) (by omega) (by omega) (v := xs (i + 5)) rfl dL_law_215 ?_
      refine wt_roi (va_runV (As := [.int (-1), .int (nI vv), .int (nI ww), .int (xs (i + 4)), .int (xs (i + 5))]) (rest := [.int (nI 0)]) ⟨hx, hb, hml, hown, ht⟩ (c_M_gram_b2 l dC dI cI cZ cL qm kn co bo pr wd zs fp sh sl ct sc ea dn cd nx nd nc al wo wh vv ww (xs (i + 4)) (xs (i + 5)) hvv hww hcb) (cwV 5 ht (good_V m_475 m_476 m_477 m_7 m_478) rfl rfl rfl (by decide +kernel) ⟨Nat.le_of_ble_eq_true rfl, Nat.le_of_ble_eq_true rfl⟩) (wt_preV hK hN (hP.sub [18, 19, 20, 21, 22, 23, 24, 25, 26, 27, 28, 29, 30, 31, 32, 33] rfl) (va_recv hK hP (ci := 5) (q0 := 18) rfl rfl)) rfl rfl hl.1 rfl (lv_room (Nat.le_of_ble_eq_true rfl)) dL_law_216 ⟨Nat.le_of_ble_eq_true rfl, Nat.le_of_ble_eq_true rfl⟩) ?_
      refine lv_icmp_eq (tgt := 553) hx hb dL_law_219 (by decide) (fun _ => ?_) (fun hne => absurd (rfl) hne)
      have hr9 : rel ph pa ch en sz gc gb sc sh sl ct kn co bo pr wd zs fp pg := hrel
      exact K H locs ls ⟨ph, pa, ch, en, sz, pr, gc, gb, sc, sh, sl, ct, tok, wt, pn, lt, wp, sd, kn, co, bo, wd, zs, fp, ea, dn, cd, nx, nd, nc, al, wo, wh, pg, hP, hD, hS, hr9, hca⟩ hl
    · skip
      refine lv_aload_n hx hb dL_law_161 rfl (lv_at hl 1 rfl) ?_
      refine lv_aload_n hx hb dL_law_162 rfl (lv_at hl 0 rfl) ?_
      refine lv_iload_n hx hb dL_law_163 rfl (lv_at hl 3 rfl) ?_
      refine lv_iconst (v := nI 1) hx hb dL_law_164 (by decide) ?_
      refine wt_iadd hx hb dL_law_165 ?_
      refine wt_sld hx hb hX hbl hbA hS (k := i + 1) (by omega) (by omega) (v := (-1)) e1 dL_law_166 ?_
      refine lv_aload_n hx hb dL_law_167 rfl (lv_at hl 0 rfl) ?_
      refine lv_iload_n hx hb dL_law_168 rfl (lv_at hl 3 rfl) ?_
      refine lv_iconst (v := nI 2) hx hb dL_law_169 (by decide) ?_
      refine wt_iadd hx hb dL_law_170 ?_
      refine wt_sld hx hb hX hbl hbA hS (k := i + 2) (by omega) (by omega) (v := nI vv) e2 dL_law_171 ?_
      refine lv_aload_n hx hb dL_law_172 rfl (lv_at hl 0 rfl) ?_
      refine lv_iload_n hx hb dL_law_173 rfl (lv_at hl 3 rfl) ?_
      refine lv_iconst (v := nI 3) hx hb dL_law_174 (by decide) ?_
      refine wt_iadd hx hb dL_law_175 ?_
      refine wt_sld hx hb hX hbl hbA hS (k := i + 3) (by omega) (by omega) (v := nI ww) e3 dL_law_176 ?_
      refine lv_aload_n hx hb dL_law_177 rfl (lv_at hl 0 rfl) ?_
      refine lv_iload_n hx hb dL_law_178 rfl (lv_at hl 3 rfl) ?_
      refine lv_iconst (v := nI 4) hx hb dL_law_179 (by decide) ?_
      refine wt_iadd hx hb dL_law_180 ?_
      refine wt_sld hx hb hX hbl hbA hS (k := i + 4) (by omega) (by omega) (v := xs (i + 4)) rfl dL_law_181 ?_
      refine lv_aload_n hx hb dL_law_182 rfl (lv_at hl 0 rfl) ?_
      refine lv_iload_n hx hb dL_law_183 rfl (lv_at hl 3 rfl) ?_
      refine lv_iconst (v := nI 5) hx hb dL_law_184 (by decide) ?_
      refine wt_iadd hx hb dL_law_185 ?_
      refine wt_sld hx hb hX hbl hbA hS (k := i + 5) (by omega) (by omega) (v := xs (i + 5)) rfl dL_law_186 ?_
      refine wt_cuti (wc := (wX cI cZ cL q ph pa ch en sz pr gc gb sc sh sl ct tok wt pn lt wp sd)) (w1 := (wX cI cZ cL q ph pa ch en sz pr (upd gc (wt_sl 0 (vv + 1) (ww + 1)) (xs (i + 4))) (upd gb (wt_sl 0 (vv + 1) (ww + 1)) (xs (i + 5))) sc sh sl ct tok wt pn lt wp false)) (wr := (wM cI cZ cL qm kn co bo pr wd zs fp sh sl ct sc ea dn cd nx nd nc al wo wh)) (w2 := (wX cI cZ cL q ph pa ch en sz pr (upd gc (wt_sl 0 (vv + 1) (ww + 1)) (xs (i + 4))) (upd gb (wt_sl 0 (vv + 1) (ww + 1)) (xs (i + 5))) sc sh sl ct tok wt pn lt wp false) ++ (wM cI cZ cL qm kn co bo pr wd zs fp sh sl ct sc ea dn cd nx nd nc al wo wh)) (va_runV (As := [.int (-1), .int (nI vv), .int (nI ww), .int (xs (i + 4)), .int (xs (i + 5))]) (rest := []) ⟨hx, hb, hml, hown, ht⟩ (c_X_gram_1 l dC dI cI cZ cL q H.size ph pa ch en sz pr gc gb sc sh sl ct tok wt pn lt wp sd 0 (vv + 1) (ww + 1) (-1) (nI vv) (nI ww) (xs (i + 4)) (xs (i + 5)) hg (of_decide_eq_true hc1) (of_decide_eq_true hc2) wt_m1a (wt_p1 vv) (wt_p1 ww) (by omega) (by omega) (by omega)) (cwV 5 ht (good_V m_170 m_171 m_172 m_1 m_173) rfl rfl rfl (by decide +kernel) ⟨Nat.le_of_ble_eq_true rfl, Nat.le_of_ble_eq_true rfl⟩) (wt_preVw hK hN (hP.sub [0, 1, 2, 3, 4, 5, 6, 7, 8, 9, 10, 11, 12, 13, 14, 15, 16, 17] rfl) (hD.sub [0, 1, 2, 3, 4, 5, 6, 7, 8, 9, 10, 11, 12, 13, 14, 15, 16, 17] (by decide) rfl) (va_recv hK hP (ci := 0) (q0 := 0) rfl rfl)) rfl rfl hl.1 rfl (lv_room (Nat.le_of_ble_eq_true rfl)) dL_law_187 ⟨Nat.le_of_ble_eq_true rfl, Nat.le_of_ble_eq_true rfl⟩) hP hD hS hA [0, 1, 2, 3, 4, 5, 6, 7, 8, 9, 10, 11, 12, 13, 14, 15, 16, 17] [18, 19, 20, 21, 22, 23, 24, 25, 26, 27, 28, 29, 30, 31, 32, 33] rfl rfl (by decide) (by decide) [16, 17, 18, 19, 20, 21, 22, 23, 24, 25, 26, 27, 28, 29, 30, 31, 32, 33, 0, 1, 2, 3, 4, 5, 6, 7, 8, 9, 10, 11, 12, 13, 14, 15] (by decide) rfl (fun H locs hP hD hS => ?_)
      refine W.widen (k := 34) (n := 14336) (Nat.le_of_ble_eq_true rfl) (Nat.le_of_ble_eq_true rfl) ?_
      refine lv_aload_n hx hb dL_law_190 rfl (lv_at hl 2 rfl) ?_
      refine lv_aload_n hx hb dL_law_191 rfl (lv_at hl 0 rfl) ?_
      refine lv_iload_n hx hb dL_law_192 rfl (lv_at hl 3 rfl) ?_
      refine lv_iconst (v := nI 1) hx hb dL_law_193 (by decide) ?_
      refine wt_iadd hx hb dL_law_194 ?_
      refine wt_sld hx hb hX hbl hbA hS (k := i + 1) (by omega) (by omega) (v := (-1)) e1 dL_law_195 ?_
      refine lv_aload_n hx hb dL_law_196 rfl (lv_at hl 0 rfl) ?_
      refine lv_iload_n hx hb dL_law_197 rfl (lv_at hl 3 rfl) ?_
      refine lv_iconst (v := nI 2) hx hb dL_law_198 (by decide) ?_
      refine wt_iadd hx hb dL_law_199 ?_
      refine wt_sld hx hb hX hbl hbA hS (k := i + 2) (by omega) (by omega) (v := nI vv) e2 dL_law_200 ?_
      refine lv_aload_n hx hb dL_law_201 rfl (lv_at hl 0 rfl) ?_
      refine lv_iload_n hx hb dL_law_202 rfl (lv_at hl 3 rfl) ?_
      refine lv_iconst (v := nI 3) hx hb dL_law_203 (by decide) ?_
      refine wt_iadd hx hb dL_law_204 ?_
      refine wt_sld hx hb hX hbl hbA hS (k := i + 3) (by omega) (by omega) (v := nI ww) e3 dL_law_205 ?_
      refine lv_aload_n hx hb dL_law_206 rfl (lv_at hl 0 rfl) ?_
      refine lv_iload_n hx hb dL_law_207 rfl (lv_at hl 3 rfl) ?_
      refine lv_iconst (v := nI 4) hx hb dL_law_208 (by decide) ?_
      refine wt_iadd hx hb dL_law_209 ?_
      refine wt_sld hx hb hX hbl hbA hS (k := i + 4) (by omega) (by omega) (v := xs (i + 4)) rfl dL_law_210 ?_
      refine lv_aload_n hx hb dL_law_211 rfl (lv_at hl 0 rfl) ?_
      refine lv_iload_n hx hb dL_law_212 rfl (lv_at hl 3 rfl) ?_
      refine lv_iconst (v := nI 5) hx hb dL_law_213 (by decide) ?_
      refine wt_iadd hx hb dL_law_214 ?_
      refine wt_sld hx hb hX hbl hbA hS (k := i + 5) (by omega) (by omega) (v := xs (i + 5)) rfl dL_law_215 ?_
      refine wt_cuti (wc := (wM cI cZ cL qm kn co bo pr wd zs fp sh sl ct sc ea dn cd nx nd nc al wo wh)) (w1 := (wM cI cZ cL qm (va_up kn (5 + 5 * vv + ww) true) (upd co (5 + 5 * vv + ww) (xs (i + 4))) (upd bo (5 + 5 * vv + ww) (xs (i + 5))) pr wd zs fp sh sl ct sc ea dn cd nx nd nc al wo wh)) (wr := (wX cI cZ cL q ph pa ch en sz pr (upd gc (wt_sl 0 (vv + 1) (ww + 1)) (xs (i + 4))) (upd gb (wt_sl 0 (vv + 1) (ww + 1)) (xs (i + 5))) sc sh sl ct tok wt pn lt wp false)) (w2 := (wX cI cZ cL q ph pa ch en sz pr (upd gc (wt_sl 0 (vv + 1) (ww + 1)) (xs (i + 4))) (upd gb (wt_sl 0 (vv + 1) (ww + 1)) (xs (i + 5))) sc sh sl ct tok wt pn lt wp false) ++ (wM cI cZ cL qm (va_up kn (5 + 5 * vv + ww) true) (upd co (5 + 5 * vv + ww) (xs (i + 4))) (upd bo (5 + 5 * vv + ww) (xs (i + 5))) pr wd zs fp sh sl ct sc ea dn cd nx nd nc al wo wh)) (va_runV (As := [.int (-1), .int (nI vv), .int (nI ww), .int (xs (i + 4)), .int (xs (i + 5))]) (rest := [.int (nI 1)]) ⟨hx, hb, hml, hown, ht⟩ (c_M_gram_a2 l dC dI cI cZ cL qm H.size kn co bo pr wd zs fp sh sl ct sc ea dn cd nx nd nc al wo wh vv ww (xs (i + 4)) (xs (i + 5)) hvv hww (of_decide_eq_true hc1) (of_decide_eq_true hc2)) (cwV 5 ht (good_V m_475 m_476 m_477 m_7 m_478) rfl rfl rfl (by decide +kernel) ⟨Nat.le_of_ble_eq_true rfl, Nat.le_of_ble_eq_true rfl⟩) (wt_preVw hK hN (hP.sub [18, 19, 20, 21, 22, 23, 24, 25, 26, 27, 28, 29, 30, 31, 32, 33] rfl) (hD.sub [18, 19, 20, 21, 22, 23, 24, 25, 26, 27, 28, 29, 30, 31, 32, 33] (by decide) rfl) (va_recv hK hP (ci := 5) (q0 := 18) rfl rfl)) rfl rfl hl.1 rfl (lv_room (Nat.le_of_ble_eq_true rfl)) dL_law_216 ⟨Nat.le_of_ble_eq_true rfl, Nat.le_of_ble_eq_true rfl⟩) hP hD hS hA [18, 19, 20, 21, 22, 23, 24, 25, 26, 27, 28, 29, 30, 31, 32, 33] [0, 1, 2, 3, 4, 5, 6, 7, 8, 9, 10, 11, 12, 13, 14, 15, 16, 17] rfl rfl (by decide) (by decide) [0, 1, 2, 3, 4, 5, 6, 7, 8, 9, 10, 11, 12, 13, 14, 15, 16, 17, 18, 19, 20, 21, 22, 23, 24, 25, 26, 27, 28, 29, 30, 31, 32, 33] (by decide) rfl (fun H locs hP hD hS => ?_)
      refine W.widen (k := 34) (n := 14336) (Nat.le_of_ble_eq_true rfl) (Nat.le_of_ble_eq_true rfl) ?_
      refine lv_icmp_eq (tgt := 553) hx hb dL_law_219 (by decide) (fun _ => ?_) (fun hne => absurd (rfl) hne)
      have hr9 : rel ph pa ch en sz (upd gc (wt_sl 0 (vv + 1) (ww + 1)) (xs (i + 4))) (upd gb (wt_sl 0 (vv + 1) (ww + 1)) (xs (i + 5))) sc sh sl ct (va_up kn (5 + 5 * vv + ww) true) (upd co (5 + 5 * vv + ww) (xs (i + 4))) (upd bo (5 + 5 * vv + ww) (xs (i + 5))) pr wd zs fp pg := rel_gr hrel (gr_set (f := 2) (u := 0) (v := vv) (w := ww) hgr (Or.inr (Or.inl ⟨rfl, hvv, hww⟩)) (of_decide_eq_true hc1) (of_decide_eq_true hc2))
      exact K H locs ls ⟨ph, pa, ch, en, sz, pr, (upd gc (wt_sl 0 (vv + 1) (ww + 1)) (xs (i + 4))), (upd gb (wt_sl 0 (vv + 1) (ww + 1)) (xs (i + 5))), sc, sh, sl, ct, tok, wt, pn, lt, wp, false, (va_up kn (5 + 5 * vv + ww) true), (upd co (5 + 5 * vv + ww) (xs (i + 4))), (upd bo (5 + 5 * vv + ww) (xs (i + 5))), wd, zs, fp, ea, dn, cd, nx, nd, nc, al, wo, wh, pg, hP, hD, hS, hr9, (fun z => absurd z (by decide))⟩ hl
  · skip
    rw [e1, e2, e3] at hg
    rcases bool2 (b := decide (¬ wt_rng (xs (i + 4)) 10000 = 0)) (c := decide (¬ wt_rng (xs (i + 5)) 10000 = 0)) with hcb | ⟨hc1, hc2⟩
    · skip
      refine lv_aload_n hx hb dL_law_161 rfl (lv_at hl 1 rfl) ?_
      refine lv_aload_n hx hb dL_law_162 rfl (lv_at hl 0 rfl) ?_
      refine lv_iload_n hx hb dL_law_163 rfl (lv_at hl 3 rfl) ?_
      refine lv_iconst (v := nI 1) hx hb dL_law_164 (by decide) ?_
      refine wt_iadd hx hb dL_law_165 ?_
      refine wt_sld hx hb hX hbl hbA hS (k := i + 1) (by omega) (by omega) (v := nI uu) e1 dL_law_166 ?_
      refine lv_aload_n hx hb dL_law_167 rfl (lv_at hl 0 rfl) ?_
      refine lv_iload_n hx hb dL_law_168 rfl (lv_at hl 3 rfl) ?_
      refine lv_iconst (v := nI 2) hx hb dL_law_169 (by decide) ?_
      refine wt_iadd hx hb dL_law_170 ?_
      refine wt_sld hx hb hX hbl hbA hS (k := i + 2) (by omega) (by omega) (v := nI vv) e2 dL_law_171 ?_
      refine lv_aload_n hx hb dL_law_172 rfl (lv_at hl 0 rfl) ?_
      refine lv_iload_n hx hb dL_law_173 rfl (lv_at hl 3 rfl) ?_
      refine lv_iconst (v := nI 3) hx hb dL_law_174 (by decide) ?_
      refine wt_iadd hx hb dL_law_175 ?_
      refine wt_sld hx hb hX hbl hbA hS (k := i + 3) (by omega) (by omega) (v := nI ww) e3 dL_law_176 ?_
      refine lv_aload_n hx hb dL_law_177 rfl (lv_at hl 0 rfl) ?_
      refine lv_iload_n hx hb dL_law_178 rfl (lv_at hl 3 rfl) ?_
      refine lv_iconst (v := nI 4) hx hb dL_law_179 (by decide) ?_
      refine wt_iadd hx hb dL_law_180 ?_
      refine wt_sld hx hb hX hbl hbA hS (k := i + 4) (by omega) (by omega) (v := xs (i + 4)) rfl dL_law_181 ?_
      refine lv_aload_n hx hb dL_law_182 rfl (lv_at hl 0 rfl) ?_
      refine lv_iload_n hx hb dL_law_183 rfl (lv_at hl 3 rfl) ?_
      refine lv_iconst (v := nI 5) hx hb dL_law_184 (by decide) ?_
      refine wt_iadd hx hb dL_law_185 ?_
      refine wt_sld hx hb hX hbl hbA hS (k := i + 5) (by omega) (by omega) (v := xs (i + 5)) rfl dL_law_186 ?_
      refine wt_roi (va_runV (As := [.int (nI uu), .int (nI vv), .int (nI ww), .int (xs (i + 4)), .int (xs (i + 5))]) (rest := []) ⟨hx, hb, hml, hown, ht⟩ (c_X_gram_0 l dC dI cI cZ cL q ph pa ch en sz pr gc gb sc sh sl ct tok wt pn lt wp sd (nI uu) (nI vv) (nI ww) (xs (i + 4)) (xs (i + 5)) (by rw [hg, Bool.true_and]; exact hcb)) (cwV 5 ht (good_V m_170 m_171 m_172 m_1 m_173) rfl rfl rfl (by decide +kernel) ⟨Nat.le_of_ble_eq_true rfl, Nat.le_of_ble_eq_true rfl⟩) (wt_preV hK hN (hP.sub [0, 1, 2, 3, 4, 5, 6, 7, 8, 9, 10, 11, 12, 13, 14, 15, 16, 17] rfl) (va_recv hK hP (ci := 0) (q0 := 0) rfl rfl)) rfl rfl hl.1 rfl (lv_room (Nat.le_of_ble_eq_true rfl)) dL_law_187 ⟨Nat.le_of_ble_eq_true rfl, Nat.le_of_ble_eq_true rfl⟩) ?_
      refine lv_aload_n hx hb dL_law_190 rfl (lv_at hl 2 rfl) ?_
      refine lv_aload_n hx hb dL_law_191 rfl (lv_at hl 0 rfl) ?_
      refine lv_iload_n hx hb dL_law_192 rfl (lv_at hl 3 rfl) ?_
      refine lv_iconst (v := nI 1) hx hb dL_law_193 (by decide) ?_
      refine wt_iadd hx hb dL_law_194 ?_
      refine wt_sld hx hb hX hbl hbA hS (k := i + 1) (by omega) (by omega) (v := nI uu) e1 dL_law_195 ?_
      refine lv_aload_n hx hb dL_law_196 rfl (lv_at hl 0 rfl) ?_
      refine lv_iload_n hx hb dL_law_197 rfl (lv_at hl 3 rfl) ?_
      refine lv_iconst (v := nI 2) hx hb dL_law_198 (by decide) ?_
      refine wt_iadd hx hb dL_law_199 ?_
      refine wt_sld hx hb hX hbl hbA hS (k := i + 2) (by omega) (by omega) (v := nI vv) e2 dL_law_200 ?_
      refine lv_aload_n hx hb dL_law_201 rfl (lv_at hl 0 rfl) ?_
      refine lv_iload_n hx hb dL_law_202 rfl (lv_at hl 3 rfl) ?_
      refine lv_iconst (v := nI 3) hx hb dL_law_203 (by decide) ?_
      refine wt_iadd hx hb dL_law_204 ?_
      refine wt_sld hx hb hX hbl hbA hS (k := i + 3) (by omega) (by omega) (v := nI ww) e3 dL_law_205 ?_
      refine lv_aload_n hx hb dL_law_206 rfl (lv_at hl 0 rfl) ?_
      refine lv_iload_n hx hb dL_law_207 rfl (lv_at hl 3 rfl) ?_
      refine lv_iconst (v := nI 4) hx hb dL_law_208 (by decide) ?_
      refine wt_iadd hx hb dL_law_209 ?_
      refine wt_sld hx hb hX hbl hbA hS (k := i + 4) (by omega) (by omega) (v := xs (i + 4)) rfl dL_law_210 ?_
      refine lv_aload_n hx hb dL_law_211 rfl (lv_at hl 0 rfl) ?_
      refine lv_iload_n hx hb dL_law_212 rfl (lv_at hl 3 rfl) ?_
      refine lv_iconst (v := nI 5) hx hb dL_law_213 (by decide) ?_
      refine wt_iadd hx hb dL_law_214 ?_
      refine wt_sld hx hb hX hbl hbA hS (k := i + 5) (by omega) (by omega) (v := xs (i + 5)) rfl dL_law_215 ?_
      refine wt_roi (va_runV (As := [.int (nI uu), .int (nI vv), .int (nI ww), .int (xs (i + 4)), .int (xs (i + 5))]) (rest := [.int (nI 0)]) ⟨hx, hb, hml, hown, ht⟩ (c_M_gram_b3 l dC dI cI cZ cL qm kn co bo pr wd zs fp sh sl ct sc ea dn cd nx nd nc al wo wh uu vv ww (xs (i + 4)) (xs (i + 5)) huu hvv hww hcb) (cwV 5 ht (good_V m_475 m_476 m_477 m_7 m_478) rfl rfl rfl (by decide +kernel) ⟨Nat.le_of_ble_eq_true rfl, Nat.le_of_ble_eq_true rfl⟩) (wt_preV hK hN (hP.sub [18, 19, 20, 21, 22, 23, 24, 25, 26, 27, 28, 29, 30, 31, 32, 33] rfl) (va_recv hK hP (ci := 5) (q0 := 18) rfl rfl)) rfl rfl hl.1 rfl (lv_room (Nat.le_of_ble_eq_true rfl)) dL_law_216 ⟨Nat.le_of_ble_eq_true rfl, Nat.le_of_ble_eq_true rfl⟩) ?_
      refine lv_icmp_eq (tgt := 553) hx hb dL_law_219 (by decide) (fun _ => ?_) (fun hne => absurd (rfl) hne)
      have hr9 : rel ph pa ch en sz gc gb sc sh sl ct kn co bo pr wd zs fp pg := hrel
      exact K H locs ls ⟨ph, pa, ch, en, sz, pr, gc, gb, sc, sh, sl, ct, tok, wt, pn, lt, wp, sd, kn, co, bo, wd, zs, fp, ea, dn, cd, nx, nd, nc, al, wo, wh, pg, hP, hD, hS, hr9, hca⟩ hl
    · skip
      refine lv_aload_n hx hb dL_law_161 rfl (lv_at hl 1 rfl) ?_
      refine lv_aload_n hx hb dL_law_162 rfl (lv_at hl 0 rfl) ?_
      refine lv_iload_n hx hb dL_law_163 rfl (lv_at hl 3 rfl) ?_
      refine lv_iconst (v := nI 1) hx hb dL_law_164 (by decide) ?_
      refine wt_iadd hx hb dL_law_165 ?_
      refine wt_sld hx hb hX hbl hbA hS (k := i + 1) (by omega) (by omega) (v := nI uu) e1 dL_law_166 ?_
      refine lv_aload_n hx hb dL_law_167 rfl (lv_at hl 0 rfl) ?_
      refine lv_iload_n hx hb dL_law_168 rfl (lv_at hl 3 rfl) ?_
      refine lv_iconst (v := nI 2) hx hb dL_law_169 (by decide) ?_
      refine wt_iadd hx hb dL_law_170 ?_
      refine wt_sld hx hb hX hbl hbA hS (k := i + 2) (by omega) (by omega) (v := nI vv) e2 dL_law_171 ?_
      refine lv_aload_n hx hb dL_law_172 rfl (lv_at hl 0 rfl) ?_
      refine lv_iload_n hx hb dL_law_173 rfl (lv_at hl 3 rfl) ?_
      refine lv_iconst (v := nI 3) hx hb dL_law_174 (by decide) ?_
      refine wt_iadd hx hb dL_law_175 ?_
      refine wt_sld hx hb hX hbl hbA hS (k := i + 3) (by omega) (by omega) (v := nI ww) e3 dL_law_176 ?_
      refine lv_aload_n hx hb dL_law_177 rfl (lv_at hl 0 rfl) ?_
      refine lv_iload_n hx hb dL_law_178 rfl (lv_at hl 3 rfl) ?_
      refine lv_iconst (v := nI 4) hx hb dL_law_179 (by decide) ?_
      refine wt_iadd hx hb dL_law_180 ?_
      refine wt_sld hx hb hX hbl hbA hS (k := i + 4) (by omega) (by omega) (v := xs (i + 4)) rfl dL_law_181 ?_
      refine lv_aload_n hx hb dL_law_182 rfl (lv_at hl 0 rfl) ?_
      refine lv_iload_n hx hb dL_law_183 rfl (lv_at hl 3 rfl) ?_
      refine lv_iconst (v := nI 5) hx hb dL_law_184 (by decide) ?_
      refine wt_iadd hx hb dL_law_185 ?_
      refine wt_sld hx hb hX hbl hbA hS (k := i + 5) (by omega) (by omega) (v := xs (i + 5)) rfl dL_law_186 ?_
      refine wt_cuti (wc := (wX cI cZ cL q ph pa ch en sz pr gc gb sc sh sl ct tok wt pn lt wp sd)) (w1 := (wX cI cZ cL q ph pa ch en sz pr (upd gc (wt_sl (uu + 1) (vv + 1) (ww + 1)) (xs (i + 4))) (upd gb (wt_sl (uu + 1) (vv + 1) (ww + 1)) (xs (i + 5))) sc sh sl ct tok wt pn lt wp false)) (wr := (wM cI cZ cL qm kn co bo pr wd zs fp sh sl ct sc ea dn cd nx nd nc al wo wh)) (w2 := (wX cI cZ cL q ph pa ch en sz pr (upd gc (wt_sl (uu + 1) (vv + 1) (ww + 1)) (xs (i + 4))) (upd gb (wt_sl (uu + 1) (vv + 1) (ww + 1)) (xs (i + 5))) sc sh sl ct tok wt pn lt wp false) ++ (wM cI cZ cL qm kn co bo pr wd zs fp sh sl ct sc ea dn cd nx nd nc al wo wh)) (va_runV (As := [.int (nI uu), .int (nI vv), .int (nI ww), .int (xs (i + 4)), .int (xs (i + 5))]) (rest := []) ⟨hx, hb, hml, hown, ht⟩ (c_X_gram_1 l dC dI cI cZ cL q H.size ph pa ch en sz pr gc gb sc sh sl ct tok wt pn lt wp sd (uu + 1) (vv + 1) (ww + 1) (nI uu) (nI vv) (nI ww) (xs (i + 4)) (xs (i + 5)) hg (of_decide_eq_true hc1) (of_decide_eq_true hc2) (wt_p1 uu) (wt_p1 vv) (wt_p1 ww) (by omega) (by omega) (by omega)) (cwV 5 ht (good_V m_170 m_171 m_172 m_1 m_173) rfl rfl rfl (by decide +kernel) ⟨Nat.le_of_ble_eq_true rfl, Nat.le_of_ble_eq_true rfl⟩) (wt_preVw hK hN (hP.sub [0, 1, 2, 3, 4, 5, 6, 7, 8, 9, 10, 11, 12, 13, 14, 15, 16, 17] rfl) (hD.sub [0, 1, 2, 3, 4, 5, 6, 7, 8, 9, 10, 11, 12, 13, 14, 15, 16, 17] (by decide) rfl) (va_recv hK hP (ci := 0) (q0 := 0) rfl rfl)) rfl rfl hl.1 rfl (lv_room (Nat.le_of_ble_eq_true rfl)) dL_law_187 ⟨Nat.le_of_ble_eq_true rfl, Nat.le_of_ble_eq_true rfl⟩) hP hD hS hA [0, 1, 2, 3, 4, 5, 6, 7, 8, 9, 10, 11, 12, 13, 14, 15, 16, 17] [18, 19, 20, 21, 22, 23, 24, 25, 26, 27, 28, 29, 30, 31, 32, 33] rfl rfl (by decide) (by decide) [16, 17, 18, 19, 20, 21, 22, 23, 24, 25, 26, 27, 28, 29, 30, 31, 32, 33, 0, 1, 2, 3, 4, 5, 6, 7, 8, 9, 10, 11, 12, 13, 14, 15] (by decide) rfl (fun H locs hP hD hS => ?_)
      refine W.widen (k := 34) (n := 14336) (Nat.le_of_ble_eq_true rfl) (Nat.le_of_ble_eq_true rfl) ?_
      refine lv_aload_n hx hb dL_law_190 rfl (lv_at hl 2 rfl) ?_
      refine lv_aload_n hx hb dL_law_191 rfl (lv_at hl 0 rfl) ?_
      refine lv_iload_n hx hb dL_law_192 rfl (lv_at hl 3 rfl) ?_
      refine lv_iconst (v := nI 1) hx hb dL_law_193 (by decide) ?_
      refine wt_iadd hx hb dL_law_194 ?_
      refine wt_sld hx hb hX hbl hbA hS (k := i + 1) (by omega) (by omega) (v := nI uu) e1 dL_law_195 ?_
      refine lv_aload_n hx hb dL_law_196 rfl (lv_at hl 0 rfl) ?_
      refine lv_iload_n hx hb dL_law_197 rfl (lv_at hl 3 rfl) ?_
      refine lv_iconst (v := nI 2) hx hb dL_law_198 (by decide) ?_
      refine wt_iadd hx hb dL_law_199 ?_
      refine wt_sld hx hb hX hbl hbA hS (k := i + 2) (by omega) (by omega) (v := nI vv) e2 dL_law_200 ?_
      refine lv_aload_n hx hb dL_law_201 rfl (lv_at hl 0 rfl) ?_
      refine lv_iload_n hx hb dL_law_202 rfl (lv_at hl 3 rfl) ?_
      refine lv_iconst (v := nI 3) hx hb dL_law_203 (by decide) ?_
      refine wt_iadd hx hb dL_law_204 ?_
      refine wt_sld hx hb hX hbl hbA hS (k := i + 3) (by omega) (by omega) (v := nI ww) e3 dL_law_205 ?_
      refine lv_aload_n hx hb dL_law_206 rfl (lv_at hl 0 rfl) ?_
      refine lv_iload_n hx hb dL_law_207 rfl (lv_at hl 3 rfl) ?_
      refine lv_iconst (v := nI 4) hx hb dL_law_208 (by decide) ?_
      refine wt_iadd hx hb dL_law_209 ?_
      refine wt_sld hx hb hX hbl hbA hS (k := i + 4) (by omega) (by omega) (v := xs (i + 4)) rfl dL_law_210 ?_
      refine lv_aload_n hx hb dL_law_211 rfl (lv_at hl 0 rfl) ?_
      refine lv_iload_n hx hb dL_law_212 rfl (lv_at hl 3 rfl) ?_
      refine lv_iconst (v := nI 5) hx hb dL_law_213 (by decide) ?_
      refine wt_iadd hx hb dL_law_214 ?_
      refine wt_sld hx hb hX hbl hbA hS (k := i + 5) (by omega) (by omega) (v := xs (i + 5)) rfl dL_law_215 ?_
      refine wt_cuti (wc := (wM cI cZ cL qm kn co bo pr wd zs fp sh sl ct sc ea dn cd nx nd nc al wo wh)) (w1 := (wM cI cZ cL qm (va_up kn (30 + 25 * uu + 5 * vv + ww) true) (upd co (30 + 25 * uu + 5 * vv + ww) (xs (i + 4))) (upd bo (30 + 25 * uu + 5 * vv + ww) (xs (i + 5))) pr wd zs fp sh sl ct sc ea dn cd nx nd nc al wo wh)) (wr := (wX cI cZ cL q ph pa ch en sz pr (upd gc (wt_sl (uu + 1) (vv + 1) (ww + 1)) (xs (i + 4))) (upd gb (wt_sl (uu + 1) (vv + 1) (ww + 1)) (xs (i + 5))) sc sh sl ct tok wt pn lt wp false)) (w2 := (wX cI cZ cL q ph pa ch en sz pr (upd gc (wt_sl (uu + 1) (vv + 1) (ww + 1)) (xs (i + 4))) (upd gb (wt_sl (uu + 1) (vv + 1) (ww + 1)) (xs (i + 5))) sc sh sl ct tok wt pn lt wp false) ++ (wM cI cZ cL qm (va_up kn (30 + 25 * uu + 5 * vv + ww) true) (upd co (30 + 25 * uu + 5 * vv + ww) (xs (i + 4))) (upd bo (30 + 25 * uu + 5 * vv + ww) (xs (i + 5))) pr wd zs fp sh sl ct sc ea dn cd nx nd nc al wo wh)) (va_runV (As := [.int (nI uu), .int (nI vv), .int (nI ww), .int (xs (i + 4)), .int (xs (i + 5))]) (rest := [.int (nI 1)]) ⟨hx, hb, hml, hown, ht⟩ (c_M_gram_a3 l dC dI cI cZ cL qm H.size kn co bo pr wd zs fp sh sl ct sc ea dn cd nx nd nc al wo wh uu vv ww (xs (i + 4)) (xs (i + 5)) huu hvv hww (of_decide_eq_true hc1) (of_decide_eq_true hc2)) (cwV 5 ht (good_V m_475 m_476 m_477 m_7 m_478) rfl rfl rfl (by decide +kernel) ⟨Nat.le_of_ble_eq_true rfl, Nat.le_of_ble_eq_true rfl⟩) (wt_preVw hK hN (hP.sub [18, 19, 20, 21, 22, 23, 24, 25, 26, 27, 28, 29, 30, 31, 32, 33] rfl) (hD.sub [18, 19, 20, 21, 22, 23, 24, 25, 26, 27, 28, 29, 30, 31, 32, 33] (by decide) rfl) (va_recv hK hP (ci := 5) (q0 := 18) rfl rfl)) rfl rfl hl.1 rfl (lv_room (Nat.le_of_ble_eq_true rfl)) dL_law_216 ⟨Nat.le_of_ble_eq_true rfl, Nat.le_of_ble_eq_true rfl⟩) hP hD hS hA [18, 19, 20, 21, 22, 23, 24, 25, 26, 27, 28, 29, 30, 31, 32, 33] [0, 1, 2, 3, 4, 5, 6, 7, 8, 9, 10, 11, 12, 13, 14, 15, 16, 17] rfl rfl (by decide) (by decide) [0, 1, 2, 3, 4, 5, 6, 7, 8, 9, 10, 11, 12, 13, 14, 15, 16, 17, 18, 19, 20, 21, 22, 23, 24, 25, 26, 27, 28, 29, 30, 31, 32, 33] (by decide) rfl (fun H locs hP hD hS => ?_)
      refine W.widen (k := 34) (n := 14336) (Nat.le_of_ble_eq_true rfl) (Nat.le_of_ble_eq_true rfl) ?_
      refine lv_icmp_eq (tgt := 553) hx hb dL_law_219 (by decide) (fun _ => ?_) (fun hne => absurd (rfl) hne)
      have hr9 : rel ph pa ch en sz (upd gc (wt_sl (uu + 1) (vv + 1) (ww + 1)) (xs (i + 4))) (upd gb (wt_sl (uu + 1) (vv + 1) (ww + 1)) (xs (i + 5))) sc sh sl ct (va_up kn (30 + 25 * uu + 5 * vv + ww) true) (upd co (30 + 25 * uu + 5 * vv + ww) (xs (i + 4))) (upd bo (30 + 25 * uu + 5 * vv + ww) (xs (i + 5))) pr wd zs fp pg := rel_gr hrel (gr_set (f := 3) (u := uu) (v := vv) (w := ww) hgr (Or.inr (Or.inr ⟨rfl, huu, hvv, hww⟩)) (of_decide_eq_true hc1) (of_decide_eq_true hc2))
      exact K H locs ls ⟨ph, pa, ch, en, sz, pr, (upd gc (wt_sl (uu + 1) (vv + 1) (ww + 1)) (xs (i + 4))), (upd gb (wt_sl (uu + 1) (vv + 1) (ww + 1)) (xs (i + 5))), sc, sh, sl, ct, tok, wt, pn, lt, wp, false, (va_up kn (30 + 25 * uu + 5 * vv + ww) true), (upd co (30 + 25 * uu + 5 * vv + ww) (xs (i + 4))), (upd bo (30 + 25 * uu + 5 * vv + ww) (xs (i + 5))), wd, zs, fp, ea, dn, cd, nx, nd, nc, al, wo, wh, pg, hP, hD, hS, hr9, (fun z => absurd z (by decide))⟩ hl

set_option maxHeartbeats 4000000 in
set_option maxRecDepth 100000 in
theorem law_ungram {p : Program} {l : Launch} {e : Env} {s : State} {m : MethodId} {below : List Frame} {meth : Method} {c : Code} {dC : Nat → ClassId} {dI : Nat → Nat → Nat} {cI cZ cL : ClassId} {b L : Nat} {xs : Nat → Int32} {q qm : Nat → Nat} (hL : L ≤ 3072) (C0 : lw_At p s m meth c b L xs) (hK : va_K (dC, dI) vwCl [(cI, .int), (cZ, .boolean), (cL, .long)] s) (hN : wt_nest s) {i : Nat} (hi : i + 6 ≤ L) (K : ∀ (H : Heap) (locs : List Loc) (ls : Array Slot), wtInv s dC dI cI cZ cL q qm H locs → lv_has ls 4 [(0, .ref b), (1, .ref (q 0)), (2, .ref (qm 0)), (3, .int (nI i))] → W p l e room_1 s m #[Value.ref b] below meth c H locs 34 14336 (lw_Z below #[Value.ref b] s) (F0 m 553 ls [])) : ∀ (H : Heap) (locs : List Loc) (ls : Array Slot), wtInv s dC dI cI cZ cL q qm H locs → lv_has ls 4 [(0, .ref b), (1, .ref (q 0)), (2, .ref (qm 0)), (3, .int (nI i))] → W p l e room_1 s m #[Value.ref b] below meth c H locs 34 14336 (lw_Z below #[Value.ref b] s) (F0 m 224 ls []) := by
  obtain ⟨hx, hb, hr, hml, hown0, hts, hX, hbl, hlocks, hgv⟩ := id C0
  have hown : s.vm.findClass RL = some m.cls := hown0
  have ht : ∀ w ∈ tb, w.before _ s = true := fun w h => hts w (tb_in w h)
  have hA : ∀ a : Nat, s.heap.size ≤ a → (fun a : Nat => s.heap.size ≤ a) a := fun _ h => h
  have hbA : ¬ (fun a : Nat => s.heap.size ≤ a) b := Nat.not_le.mpr hbl
  intro H locs ls hv hl
  obtain ⟨ph, pa, ch, en, sz, pr, gc, gb, sc, sh, sl, ct, tok, wt, pn, lt, wp, sd, kn, co, bo, wd, zs, fp, ea, dn, cd, nx, nd, nc, al, wo, wh, pg, hP, hD, hS, hrel, hca⟩ := hv
  have hrel' := hrel
  obtain ⟨⟨hm8, hzw, htr, hsz24, hen, hgr, hscr, hshr, hslr⟩, hct, hs3, hts0, hzs, hwd, hph, hpa, hch, hfp, hen0⟩ := hrel'
  have hz1 : ∀ k, k < pr → 1 ≤ zs k := fun k hk => (hzw k hk).1
  rcases gram_forms (xs (i + 1)) (xs (i + 2)) (xs (i + 3)) with hg | ⟨hg, ⟨ww, hww, e1, e2, e3⟩ | ⟨vv, ww, hvv, hww, e1, e2, e3⟩ | ⟨uu, vv, ww, huu, hvv, hww, e1, e2, e3⟩⟩
  · skip
    refine lv_aload_n hx hb dL_law_224 rfl (lv_at hl 1 rfl) ?_
    refine lv_aload_n hx hb dL_law_225 rfl (lv_at hl 0 rfl) ?_
    refine lv_iload_n hx hb dL_law_226 rfl (lv_at hl 3 rfl) ?_
    refine lv_iconst (v := nI 1) hx hb dL_law_227 (by decide) ?_
    refine wt_iadd hx hb dL_law_228 ?_
    refine wt_sld hx hb hX hbl hbA hS (k := i + 1) (by omega) (by omega) (v := xs (i + 1)) rfl dL_law_229 ?_
    refine lv_aload_n hx hb dL_law_230 rfl (lv_at hl 0 rfl) ?_
    refine lv_iload_n hx hb dL_law_231 rfl (lv_at hl 3 rfl) ?_
    refine lv_iconst (v := nI 2) hx hb dL_law_232 (by decide) ?_
    refine wt_iadd hx hb dL_law_233 ?_
    refine wt_sld hx hb hX hbl hbA hS (k := i + 2) (by omega) (by omega) (v := xs (i + 2)) rfl dL_law_234 ?_
    refine lv_aload_n hx hb dL_law_235 rfl (lv_at hl 0 rfl) ?_
    refine lv_iload_n hx hb dL_law_236 rfl (lv_at hl 3 rfl) ?_
    refine lv_iconst (v := nI 3) hx hb dL_law_237 (by decide) ?_
    refine wt_iadd hx hb dL_law_238 ?_
    refine wt_sld hx hb hX hbl hbA hS (k := i + 3) (by omega) (by omega) (v := xs (i + 3)) rfl dL_law_239 ?_
    refine wt_roi (va_runV (As := [.int (xs (i + 1)), .int (xs (i + 2)), .int (xs (i + 3))]) (rest := []) ⟨hx, hb, hml, hown, ht⟩ (c_X_ungram_0 l dC dI cI cZ cL q ph pa ch en sz pr gc gb sc sh sl ct tok wt pn lt wp sd (xs (i + 1)) (xs (i + 2)) (xs (i + 3)) hg) (cwV 3 ht (good_V m_191 m_192 m_193 m_1 m_194) rfl rfl rfl (by decide +kernel) ⟨Nat.le_of_ble_eq_true rfl, Nat.le_of_ble_eq_true rfl⟩) (wt_preV hK hN (hP.sub [0, 1, 2, 3, 4, 5, 6, 7, 8, 9, 10, 11, 12, 13, 14, 15, 16, 17] rfl) (va_recv hK hP (ci := 0) (q0 := 0) rfl rfl)) rfl rfl hl.1 rfl (lv_room (Nat.le_of_ble_eq_true rfl)) dL_law_240 ⟨Nat.le_of_ble_eq_true rfl, Nat.le_of_ble_eq_true rfl⟩) ?_
    refine lv_aload_n hx hb dL_law_243 rfl (lv_at hl 2 rfl) ?_
    refine lv_aload_n hx hb dL_law_244 rfl (lv_at hl 0 rfl) ?_
    refine lv_iload_n hx hb dL_law_245 rfl (lv_at hl 3 rfl) ?_
    refine lv_iconst (v := nI 1) hx hb dL_law_246 (by decide) ?_
    refine wt_iadd hx hb dL_law_247 ?_
    refine wt_sld hx hb hX hbl hbA hS (k := i + 1) (by omega) (by omega) (v := xs (i + 1)) rfl dL_law_248 ?_
    refine lv_aload_n hx hb dL_law_249 rfl (lv_at hl 0 rfl) ?_
    refine lv_iload_n hx hb dL_law_250 rfl (lv_at hl 3 rfl) ?_
    refine lv_iconst (v := nI 2) hx hb dL_law_251 (by decide) ?_
    refine wt_iadd hx hb dL_law_252 ?_
    refine wt_sld hx hb hX hbl hbA hS (k := i + 2) (by omega) (by omega) (v := xs (i + 2)) rfl dL_law_253 ?_
    refine lv_aload_n hx hb dL_law_254 rfl (lv_at hl 0 rfl) ?_
    refine lv_iload_n hx hb dL_law_255 rfl (lv_at hl 3 rfl) ?_
    refine lv_iconst (v := nI 3) hx hb dL_law_256 (by decide) ?_
    refine wt_iadd hx hb dL_law_257 ?_
    refine wt_sld hx hb hX hbl hbA hS (k := i + 3) (by omega) (by omega) (v := xs (i + 3)) rfl dL_law_258 ?_
    refine wt_roi (va_runV (As := [.int (xs (i + 1)), .int (xs (i + 2)), .int (xs (i + 3))]) (rest := [.int (nI 0)]) ⟨hx, hb, hml, hown, ht⟩ (c_M_ungram_g l dC dI cI cZ cL qm kn co bo pr wd zs fp sh sl ct sc ea dn cd nx nd nc al wo wh (xs (i + 1)) (xs (i + 2)) (xs (i + 3)) hg) (cwV 3 ht (good_V m_482 m_483 m_484 m_7 m_485) rfl rfl rfl (by decide +kernel) ⟨Nat.le_of_ble_eq_true rfl, Nat.le_of_ble_eq_true rfl⟩) (wt_preV hK hN (hP.sub [18, 19, 20, 21, 22, 23, 24, 25, 26, 27, 28, 29, 30, 31, 32, 33] rfl) (va_recv hK hP (ci := 5) (q0 := 18) rfl rfl)) rfl rfl hl.1 rfl (lv_room (Nat.le_of_ble_eq_true rfl)) dL_law_259 ⟨Nat.le_of_ble_eq_true rfl, Nat.le_of_ble_eq_true rfl⟩) ?_
    refine lv_icmp_eq (tgt := 553) hx hb dL_law_262 (by decide) (fun _ => ?_) (fun hne => absurd (rfl) hne)
    have hr9 : rel ph pa ch en sz gc gb sc sh sl ct kn co bo pr wd zs fp pg := hrel
    exact K H locs ls ⟨ph, pa, ch, en, sz, pr, gc, gb, sc, sh, sl, ct, tok, wt, pn, lt, wp, sd, kn, co, bo, wd, zs, fp, ea, dn, cd, nx, nd, nc, al, wo, wh, pg, hP, hD, hS, hr9, hca⟩ hl
  · skip
    rw [e1, e2, e3] at hg
    cases hkn : kn (ww) with
    | false =>
      refine lv_aload_n hx hb dL_law_224 rfl (lv_at hl 1 rfl) ?_
      refine lv_aload_n hx hb dL_law_225 rfl (lv_at hl 0 rfl) ?_
      refine lv_iload_n hx hb dL_law_226 rfl (lv_at hl 3 rfl) ?_
      refine lv_iconst (v := nI 1) hx hb dL_law_227 (by decide) ?_
      refine wt_iadd hx hb dL_law_228 ?_
      refine wt_sld hx hb hX hbl hbA hS (k := i + 1) (by omega) (by omega) (v := (-1)) e1 dL_law_229 ?_
      refine lv_aload_n hx hb dL_law_230 rfl (lv_at hl 0 rfl) ?_
      refine lv_iload_n hx hb dL_law_231 rfl (lv_at hl 3 rfl) ?_
      refine lv_iconst (v := nI 2) hx hb dL_law_232 (by decide) ?_
      refine wt_iadd hx hb dL_law_233 ?_
      refine wt_sld hx hb hX hbl hbA hS (k := i + 2) (by omega) (by omega) (v := (-1)) e2 dL_law_234 ?_
      refine lv_aload_n hx hb dL_law_235 rfl (lv_at hl 0 rfl) ?_
      refine lv_iload_n hx hb dL_law_236 rfl (lv_at hl 3 rfl) ?_
      refine lv_iconst (v := nI 3) hx hb dL_law_237 (by decide) ?_
      refine wt_iadd hx hb dL_law_238 ?_
      refine wt_sld hx hb hX hbl hbA hS (k := i + 3) (by omega) (by omega) (v := nI ww) e3 dL_law_239 ?_
      refine wt_roi (va_runV (As := [.int (-1), .int (-1), .int (nI ww)]) (rest := []) ⟨hx, hb, hml, hown, ht⟩ (c_X_ungram_1 l dC dI cI cZ cL q ph pa ch en sz pr gc gb sc sh sl ct tok wt pn lt wp sd 0 0 (ww + 1) (-1) (-1) (nI ww) hg wt_m1a wt_m1a (wt_p1 ww) (by omega) (by omega) (by omega) (gr_no (gr_all.mp hgr 1 0 0 ww (Or.inl ⟨rfl, hww⟩)) hkn)) (cwV 3 ht (good_V m_191 m_192 m_193 m_1 m_194) rfl rfl rfl (by decide +kernel) ⟨Nat.le_of_ble_eq_true rfl, Nat.le_of_ble_eq_true rfl⟩) (wt_preV hK hN (hP.sub [0, 1, 2, 3, 4, 5, 6, 7, 8, 9, 10, 11, 12, 13, 14, 15, 16, 17] rfl) (va_recv hK hP (ci := 0) (q0 := 0) rfl rfl)) rfl rfl hl.1 rfl (lv_room (Nat.le_of_ble_eq_true rfl)) dL_law_240 ⟨Nat.le_of_ble_eq_true rfl, Nat.le_of_ble_eq_true rfl⟩) ?_
      refine lv_aload_n hx hb dL_law_243 rfl (lv_at hl 2 rfl) ?_
      refine lv_aload_n hx hb dL_law_244 rfl (lv_at hl 0 rfl) ?_
      refine lv_iload_n hx hb dL_law_245 rfl (lv_at hl 3 rfl) ?_
      refine lv_iconst (v := nI 1) hx hb dL_law_246 (by decide) ?_
      refine wt_iadd hx hb dL_law_247 ?_
      refine wt_sld hx hb hX hbl hbA hS (k := i + 1) (by omega) (by omega) (v := (-1)) e1 dL_law_248 ?_
      refine lv_aload_n hx hb dL_law_249 rfl (lv_at hl 0 rfl) ?_
      refine lv_iload_n hx hb dL_law_250 rfl (lv_at hl 3 rfl) ?_
      refine lv_iconst (v := nI 2) hx hb dL_law_251 (by decide) ?_
      refine wt_iadd hx hb dL_law_252 ?_
      refine wt_sld hx hb hX hbl hbA hS (k := i + 2) (by omega) (by omega) (v := (-1)) e2 dL_law_253 ?_
      refine lv_aload_n hx hb dL_law_254 rfl (lv_at hl 0 rfl) ?_
      refine lv_iload_n hx hb dL_law_255 rfl (lv_at hl 3 rfl) ?_
      refine lv_iconst (v := nI 3) hx hb dL_law_256 (by decide) ?_
      refine wt_iadd hx hb dL_law_257 ?_
      refine wt_sld hx hb hX hbl hbA hS (k := i + 3) (by omega) (by omega) (v := nI ww) e3 dL_law_258 ?_
      refine wt_roi (va_runV (As := [.int (-1), .int (-1), .int (nI ww)]) (rest := [.int (nI 0)]) ⟨hx, hb, hml, hown, ht⟩ (c_M_ungram_n1 l dC dI cI cZ cL qm kn co bo pr wd zs fp sh sl ct sc ea dn cd nx nd nc al wo wh ww hww hkn) (cwV 3 ht (good_V m_482 m_483 m_484 m_7 m_485) rfl rfl rfl (by decide +kernel) ⟨Nat.le_of_ble_eq_true rfl, Nat.le_of_ble_eq_true rfl⟩) (wt_preV hK hN (hP.sub [18, 19, 20, 21, 22, 23, 24, 25, 26, 27, 28, 29, 30, 31, 32, 33] rfl) (va_recv hK hP (ci := 5) (q0 := 18) rfl rfl)) rfl rfl hl.1 rfl (lv_room (Nat.le_of_ble_eq_true rfl)) dL_law_259 ⟨Nat.le_of_ble_eq_true rfl, Nat.le_of_ble_eq_true rfl⟩) ?_
      refine lv_icmp_eq (tgt := 553) hx hb dL_law_262 (by decide) (fun _ => ?_) (fun hne => absurd (rfl) hne)
      have hr9 : rel ph pa ch en sz gc gb sc sh sl ct kn co bo pr wd zs fp pg := hrel
      exact K H locs ls ⟨ph, pa, ch, en, sz, pr, gc, gb, sc, sh, sl, ct, tok, wt, pn, lt, wp, sd, kn, co, bo, wd, zs, fp, ea, dn, cd, nx, nd, nc, al, wo, wh, pg, hP, hD, hS, hr9, hca⟩ hl
    | true =>
      refine lv_aload_n hx hb dL_law_224 rfl (lv_at hl 1 rfl) ?_
      refine lv_aload_n hx hb dL_law_225 rfl (lv_at hl 0 rfl) ?_
      refine lv_iload_n hx hb dL_law_226 rfl (lv_at hl 3 rfl) ?_
      refine lv_iconst (v := nI 1) hx hb dL_law_227 (by decide) ?_
      refine wt_iadd hx hb dL_law_228 ?_
      refine wt_sld hx hb hX hbl hbA hS (k := i + 1) (by omega) (by omega) (v := (-1)) e1 dL_law_229 ?_
      refine lv_aload_n hx hb dL_law_230 rfl (lv_at hl 0 rfl) ?_
      refine lv_iload_n hx hb dL_law_231 rfl (lv_at hl 3 rfl) ?_
      refine lv_iconst (v := nI 2) hx hb dL_law_232 (by decide) ?_
      refine wt_iadd hx hb dL_law_233 ?_
      refine wt_sld hx hb hX hbl hbA hS (k := i + 2) (by omega) (by omega) (v := (-1)) e2 dL_law_234 ?_
      refine lv_aload_n hx hb dL_law_235 rfl (lv_at hl 0 rfl) ?_
      refine lv_iload_n hx hb dL_law_236 rfl (lv_at hl 3 rfl) ?_
      refine lv_iconst (v := nI 3) hx hb dL_law_237 (by decide) ?_
      refine wt_iadd hx hb dL_law_238 ?_
      refine wt_sld hx hb hX hbl hbA hS (k := i + 3) (by omega) (by omega) (v := nI ww) e3 dL_law_239 ?_
      refine wt_cuti (wc := (wX cI cZ cL q ph pa ch en sz pr gc gb sc sh sl ct tok wt pn lt wp sd)) (w1 := (wX cI cZ cL q ph pa ch en sz pr (upd gc (wt_sl 0 0 (ww + 1)) (-1)) (upd gb (wt_sl 0 0 (ww + 1)) (nI 0)) sc sh sl ct tok wt pn lt wp false)) (wr := (wM cI cZ cL qm kn co bo pr wd zs fp sh sl ct sc ea dn cd nx nd nc al wo wh)) (w2 := (wX cI cZ cL q ph pa ch en sz pr (upd gc (wt_sl 0 0 (ww + 1)) (-1)) (upd gb (wt_sl 0 0 (ww + 1)) (nI 0)) sc sh sl ct tok wt pn lt wp false) ++ (wM cI cZ cL qm kn co bo pr wd zs fp sh sl ct sc ea dn cd nx nd nc al wo wh)) (va_runV (As := [.int (-1), .int (-1), .int (nI ww)]) (rest := []) ⟨hx, hb, hml, hown, ht⟩ (c_X_ungram_2 l dC dI cI cZ cL q H.size ph pa ch en sz pr gc gb sc sh sl ct tok wt pn lt wp sd 0 0 (ww + 1) (-1) (-1) (nI ww) hg wt_m1a wt_m1a (wt_p1 ww) (by omega) (by omega) (by omega) (gr_yes (gr_all.mp hgr 1 0 0 ww (Or.inl ⟨rfl, hww⟩)) hkn)) (cwV 3 ht (good_V m_191 m_192 m_193 m_1 m_194) rfl rfl rfl (by decide +kernel) ⟨Nat.le_of_ble_eq_true rfl, Nat.le_of_ble_eq_true rfl⟩) (wt_preVw hK hN (hP.sub [0, 1, 2, 3, 4, 5, 6, 7, 8, 9, 10, 11, 12, 13, 14, 15, 16, 17] rfl) (hD.sub [0, 1, 2, 3, 4, 5, 6, 7, 8, 9, 10, 11, 12, 13, 14, 15, 16, 17] (by decide) rfl) (va_recv hK hP (ci := 0) (q0 := 0) rfl rfl)) rfl rfl hl.1 rfl (lv_room (Nat.le_of_ble_eq_true rfl)) dL_law_240 ⟨Nat.le_of_ble_eq_true rfl, Nat.le_of_ble_eq_true rfl⟩) hP hD hS hA [0, 1, 2, 3, 4, 5, 6, 7, 8, 9, 10, 11, 12, 13, 14, 15, 16, 17] [18, 19, 20, 21, 22, 23, 24, 25, 26, 27, 28, 29, 30, 31, 32, 33] rfl rfl (by decide) (by decide) [16, 17, 18, 19, 20, 21, 22, 23, 24, 25, 26, 27, 28, 29, 30, 31, 32, 33, 0, 1, 2, 3, 4, 5, 6, 7, 8, 9, 10, 11, 12, 13, 14, 15] (by decide) rfl (fun H locs hP hD hS => ?_)
      refine W.widen (k := 34) (n := 14336) (Nat.le_of_ble_eq_true rfl) (Nat.le_of_ble_eq_true rfl) ?_
      refine lv_aload_n hx hb dL_law_243 rfl (lv_at hl 2 rfl) ?_
      refine lv_aload_n hx hb dL_law_244 rfl (lv_at hl 0 rfl) ?_
      refine lv_iload_n hx hb dL_law_245 rfl (lv_at hl 3 rfl) ?_
      refine lv_iconst (v := nI 1) hx hb dL_law_246 (by decide) ?_
      refine wt_iadd hx hb dL_law_247 ?_
      refine wt_sld hx hb hX hbl hbA hS (k := i + 1) (by omega) (by omega) (v := (-1)) e1 dL_law_248 ?_
      refine lv_aload_n hx hb dL_law_249 rfl (lv_at hl 0 rfl) ?_
      refine lv_iload_n hx hb dL_law_250 rfl (lv_at hl 3 rfl) ?_
      refine lv_iconst (v := nI 2) hx hb dL_law_251 (by decide) ?_
      refine wt_iadd hx hb dL_law_252 ?_
      refine wt_sld hx hb hX hbl hbA hS (k := i + 2) (by omega) (by omega) (v := (-1)) e2 dL_law_253 ?_
      refine lv_aload_n hx hb dL_law_254 rfl (lv_at hl 0 rfl) ?_
      refine lv_iload_n hx hb dL_law_255 rfl (lv_at hl 3 rfl) ?_
      refine lv_iconst (v := nI 3) hx hb dL_law_256 (by decide) ?_
      refine wt_iadd hx hb dL_law_257 ?_
      refine wt_sld hx hb hX hbl hbA hS (k := i + 3) (by omega) (by omega) (v := nI ww) e3 dL_law_258 ?_
      refine wt_cuti (wc := (wM cI cZ cL qm kn co bo pr wd zs fp sh sl ct sc ea dn cd nx nd nc al wo wh)) (w1 := (wM cI cZ cL qm (va_up kn (ww) false) co bo pr wd zs fp sh sl ct sc ea dn cd nx nd nc al wo wh)) (wr := (wX cI cZ cL q ph pa ch en sz pr (upd gc (wt_sl 0 0 (ww + 1)) (-1)) (upd gb (wt_sl 0 0 (ww + 1)) (nI 0)) sc sh sl ct tok wt pn lt wp false)) (w2 := (wX cI cZ cL q ph pa ch en sz pr (upd gc (wt_sl 0 0 (ww + 1)) (-1)) (upd gb (wt_sl 0 0 (ww + 1)) (nI 0)) sc sh sl ct tok wt pn lt wp false) ++ (wM cI cZ cL qm (va_up kn (ww) false) co bo pr wd zs fp sh sl ct sc ea dn cd nx nd nc al wo wh)) (va_runV (As := [.int (-1), .int (-1), .int (nI ww)]) (rest := [.int (nI 1)]) ⟨hx, hb, hml, hown, ht⟩ (c_M_ungram_a1 l dC dI cI cZ cL qm H.size kn co bo pr wd zs fp sh sl ct sc ea dn cd nx nd nc al wo wh ww hww hkn) (cwV 3 ht (good_V m_482 m_483 m_484 m_7 m_485) rfl rfl rfl (by decide +kernel) ⟨Nat.le_of_ble_eq_true rfl, Nat.le_of_ble_eq_true rfl⟩) (wt_preVw hK hN (hP.sub [18, 19, 20, 21, 22, 23, 24, 25, 26, 27, 28, 29, 30, 31, 32, 33] rfl) (hD.sub [18, 19, 20, 21, 22, 23, 24, 25, 26, 27, 28, 29, 30, 31, 32, 33] (by decide) rfl) (va_recv hK hP (ci := 5) (q0 := 18) rfl rfl)) rfl rfl hl.1 rfl (lv_room (Nat.le_of_ble_eq_true rfl)) dL_law_259 ⟨Nat.le_of_ble_eq_true rfl, Nat.le_of_ble_eq_true rfl⟩) hP hD hS hA [18, 19, 20, 21, 22, 23, 24, 25, 26, 27, 28, 29, 30, 31, 32, 33] [0, 1, 2, 3, 4, 5, 6, 7, 8, 9, 10, 11, 12, 13, 14, 15, 16, 17] rfl rfl (by decide) (by decide) [0, 1, 2, 3, 4, 5, 6, 7, 8, 9, 10, 11, 12, 13, 14, 15, 16, 17, 18, 19, 20, 21, 22, 23, 24, 25, 26, 27, 28, 29, 30, 31, 32, 33] (by decide) rfl (fun H locs hP hD hS => ?_)
      refine W.widen (k := 34) (n := 14336) (Nat.le_of_ble_eq_true rfl) (Nat.le_of_ble_eq_true rfl) ?_
      refine lv_icmp_eq (tgt := 553) hx hb dL_law_262 (by decide) (fun _ => ?_) (fun hne => absurd (rfl) hne)
      have hr9 : rel ph pa ch en sz (upd gc (wt_sl 0 0 (ww + 1)) (-1)) (upd gb (wt_sl 0 0 (ww + 1)) (nI 0)) sc sh sl ct (va_up kn (ww) false) co bo pr wd zs fp pg := rel_gr hrel (gr_del (f := 1) (u := 0) (v := 0) (w := ww) hgr (Or.inl ⟨rfl, hww⟩))
      exact K H locs ls ⟨ph, pa, ch, en, sz, pr, (upd gc (wt_sl 0 0 (ww + 1)) (-1)), (upd gb (wt_sl 0 0 (ww + 1)) (nI 0)), sc, sh, sl, ct, tok, wt, pn, lt, wp, false, (va_up kn (ww) false), co, bo, wd, zs, fp, ea, dn, cd, nx, nd, nc, al, wo, wh, pg, hP, hD, hS, hr9, (fun z => absurd z (by decide))⟩ hl
  · skip
    rw [e1, e2, e3] at hg
    cases hkn : kn (5 + 5 * vv + ww) with
    | false =>
      refine lv_aload_n hx hb dL_law_224 rfl (lv_at hl 1 rfl) ?_
      refine lv_aload_n hx hb dL_law_225 rfl (lv_at hl 0 rfl) ?_
      refine lv_iload_n hx hb dL_law_226 rfl (lv_at hl 3 rfl) ?_
      refine lv_iconst (v := nI 1) hx hb dL_law_227 (by decide) ?_
      refine wt_iadd hx hb dL_law_228 ?_
      refine wt_sld hx hb hX hbl hbA hS (k := i + 1) (by omega) (by omega) (v := (-1)) e1 dL_law_229 ?_
      refine lv_aload_n hx hb dL_law_230 rfl (lv_at hl 0 rfl) ?_
      refine lv_iload_n hx hb dL_law_231 rfl (lv_at hl 3 rfl) ?_
      refine lv_iconst (v := nI 2) hx hb dL_law_232 (by decide) ?_
      refine wt_iadd hx hb dL_law_233 ?_
      refine wt_sld hx hb hX hbl hbA hS (k := i + 2) (by omega) (by omega) (v := nI vv) e2 dL_law_234 ?_
      refine lv_aload_n hx hb dL_law_235 rfl (lv_at hl 0 rfl) ?_
      refine lv_iload_n hx hb dL_law_236 rfl (lv_at hl 3 rfl) ?_
      refine lv_iconst (v := nI 3) hx hb dL_law_237 (by decide) ?_
      refine wt_iadd hx hb dL_law_238 ?_
      refine wt_sld hx hb hX hbl hbA hS (k := i + 3) (by omega) (by omega) (v := nI ww) e3 dL_law_239 ?_
      refine wt_roi (va_runV (As := [.int (-1), .int (nI vv), .int (nI ww)]) (rest := []) ⟨hx, hb, hml, hown, ht⟩ (c_X_ungram_1 l dC dI cI cZ cL q ph pa ch en sz pr gc gb sc sh sl ct tok wt pn lt wp sd 0 (vv + 1) (ww + 1) (-1) (nI vv) (nI ww) hg wt_m1a (wt_p1 vv) (wt_p1 ww) (by omega) (by omega) (by omega) (gr_no (gr_all.mp hgr 2 0 vv ww (Or.inr (Or.inl ⟨rfl, hvv, hww⟩))) hkn)) (cwV 3 ht (good_V m_191 m_192 m_193 m_1 m_194) rfl rfl rfl (by decide +kernel) ⟨Nat.le_of_ble_eq_true rfl, Nat.le_of_ble_eq_true rfl⟩) (wt_preV hK hN (hP.sub [0, 1, 2, 3, 4, 5, 6, 7, 8, 9, 10, 11, 12, 13, 14, 15, 16, 17] rfl) (va_recv hK hP (ci := 0) (q0 := 0) rfl rfl)) rfl rfl hl.1 rfl (lv_room (Nat.le_of_ble_eq_true rfl)) dL_law_240 ⟨Nat.le_of_ble_eq_true rfl, Nat.le_of_ble_eq_true rfl⟩) ?_
      refine lv_aload_n hx hb dL_law_243 rfl (lv_at hl 2 rfl) ?_
      refine lv_aload_n hx hb dL_law_244 rfl (lv_at hl 0 rfl) ?_
      refine lv_iload_n hx hb dL_law_245 rfl (lv_at hl 3 rfl) ?_
      refine lv_iconst (v := nI 1) hx hb dL_law_246 (by decide) ?_
      refine wt_iadd hx hb dL_law_247 ?_
      refine wt_sld hx hb hX hbl hbA hS (k := i + 1) (by omega) (by omega) (v := (-1)) e1 dL_law_248 ?_
      refine lv_aload_n hx hb dL_law_249 rfl (lv_at hl 0 rfl) ?_
      refine lv_iload_n hx hb dL_law_250 rfl (lv_at hl 3 rfl) ?_
      refine lv_iconst (v := nI 2) hx hb dL_law_251 (by decide) ?_
      refine wt_iadd hx hb dL_law_252 ?_
      refine wt_sld hx hb hX hbl hbA hS (k := i + 2) (by omega) (by omega) (v := nI vv) e2 dL_law_253 ?_
      refine lv_aload_n hx hb dL_law_254 rfl (lv_at hl 0 rfl) ?_
      refine lv_iload_n hx hb dL_law_255 rfl (lv_at hl 3 rfl) ?_
      refine lv_iconst (v := nI 3) hx hb dL_law_256 (by decide) ?_
      refine wt_iadd hx hb dL_law_257 ?_
      refine wt_sld hx hb hX hbl hbA hS (k := i + 3) (by omega) (by omega) (v := nI ww) e3 dL_law_258 ?_
      refine wt_roi (va_runV (As := [.int (-1), .int (nI vv), .int (nI ww)]) (rest := [.int (nI 0)]) ⟨hx, hb, hml, hown, ht⟩ (c_M_ungram_n2 l dC dI cI cZ cL qm kn co bo pr wd zs fp sh sl ct sc ea dn cd nx nd nc al wo wh vv ww hvv hww hkn) (cwV 3 ht (good_V m_482 m_483 m_484 m_7 m_485) rfl rfl rfl (by decide +kernel) ⟨Nat.le_of_ble_eq_true rfl, Nat.le_of_ble_eq_true rfl⟩) (wt_preV hK hN (hP.sub [18, 19, 20, 21, 22, 23, 24, 25, 26, 27, 28, 29, 30, 31, 32, 33] rfl) (va_recv hK hP (ci := 5) (q0 := 18) rfl rfl)) rfl rfl hl.1 rfl (lv_room (Nat.le_of_ble_eq_true rfl)) dL_law_259 ⟨Nat.le_of_ble_eq_true rfl, Nat.le_of_ble_eq_true rfl⟩) ?_
      refine lv_icmp_eq (tgt := 553) hx hb dL_law_262 (by decide) (fun _ => ?_) (fun hne => absurd (rfl) hne)
      have hr9 : rel ph pa ch en sz gc gb sc sh sl ct kn co bo pr wd zs fp pg := hrel
      exact K H locs ls ⟨ph, pa, ch, en, sz, pr, gc, gb, sc, sh, sl, ct, tok, wt, pn, lt, wp, sd, kn, co, bo, wd, zs, fp, ea, dn, cd, nx, nd, nc, al, wo, wh, pg, hP, hD, hS, hr9, hca⟩ hl
    | true =>
      refine lv_aload_n hx hb dL_law_224 rfl (lv_at hl 1 rfl) ?_
      refine lv_aload_n hx hb dL_law_225 rfl (lv_at hl 0 rfl) ?_
      refine lv_iload_n hx hb dL_law_226 rfl (lv_at hl 3 rfl) ?_
      refine lv_iconst (v := nI 1) hx hb dL_law_227 (by decide) ?_
      refine wt_iadd hx hb dL_law_228 ?_
      refine wt_sld hx hb hX hbl hbA hS (k := i + 1) (by omega) (by omega) (v := (-1)) e1 dL_law_229 ?_
      refine lv_aload_n hx hb dL_law_230 rfl (lv_at hl 0 rfl) ?_
      refine lv_iload_n hx hb dL_law_231 rfl (lv_at hl 3 rfl) ?_
      refine lv_iconst (v := nI 2) hx hb dL_law_232 (by decide) ?_
      refine wt_iadd hx hb dL_law_233 ?_
      refine wt_sld hx hb hX hbl hbA hS (k := i + 2) (by omega) (by omega) (v := nI vv) e2 dL_law_234 ?_
      refine lv_aload_n hx hb dL_law_235 rfl (lv_at hl 0 rfl) ?_
      refine lv_iload_n hx hb dL_law_236 rfl (lv_at hl 3 rfl) ?_
      refine lv_iconst (v := nI 3) hx hb dL_law_237 (by decide) ?_
      refine wt_iadd hx hb dL_law_238 ?_
      refine wt_sld hx hb hX hbl hbA hS (k := i + 3) (by omega) (by omega) (v := nI ww) e3 dL_law_239 ?_
      refine wt_cuti (wc := (wX cI cZ cL q ph pa ch en sz pr gc gb sc sh sl ct tok wt pn lt wp sd)) (w1 := (wX cI cZ cL q ph pa ch en sz pr (upd gc (wt_sl 0 (vv + 1) (ww + 1)) (-1)) (upd gb (wt_sl 0 (vv + 1) (ww + 1)) (nI 0)) sc sh sl ct tok wt pn lt wp false)) (wr := (wM cI cZ cL qm kn co bo pr wd zs fp sh sl ct sc ea dn cd nx nd nc al wo wh)) (w2 := (wX cI cZ cL q ph pa ch en sz pr (upd gc (wt_sl 0 (vv + 1) (ww + 1)) (-1)) (upd gb (wt_sl 0 (vv + 1) (ww + 1)) (nI 0)) sc sh sl ct tok wt pn lt wp false) ++ (wM cI cZ cL qm kn co bo pr wd zs fp sh sl ct sc ea dn cd nx nd nc al wo wh)) (va_runV (As := [.int (-1), .int (nI vv), .int (nI ww)]) (rest := []) ⟨hx, hb, hml, hown, ht⟩ (c_X_ungram_2 l dC dI cI cZ cL q H.size ph pa ch en sz pr gc gb sc sh sl ct tok wt pn lt wp sd 0 (vv + 1) (ww + 1) (-1) (nI vv) (nI ww) hg wt_m1a (wt_p1 vv) (wt_p1 ww) (by omega) (by omega) (by omega) (gr_yes (gr_all.mp hgr 2 0 vv ww (Or.inr (Or.inl ⟨rfl, hvv, hww⟩))) hkn)) (cwV 3 ht (good_V m_191 m_192 m_193 m_1 m_194) rfl rfl rfl (by decide +kernel) ⟨Nat.le_of_ble_eq_true rfl, Nat.le_of_ble_eq_true rfl⟩) (wt_preVw hK hN (hP.sub [0, 1, 2, 3, 4, 5, 6, 7, 8, 9, 10, 11, 12, 13, 14, 15, 16, 17] rfl) (hD.sub [0, 1, 2, 3, 4, 5, 6, 7, 8, 9, 10, 11, 12, 13, 14, 15, 16, 17] (by decide) rfl) (va_recv hK hP (ci := 0) (q0 := 0) rfl rfl)) rfl rfl hl.1 rfl (lv_room (Nat.le_of_ble_eq_true rfl)) dL_law_240 ⟨Nat.le_of_ble_eq_true rfl, Nat.le_of_ble_eq_true rfl⟩) hP hD hS hA [0, 1, 2, 3, 4, 5, 6, 7, 8, 9, 10, 11, 12, 13, 14, 15, 16, 17] [18, 19, 20, 21, 22, 23, 24, 25, 26, 27, 28, 29, 30, 31, 32, 33] rfl rfl (by decide) (by decide) [16, 17, 18, 19, 20, 21, 22, 23, 24, 25, 26, 27, 28, 29, 30, 31, 32, 33, 0, 1, 2, 3, 4, 5, 6, 7, 8, 9, 10, 11, 12, 13, 14, 15] (by decide) rfl (fun H locs hP hD hS => ?_)
      refine W.widen (k := 34) (n := 14336) (Nat.le_of_ble_eq_true rfl) (Nat.le_of_ble_eq_true rfl) ?_
      refine lv_aload_n hx hb dL_law_243 rfl (lv_at hl 2 rfl) ?_
      refine lv_aload_n hx hb dL_law_244 rfl (lv_at hl 0 rfl) ?_
      refine lv_iload_n hx hb dL_law_245 rfl (lv_at hl 3 rfl) ?_
      refine lv_iconst (v := nI 1) hx hb dL_law_246 (by decide) ?_
      refine wt_iadd hx hb dL_law_247 ?_
      refine wt_sld hx hb hX hbl hbA hS (k := i + 1) (by omega) (by omega) (v := (-1)) e1 dL_law_248 ?_
      refine lv_aload_n hx hb dL_law_249 rfl (lv_at hl 0 rfl) ?_
      refine lv_iload_n hx hb dL_law_250 rfl (lv_at hl 3 rfl) ?_
      refine lv_iconst (v := nI 2) hx hb dL_law_251 (by decide) ?_
      refine wt_iadd hx hb dL_law_252 ?_
      refine wt_sld hx hb hX hbl hbA hS (k := i + 2) (by omega) (by omega) (v := nI vv) e2 dL_law_253 ?_
      refine lv_aload_n hx hb dL_law_254 rfl (lv_at hl 0 rfl) ?_
      refine lv_iload_n hx hb dL_law_255 rfl (lv_at hl 3 rfl) ?_
      refine lv_iconst (v := nI 3) hx hb dL_law_256 (by decide) ?_
      refine wt_iadd hx hb dL_law_257 ?_
      refine wt_sld hx hb hX hbl hbA hS (k := i + 3) (by omega) (by omega) (v := nI ww) e3 dL_law_258 ?_
      refine wt_cuti (wc := (wM cI cZ cL qm kn co bo pr wd zs fp sh sl ct sc ea dn cd nx nd nc al wo wh)) (w1 := (wM cI cZ cL qm (va_up kn (5 + 5 * vv + ww) false) co bo pr wd zs fp sh sl ct sc ea dn cd nx nd nc al wo wh)) (wr := (wX cI cZ cL q ph pa ch en sz pr (upd gc (wt_sl 0 (vv + 1) (ww + 1)) (-1)) (upd gb (wt_sl 0 (vv + 1) (ww + 1)) (nI 0)) sc sh sl ct tok wt pn lt wp false)) (w2 := (wX cI cZ cL q ph pa ch en sz pr (upd gc (wt_sl 0 (vv + 1) (ww + 1)) (-1)) (upd gb (wt_sl 0 (vv + 1) (ww + 1)) (nI 0)) sc sh sl ct tok wt pn lt wp false) ++ (wM cI cZ cL qm (va_up kn (5 + 5 * vv + ww) false) co bo pr wd zs fp sh sl ct sc ea dn cd nx nd nc al wo wh)) (va_runV (As := [.int (-1), .int (nI vv), .int (nI ww)]) (rest := [.int (nI 1)]) ⟨hx, hb, hml, hown, ht⟩ (c_M_ungram_a2 l dC dI cI cZ cL qm H.size kn co bo pr wd zs fp sh sl ct sc ea dn cd nx nd nc al wo wh vv ww hvv hww hkn) (cwV 3 ht (good_V m_482 m_483 m_484 m_7 m_485) rfl rfl rfl (by decide +kernel) ⟨Nat.le_of_ble_eq_true rfl, Nat.le_of_ble_eq_true rfl⟩) (wt_preVw hK hN (hP.sub [18, 19, 20, 21, 22, 23, 24, 25, 26, 27, 28, 29, 30, 31, 32, 33] rfl) (hD.sub [18, 19, 20, 21, 22, 23, 24, 25, 26, 27, 28, 29, 30, 31, 32, 33] (by decide) rfl) (va_recv hK hP (ci := 5) (q0 := 18) rfl rfl)) rfl rfl hl.1 rfl (lv_room (Nat.le_of_ble_eq_true rfl)) dL_law_259 ⟨Nat.le_of_ble_eq_true rfl, Nat.le_of_ble_eq_true rfl⟩) hP hD hS hA [18, 19, 20, 21, 22, 23, 24, 25, 26, 27, 28, 29, 30, 31, 32, 33] [0, 1, 2, 3, 4, 5, 6, 7, 8, 9, 10, 11, 12, 13, 14, 15, 16, 17] rfl rfl (by decide) (by decide) [0, 1, 2, 3, 4, 5, 6, 7, 8, 9, 10, 11, 12, 13, 14, 15, 16, 17, 18, 19, 20, 21, 22, 23, 24, 25, 26, 27, 28, 29, 30, 31, 32, 33] (by decide) rfl (fun H locs hP hD hS => ?_)
      refine W.widen (k := 34) (n := 14336) (Nat.le_of_ble_eq_true rfl) (Nat.le_of_ble_eq_true rfl) ?_
      refine lv_icmp_eq (tgt := 553) hx hb dL_law_262 (by decide) (fun _ => ?_) (fun hne => absurd (rfl) hne)
      have hr9 : rel ph pa ch en sz (upd gc (wt_sl 0 (vv + 1) (ww + 1)) (-1)) (upd gb (wt_sl 0 (vv + 1) (ww + 1)) (nI 0)) sc sh sl ct (va_up kn (5 + 5 * vv + ww) false) co bo pr wd zs fp pg := rel_gr hrel (gr_del (f := 2) (u := 0) (v := vv) (w := ww) hgr (Or.inr (Or.inl ⟨rfl, hvv, hww⟩)))
      exact K H locs ls ⟨ph, pa, ch, en, sz, pr, (upd gc (wt_sl 0 (vv + 1) (ww + 1)) (-1)), (upd gb (wt_sl 0 (vv + 1) (ww + 1)) (nI 0)), sc, sh, sl, ct, tok, wt, pn, lt, wp, false, (va_up kn (5 + 5 * vv + ww) false), co, bo, wd, zs, fp, ea, dn, cd, nx, nd, nc, al, wo, wh, pg, hP, hD, hS, hr9, (fun z => absurd z (by decide))⟩ hl
  · skip
    rw [e1, e2, e3] at hg
    cases hkn : kn (30 + 25 * uu + 5 * vv + ww) with
    | false =>
      refine lv_aload_n hx hb dL_law_224 rfl (lv_at hl 1 rfl) ?_
      refine lv_aload_n hx hb dL_law_225 rfl (lv_at hl 0 rfl) ?_
      refine lv_iload_n hx hb dL_law_226 rfl (lv_at hl 3 rfl) ?_
      refine lv_iconst (v := nI 1) hx hb dL_law_227 (by decide) ?_
      refine wt_iadd hx hb dL_law_228 ?_
      refine wt_sld hx hb hX hbl hbA hS (k := i + 1) (by omega) (by omega) (v := nI uu) e1 dL_law_229 ?_
      refine lv_aload_n hx hb dL_law_230 rfl (lv_at hl 0 rfl) ?_
      refine lv_iload_n hx hb dL_law_231 rfl (lv_at hl 3 rfl) ?_
      refine lv_iconst (v := nI 2) hx hb dL_law_232 (by decide) ?_
      refine wt_iadd hx hb dL_law_233 ?_
      refine wt_sld hx hb hX hbl hbA hS (k := i + 2) (by omega) (by omega) (v := nI vv) e2 dL_law_234 ?_
      refine lv_aload_n hx hb dL_law_235 rfl (lv_at hl 0 rfl) ?_
      refine lv_iload_n hx hb dL_law_236 rfl (lv_at hl 3 rfl) ?_
      refine lv_iconst (v := nI 3) hx hb dL_law_237 (by decide) ?_
      refine wt_iadd hx hb dL_law_238 ?_
      refine wt_sld hx hb hX hbl hbA hS (k := i + 3) (by omega) (by omega) (v := nI ww) e3 dL_law_239 ?_
      refine wt_roi (va_runV (As := [.int (nI uu), .int (nI vv), .int (nI ww)]) (rest := []) ⟨hx, hb, hml, hown, ht⟩ (c_X_ungram_1 l dC dI cI cZ cL q ph pa ch en sz pr gc gb sc sh sl ct tok wt pn lt wp sd (uu + 1) (vv + 1) (ww + 1) (nI uu) (nI vv) (nI ww) hg (wt_p1 uu) (wt_p1 vv) (wt_p1 ww) (by omega) (by omega) (by omega) (gr_no (gr_all.mp hgr 3 uu vv ww (Or.inr (Or.inr ⟨rfl, huu, hvv, hww⟩))) hkn)) (cwV 3 ht (good_V m_191 m_192 m_193 m_1 m_194) rfl rfl rfl (by decide +kernel) ⟨Nat.le_of_ble_eq_true rfl, Nat.le_of_ble_eq_true rfl⟩) (wt_preV hK hN (hP.sub [0, 1, 2, 3, 4, 5, 6, 7, 8, 9, 10, 11, 12, 13, 14, 15, 16, 17] rfl) (va_recv hK hP (ci := 0) (q0 := 0) rfl rfl)) rfl rfl hl.1 rfl (lv_room (Nat.le_of_ble_eq_true rfl)) dL_law_240 ⟨Nat.le_of_ble_eq_true rfl, Nat.le_of_ble_eq_true rfl⟩) ?_
      refine lv_aload_n hx hb dL_law_243 rfl (lv_at hl 2 rfl) ?_
      refine lv_aload_n hx hb dL_law_244 rfl (lv_at hl 0 rfl) ?_
      refine lv_iload_n hx hb dL_law_245 rfl (lv_at hl 3 rfl) ?_
      refine lv_iconst (v := nI 1) hx hb dL_law_246 (by decide) ?_
      refine wt_iadd hx hb dL_law_247 ?_
      refine wt_sld hx hb hX hbl hbA hS (k := i + 1) (by omega) (by omega) (v := nI uu) e1 dL_law_248 ?_
      refine lv_aload_n hx hb dL_law_249 rfl (lv_at hl 0 rfl) ?_
      refine lv_iload_n hx hb dL_law_250 rfl (lv_at hl 3 rfl) ?_
      refine lv_iconst (v := nI 2) hx hb dL_law_251 (by decide) ?_
      refine wt_iadd hx hb dL_law_252 ?_
      refine wt_sld hx hb hX hbl hbA hS (k := i + 2) (by omega) (by omega) (v := nI vv) e2 dL_law_253 ?_
      refine lv_aload_n hx hb dL_law_254 rfl (lv_at hl 0 rfl) ?_
      refine lv_iload_n hx hb dL_law_255 rfl (lv_at hl 3 rfl) ?_
      refine lv_iconst (v := nI 3) hx hb dL_law_256 (by decide) ?_
      refine wt_iadd hx hb dL_law_257 ?_
      refine wt_sld hx hb hX hbl hbA hS (k := i + 3) (by omega) (by omega) (v := nI ww) e3 dL_law_258 ?_
      refine wt_roi (va_runV (As := [.int (nI uu), .int (nI vv), .int (nI ww)]) (rest := [.int (nI 0)]) ⟨hx, hb, hml, hown, ht⟩ (c_M_ungram_n3 l dC dI cI cZ cL qm kn co bo pr wd zs fp sh sl ct sc ea dn cd nx nd nc al wo wh uu vv ww huu hvv hww hkn) (cwV 3 ht (good_V m_482 m_483 m_484 m_7 m_485) rfl rfl rfl (by decide +kernel) ⟨Nat.le_of_ble_eq_true rfl, Nat.le_of_ble_eq_true rfl⟩) (wt_preV hK hN (hP.sub [18, 19, 20, 21, 22, 23, 24, 25, 26, 27, 28, 29, 30, 31, 32, 33] rfl) (va_recv hK hP (ci := 5) (q0 := 18) rfl rfl)) rfl rfl hl.1 rfl (lv_room (Nat.le_of_ble_eq_true rfl)) dL_law_259 ⟨Nat.le_of_ble_eq_true rfl, Nat.le_of_ble_eq_true rfl⟩) ?_
      refine lv_icmp_eq (tgt := 553) hx hb dL_law_262 (by decide) (fun _ => ?_) (fun hne => absurd (rfl) hne)
      have hr9 : rel ph pa ch en sz gc gb sc sh sl ct kn co bo pr wd zs fp pg := hrel
      exact K H locs ls ⟨ph, pa, ch, en, sz, pr, gc, gb, sc, sh, sl, ct, tok, wt, pn, lt, wp, sd, kn, co, bo, wd, zs, fp, ea, dn, cd, nx, nd, nc, al, wo, wh, pg, hP, hD, hS, hr9, hca⟩ hl
    | true =>
      refine lv_aload_n hx hb dL_law_224 rfl (lv_at hl 1 rfl) ?_
      refine lv_aload_n hx hb dL_law_225 rfl (lv_at hl 0 rfl) ?_
      refine lv_iload_n hx hb dL_law_226 rfl (lv_at hl 3 rfl) ?_
      refine lv_iconst (v := nI 1) hx hb dL_law_227 (by decide) ?_
      refine wt_iadd hx hb dL_law_228 ?_
      refine wt_sld hx hb hX hbl hbA hS (k := i + 1) (by omega) (by omega) (v := nI uu) e1 dL_law_229 ?_
      refine lv_aload_n hx hb dL_law_230 rfl (lv_at hl 0 rfl) ?_
      refine lv_iload_n hx hb dL_law_231 rfl (lv_at hl 3 rfl) ?_
      refine lv_iconst (v := nI 2) hx hb dL_law_232 (by decide) ?_
      refine wt_iadd hx hb dL_law_233 ?_
      refine wt_sld hx hb hX hbl hbA hS (k := i + 2) (by omega) (by omega) (v := nI vv) e2 dL_law_234 ?_
      refine lv_aload_n hx hb dL_law_235 rfl (lv_at hl 0 rfl) ?_
      refine lv_iload_n hx hb dL_law_236 rfl (lv_at hl 3 rfl) ?_
      refine lv_iconst (v := nI 3) hx hb dL_law_237 (by decide) ?_
      refine wt_iadd hx hb dL_law_238 ?_
      refine wt_sld hx hb hX hbl hbA hS (k := i + 3) (by omega) (by omega) (v := nI ww) e3 dL_law_239 ?_
      refine wt_cuti (wc := (wX cI cZ cL q ph pa ch en sz pr gc gb sc sh sl ct tok wt pn lt wp sd)) (w1 := (wX cI cZ cL q ph pa ch en sz pr (upd gc (wt_sl (uu + 1) (vv + 1) (ww + 1)) (-1)) (upd gb (wt_sl (uu + 1) (vv + 1) (ww + 1)) (nI 0)) sc sh sl ct tok wt pn lt wp false)) (wr := (wM cI cZ cL qm kn co bo pr wd zs fp sh sl ct sc ea dn cd nx nd nc al wo wh)) (w2 := (wX cI cZ cL q ph pa ch en sz pr (upd gc (wt_sl (uu + 1) (vv + 1) (ww + 1)) (-1)) (upd gb (wt_sl (uu + 1) (vv + 1) (ww + 1)) (nI 0)) sc sh sl ct tok wt pn lt wp false) ++ (wM cI cZ cL qm kn co bo pr wd zs fp sh sl ct sc ea dn cd nx nd nc al wo wh)) (va_runV (As := [.int (nI uu), .int (nI vv), .int (nI ww)]) (rest := []) ⟨hx, hb, hml, hown, ht⟩ (c_X_ungram_2 l dC dI cI cZ cL q H.size ph pa ch en sz pr gc gb sc sh sl ct tok wt pn lt wp sd (uu + 1) (vv + 1) (ww + 1) (nI uu) (nI vv) (nI ww) hg (wt_p1 uu) (wt_p1 vv) (wt_p1 ww) (by omega) (by omega) (by omega) (gr_yes (gr_all.mp hgr 3 uu vv ww (Or.inr (Or.inr ⟨rfl, huu, hvv, hww⟩))) hkn)) (cwV 3 ht (good_V m_191 m_192 m_193 m_1 m_194) rfl rfl rfl (by decide +kernel) ⟨Nat.le_of_ble_eq_true rfl, Nat.le_of_ble_eq_true rfl⟩) (wt_preVw hK hN (hP.sub [0, 1, 2, 3, 4, 5, 6, 7, 8, 9, 10, 11, 12, 13, 14, 15, 16, 17] rfl) (hD.sub [0, 1, 2, 3, 4, 5, 6, 7, 8, 9, 10, 11, 12, 13, 14, 15, 16, 17] (by decide) rfl) (va_recv hK hP (ci := 0) (q0 := 0) rfl rfl)) rfl rfl hl.1 rfl (lv_room (Nat.le_of_ble_eq_true rfl)) dL_law_240 ⟨Nat.le_of_ble_eq_true rfl, Nat.le_of_ble_eq_true rfl⟩) hP hD hS hA [0, 1, 2, 3, 4, 5, 6, 7, 8, 9, 10, 11, 12, 13, 14, 15, 16, 17] [18, 19, 20, 21, 22, 23, 24, 25, 26, 27, 28, 29, 30, 31, 32, 33] rfl rfl (by decide) (by decide) [16, 17, 18, 19, 20, 21, 22, 23, 24, 25, 26, 27, 28, 29, 30, 31, 32, 33, 0, 1, 2, 3, 4, 5, 6, 7, 8, 9, 10, 11, 12, 13, 14, 15] (by decide) rfl (fun H locs hP hD hS => ?_)
      refine W.widen (k := 34) (n := 14336) (Nat.le_of_ble_eq_true rfl) (Nat.le_of_ble_eq_true rfl) ?_
      refine lv_aload_n hx hb dL_law_243 rfl (lv_at hl 2 rfl) ?_
      refine lv_aload_n hx hb dL_law_244 rfl (lv_at hl 0 rfl) ?_
      refine lv_iload_n hx hb dL_law_245 rfl (lv_at hl 3 rfl) ?_
      refine lv_iconst (v := nI 1) hx hb dL_law_246 (by decide) ?_
      refine wt_iadd hx hb dL_law_247 ?_
      refine wt_sld hx hb hX hbl hbA hS (k := i + 1) (by omega) (by omega) (v := nI uu) e1 dL_law_248 ?_
      refine lv_aload_n hx hb dL_law_249 rfl (lv_at hl 0 rfl) ?_
      refine lv_iload_n hx hb dL_law_250 rfl (lv_at hl 3 rfl) ?_
      refine lv_iconst (v := nI 2) hx hb dL_law_251 (by decide) ?_
      refine wt_iadd hx hb dL_law_252 ?_
      refine wt_sld hx hb hX hbl hbA hS (k := i + 2) (by omega) (by omega) (v := nI vv) e2 dL_law_253 ?_
      refine lv_aload_n hx hb dL_law_254 rfl (lv_at hl 0 rfl) ?_
      refine lv_iload_n hx hb dL_law_255 rfl (lv_at hl 3 rfl) ?_
      refine lv_iconst (v := nI 3) hx hb dL_law_256 (by decide) ?_
      refine wt_iadd hx hb dL_law_257 ?_
      refine wt_sld hx hb hX hbl hbA hS (k := i + 3) (by omega) (by omega) (v := nI ww) e3 dL_law_258 ?_
      refine wt_cuti (wc := (wM cI cZ cL qm kn co bo pr wd zs fp sh sl ct sc ea dn cd nx nd nc al wo wh)) (w1 := (wM cI cZ cL qm (va_up kn (30 + 25 * uu + 5 * vv + ww) false) co bo pr wd zs fp sh sl ct sc ea dn cd nx nd nc al wo wh)) (wr := (wX cI cZ cL q ph pa ch en sz pr (upd gc (wt_sl (uu + 1) (vv + 1) (ww + 1)) (-1)) (upd gb (wt_sl (uu + 1) (vv + 1) (ww + 1)) (nI 0)) sc sh sl ct tok wt pn lt wp false)) (w2 := (wX cI cZ cL q ph pa ch en sz pr (upd gc (wt_sl (uu + 1) (vv + 1) (ww + 1)) (-1)) (upd gb (wt_sl (uu + 1) (vv + 1) (ww + 1)) (nI 0)) sc sh sl ct tok wt pn lt wp false) ++ (wM cI cZ cL qm (va_up kn (30 + 25 * uu + 5 * vv + ww) false) co bo pr wd zs fp sh sl ct sc ea dn cd nx nd nc al wo wh)) (va_runV (As := [.int (nI uu), .int (nI vv), .int (nI ww)]) (rest := [.int (nI 1)]) ⟨hx, hb, hml, hown, ht⟩ (c_M_ungram_a3 l dC dI cI cZ cL qm H.size kn co bo pr wd zs fp sh sl ct sc ea dn cd nx nd nc al wo wh uu vv ww huu hvv hww hkn) (cwV 3 ht (good_V m_482 m_483 m_484 m_7 m_485) rfl rfl rfl (by decide +kernel) ⟨Nat.le_of_ble_eq_true rfl, Nat.le_of_ble_eq_true rfl⟩) (wt_preVw hK hN (hP.sub [18, 19, 20, 21, 22, 23, 24, 25, 26, 27, 28, 29, 30, 31, 32, 33] rfl) (hD.sub [18, 19, 20, 21, 22, 23, 24, 25, 26, 27, 28, 29, 30, 31, 32, 33] (by decide) rfl) (va_recv hK hP (ci := 5) (q0 := 18) rfl rfl)) rfl rfl hl.1 rfl (lv_room (Nat.le_of_ble_eq_true rfl)) dL_law_259 ⟨Nat.le_of_ble_eq_true rfl, Nat.le_of_ble_eq_true rfl⟩) hP hD hS hA [18, 19, 20, 21, 22, 23, 24, 25, 26, 27, 28, 29, 30, 31, 32, 33] [0, 1, 2, 3, 4, 5, 6, 7, 8, 9, 10, 11, 12, 13, 14, 15, 16, 17] rfl rfl (by decide) (by decide) [0, 1, 2, 3, 4, 5, 6, 7, 8, 9, 10, 11, 12, 13, 14, 15, 16, 17, 18, 19, 20, 21, 22, 23, 24, 25, 26, 27, 28, 29, 30, 31, 32, 33] (by decide) rfl (fun H locs hP hD hS => ?_)
      refine W.widen (k := 34) (n := 14336) (Nat.le_of_ble_eq_true rfl) (Nat.le_of_ble_eq_true rfl) ?_
      refine lv_icmp_eq (tgt := 553) hx hb dL_law_262 (by decide) (fun _ => ?_) (fun hne => absurd (rfl) hne)
      have hr9 : rel ph pa ch en sz (upd gc (wt_sl (uu + 1) (vv + 1) (ww + 1)) (-1)) (upd gb (wt_sl (uu + 1) (vv + 1) (ww + 1)) (nI 0)) sc sh sl ct (va_up kn (30 + 25 * uu + 5 * vv + ww) false) co bo pr wd zs fp pg := rel_gr hrel (gr_del (f := 3) (u := uu) (v := vv) (w := ww) hgr (Or.inr (Or.inr ⟨rfl, huu, hvv, hww⟩)))
      exact K H locs ls ⟨ph, pa, ch, en, sz, pr, (upd gc (wt_sl (uu + 1) (vv + 1) (ww + 1)) (-1)), (upd gb (wt_sl (uu + 1) (vv + 1) (ww + 1)) (nI 0)), sc, sh, sl, ct, tok, wt, pn, lt, wp, false, (va_up kn (30 + 25 * uu + 5 * vv + ww) false), co, bo, wd, zs, fp, ea, dn, cd, nx, nd, nc, al, wo, wh, pg, hP, hD, hS, hr9, (fun z => absurd z (by decide))⟩ hl

set_option maxHeartbeats 4000000 in
set_option maxRecDepth 100000 in
theorem law_after {p : Program} {l : Launch} {e : Env} {s : State} {m : MethodId} {below : List Frame} {meth : Method} {c : Code} {dC : Nat → ClassId} {dI : Nat → Nat → Nat} {cI cZ cL : ClassId} {b L : Nat} {xs : Nat → Int32} {q qm : Nat → Nat} (hL : L ≤ 3072) (C0 : lw_At p s m meth c b L xs) (hK : va_K (dC, dI) vwCl [(cI, .int), (cZ, .boolean), (cL, .long)] s) (hN : wt_nest s) {i : Nat} (hi : i + 6 ≤ L) (K : ∀ (H : Heap) (locs : List Loc) (ls : Array Slot), wtInv s dC dI cI cZ cL q qm H locs → lv_has ls 4 [(0, .ref b), (1, .ref (q 0)), (2, .ref (qm 0)), (3, .int (nI i))] → W p l e room_1 s m #[Value.ref b] below meth c H locs 34 14336 (lw_Z below #[Value.ref b] s) (F0 m 553 ls [])) : ∀ (H : Heap) (locs : List Loc) (ls : Array Slot), wtInv s dC dI cI cZ cL q qm H locs → lv_has ls 4 [(0, .ref b), (1, .ref (q 0)), (2, .ref (qm 0)), (3, .int (nI i))] → W p l e room_1 s m #[Value.ref b] below meth c H locs 34 14336 (lw_Z below #[Value.ref b] s) (F0 m 267 ls []) := by
  obtain ⟨hx, hb, hr, hml, hown0, hts, hX, hbl, hlocks, hgv⟩ := id C0
  have hown : s.vm.findClass RL = some m.cls := hown0
  have ht : ∀ w ∈ tb, w.before _ s = true := fun w h => hts w (tb_in w h)
  have hA : ∀ a : Nat, s.heap.size ≤ a → (fun a : Nat => s.heap.size ≤ a) a := fun _ h => h
  have hbA : ¬ (fun a : Nat => s.heap.size ≤ a) b := Nat.not_le.mpr hbl
  intro H locs ls hv hl
  obtain ⟨ph, pa, ch, en, sz, pr, gc, gb, sc, sh, sl, ct, tok, wt, pn, lt, wp, sd, kn, co, bo, wd, zs, fp, ea, dn, cd, nx, nd, nc, al, wo, wh, pg, hP, hD, hS, hrel, hca⟩ := hv
  have hrel' := hrel
  obtain ⟨⟨hm8, hzw, htr, hsz24, hen, hgr, hscr, hshr, hslr⟩, hct, hs3, hts0, hzs, hwd, hph, hpa, hch, hfp, hen0⟩ := hrel'
  have hz1 : ∀ k, k < pr → 1 ≤ zs k := fun k hk => (hzw k hk).1
  rcases after_forms (xs (i + 1)) (xs (i + 2)) (xs (i + 3)) with hbad | ⟨uu, vv, ww, huu, hvv, hww, hvu, e1, e2, e3⟩
  · skip
    refine lv_aload_n hx hb dL_law_267 rfl (lv_at hl 1 rfl) ?_
    refine lv_aload_n hx hb dL_law_268 rfl (lv_at hl 0 rfl) ?_
    refine lv_iload_n hx hb dL_law_269 rfl (lv_at hl 3 rfl) ?_
    refine lv_iconst (v := nI 1) hx hb dL_law_270 (by decide) ?_
    refine wt_iadd hx hb dL_law_271 ?_
    refine wt_sld hx hb hX hbl hbA hS (k := i + 1) (by omega) (by omega) (v := xs (i + 1)) rfl dL_law_272 ?_
    refine lv_aload_n hx hb dL_law_273 rfl (lv_at hl 0 rfl) ?_
    refine lv_iload_n hx hb dL_law_274 rfl (lv_at hl 3 rfl) ?_
    refine lv_iconst (v := nI 2) hx hb dL_law_275 (by decide) ?_
    refine wt_iadd hx hb dL_law_276 ?_
    refine wt_sld hx hb hX hbl hbA hS (k := i + 2) (by omega) (by omega) (v := xs (i + 2)) rfl dL_law_277 ?_
    refine lv_aload_n hx hb dL_law_278 rfl (lv_at hl 0 rfl) ?_
    refine lv_iload_n hx hb dL_law_279 rfl (lv_at hl 3 rfl) ?_
    refine lv_iconst (v := nI 3) hx hb dL_law_280 (by decide) ?_
    refine wt_iadd hx hb dL_law_281 ?_
    refine wt_sld hx hb hX hbl hbA hS (k := i + 3) (by omega) (by omega) (v := xs (i + 3)) rfl dL_law_282 ?_
    refine wt_roi (va_runV (As := [.int (xs (i + 1)), .int (xs (i + 2)), .int (xs (i + 3))]) (rest := []) ⟨hx, hb, hml, hown, ht⟩ (c_X_after_0 l dC dI cI cZ cL q ph pa ch en sz pr gc gb sc sh sl ct tok wt pn lt wp sd (xs (i + 1)) (xs (i + 2)) (xs (i + 3)) hbad) (cwV 3 ht (good_V m_203 m_204 m_205 m_1 m_206) rfl rfl rfl (by decide +kernel) ⟨Nat.le_of_ble_eq_true rfl, Nat.le_of_ble_eq_true rfl⟩) (wt_preV hK hN (hP.sub [0, 1, 2, 3, 4, 5, 6, 7, 8, 9, 10, 11, 12, 13, 14, 15, 16, 17] rfl) (va_recv hK hP (ci := 0) (q0 := 0) rfl rfl)) rfl rfl hl.1 rfl (lv_room (Nat.le_of_ble_eq_true rfl)) dL_law_283 ⟨Nat.le_of_ble_eq_true rfl, Nat.le_of_ble_eq_true rfl⟩) ?_
    refine lv_aload_n hx hb dL_law_286 rfl (lv_at hl 2 rfl) ?_
    refine lv_aload_n hx hb dL_law_287 rfl (lv_at hl 0 rfl) ?_
    refine lv_iload_n hx hb dL_law_288 rfl (lv_at hl 3 rfl) ?_
    refine lv_iconst (v := nI 1) hx hb dL_law_289 (by decide) ?_
    refine wt_iadd hx hb dL_law_290 ?_
    refine wt_sld hx hb hX hbl hbA hS (k := i + 1) (by omega) (by omega) (v := xs (i + 1)) rfl dL_law_291 ?_
    refine lv_aload_n hx hb dL_law_292 rfl (lv_at hl 0 rfl) ?_
    refine lv_iload_n hx hb dL_law_293 rfl (lv_at hl 3 rfl) ?_
    refine lv_iconst (v := nI 2) hx hb dL_law_294 (by decide) ?_
    refine wt_iadd hx hb dL_law_295 ?_
    refine wt_sld hx hb hX hbl hbA hS (k := i + 2) (by omega) (by omega) (v := xs (i + 2)) rfl dL_law_296 ?_
    refine lv_aload_n hx hb dL_law_297 rfl (lv_at hl 0 rfl) ?_
    refine lv_iload_n hx hb dL_law_298 rfl (lv_at hl 3 rfl) ?_
    refine lv_iconst (v := nI 3) hx hb dL_law_299 (by decide) ?_
    refine wt_iadd hx hb dL_law_300 ?_
    refine wt_sld hx hb hX hbl hbA hS (k := i + 3) (by omega) (by omega) (v := xs (i + 3)) rfl dL_law_301 ?_
    refine wt_roi (va_runV (As := [.int (xs (i + 1)), .int (xs (i + 2)), .int (xs (i + 3))]) (rest := [.int (-1)]) ⟨hx, hb, hml, hown, ht⟩ (c_M_after_0 l dC dI cI cZ cL qm kn co bo pr wd zs fp sh sl ct sc ea dn cd nx nd nc al wo wh (xs (i + 1)) (xs (i + 2)) (xs (i + 3)) hbad) (cwV 3 ht (good_V m_486 m_487 m_488 m_7 m_489) rfl rfl rfl (by decide +kernel) ⟨Nat.le_of_ble_eq_true rfl, Nat.le_of_ble_eq_true rfl⟩) (wt_preV hK hN (hP.sub [18, 19, 20, 21, 22, 23, 24, 25, 26, 27, 28, 29, 30, 31, 32, 33] rfl) (va_recv hK hP (ci := 5) (q0 := 18) rfl rfl)) rfl rfl hl.1 rfl (lv_room (Nat.le_of_ble_eq_true rfl)) dL_law_302 ⟨Nat.le_of_ble_eq_true rfl, Nat.le_of_ble_eq_true rfl⟩) ?_
    refine lv_icmp_eq (tgt := 553) hx hb dL_law_305 (by decide) (fun _ => ?_) (fun hne => absurd (rfl) hne)
    have hr9 : rel ph pa ch en sz gc gb sc sh sl ct kn co bo pr wd zs fp pg := hrel
    exact K H locs ls ⟨ph, pa, ch, en, sz, pr, gc, gb, sc, sh, sl, ct, tok, wt, pn, lt, wp, sd, kn, co, bo, wd, zs, fp, ea, dn, cd, nx, nd, nc, al, wo, wh, pg, hP, hD, hS, hr9, hca⟩ hl
  · skip
    refine lv_aload_n hx hb dL_law_267 rfl (lv_at hl 1 rfl) ?_
    refine lv_aload_n hx hb dL_law_268 rfl (lv_at hl 0 rfl) ?_
    refine lv_iload_n hx hb dL_law_269 rfl (lv_at hl 3 rfl) ?_
    refine lv_iconst (v := nI 1) hx hb dL_law_270 (by decide) ?_
    refine wt_iadd hx hb dL_law_271 ?_
    refine wt_sld hx hb hX hbl hbA hS (k := i + 1) (by omega) (by omega) (v := nI uu) e1 dL_law_272 ?_
    refine lv_aload_n hx hb dL_law_273 rfl (lv_at hl 0 rfl) ?_
    refine lv_iload_n hx hb dL_law_274 rfl (lv_at hl 3 rfl) ?_
    refine lv_iconst (v := nI 2) hx hb dL_law_275 (by decide) ?_
    refine wt_iadd hx hb dL_law_276 ?_
    refine wt_sld hx hb hX hbl hbA hS (k := i + 2) (by omega) (by omega) (v := nI vv) e2 dL_law_277 ?_
    refine lv_aload_n hx hb dL_law_278 rfl (lv_at hl 0 rfl) ?_
    refine lv_iload_n hx hb dL_law_279 rfl (lv_at hl 3 rfl) ?_
    refine lv_iconst (v := nI 3) hx hb dL_law_280 (by decide) ?_
    refine wt_iadd hx hb dL_law_281 ?_
    refine wt_sld hx hb hX hbl hbA hS (k := i + 3) (by omega) (by omega) (v := nI ww) e3 dL_law_282 ?_
    refine wt_roi (va_runV (As := [.int (nI uu), .int (nI vv), .int (nI ww)]) (rest := []) ⟨hx, hb, hml, hown, ht⟩ (c_X_after_1 l dC dI cI cZ cL q ph pa ch en sz pr gc gb sc sh sl ct tok wt pn lt wp sd uu vv ww huu hvv hww hvu) (cwV 3 ht (good_V m_203 m_204 m_205 m_1 m_206) rfl rfl rfl (by decide +kernel) ⟨Nat.le_of_ble_eq_true rfl, Nat.le_of_ble_eq_true rfl⟩) (wt_preV hK hN (hP.sub [0, 1, 2, 3, 4, 5, 6, 7, 8, 9, 10, 11, 12, 13, 14, 15, 16, 17] rfl) (va_recv hK hP (ci := 0) (q0 := 0) rfl rfl)) rfl rfl hl.1 rfl (lv_room (Nat.le_of_ble_eq_true rfl)) dL_law_283 ⟨Nat.le_of_ble_eq_true rfl, Nat.le_of_ble_eq_true rfl⟩) ?_
    refine lv_aload_n hx hb dL_law_286 rfl (lv_at hl 2 rfl) ?_
    refine lv_aload_n hx hb dL_law_287 rfl (lv_at hl 0 rfl) ?_
    refine lv_iload_n hx hb dL_law_288 rfl (lv_at hl 3 rfl) ?_
    refine lv_iconst (v := nI 1) hx hb dL_law_289 (by decide) ?_
    refine wt_iadd hx hb dL_law_290 ?_
    refine wt_sld hx hb hX hbl hbA hS (k := i + 1) (by omega) (by omega) (v := nI uu) e1 dL_law_291 ?_
    refine lv_aload_n hx hb dL_law_292 rfl (lv_at hl 0 rfl) ?_
    refine lv_iload_n hx hb dL_law_293 rfl (lv_at hl 3 rfl) ?_
    refine lv_iconst (v := nI 2) hx hb dL_law_294 (by decide) ?_
    refine wt_iadd hx hb dL_law_295 ?_
    refine wt_sld hx hb hX hbl hbA hS (k := i + 2) (by omega) (by omega) (v := nI vv) e2 dL_law_296 ?_
    refine lv_aload_n hx hb dL_law_297 rfl (lv_at hl 0 rfl) ?_
    refine lv_iload_n hx hb dL_law_298 rfl (lv_at hl 3 rfl) ?_
    refine lv_iconst (v := nI 3) hx hb dL_law_299 (by decide) ?_
    refine wt_iadd hx hb dL_law_300 ?_
    refine wt_sld hx hb hX hbl hbA hS (k := i + 3) (by omega) (by omega) (v := nI ww) e3 dL_law_301 ?_
    refine wt_roi (va_runV (As := [.int (nI uu), .int (nI vv), .int (nI ww)]) (rest := [.int (wt_aft gc gb uu vv ww)]) ⟨hx, hb, hml, hown, ht⟩ (c_M_after_1 l dC dI cI cZ cL qm kn co bo pr wd zs fp sh sl ct sc ea dn cd nx nd nc al wo wh uu vv ww huu hvv hww hvu) (cwV 3 ht (good_V m_486 m_487 m_488 m_7 m_489) rfl rfl rfl (by decide +kernel) ⟨Nat.le_of_ble_eq_true rfl, Nat.le_of_ble_eq_true rfl⟩) (wt_preV hK hN (hP.sub [18, 19, 20, 21, 22, 23, 24, 25, 26, 27, 28, 29, 30, 31, 32, 33] rfl) (va_recv hK hP (ci := 5) (q0 := 18) rfl rfl)) rfl rfl hl.1 rfl (lv_room (Nat.le_of_ble_eq_true rfl)) dL_law_302 ⟨Nat.le_of_ble_eq_true rfl, Nat.le_of_ble_eq_true rfl⟩) ?_
    refine lv_icmp_eq (tgt := 553) hx hb dL_law_305 (by decide) (fun _ => ?_) (fun hne => absurd ((gr_aft hgr huu hvv hww).1) hne)
    have hr9 : rel ph pa ch en sz gc gb sc sh sl ct kn co bo pr wd zs fp pg := hrel
    exact K H locs ls ⟨ph, pa, ch, en, sz, pr, gc, gb, sc, sh, sl, ct, tok, wt, pn, lt, wp, sd, kn, co, bo, wd, zs, fp, ea, dn, cd, nx, nd, nc, al, wo, wh, pg, hP, hD, hS, hr9, hca⟩ hl

set_option maxHeartbeats 4000000 in
set_option maxRecDepth 100000 in
theorem law_topology {p : Program} {l : Launch} {e : Env} {s : State} {m : MethodId} {below : List Frame} {meth : Method} {c : Code} {dC : Nat → ClassId} {dI : Nat → Nat → Nat} {cI cZ cL : ClassId} {b L : Nat} {xs : Nat → Int32} {q qm : Nat → Nat} (hL : L ≤ 3072) (C0 : lw_At p s m meth c b L xs) (hK : va_K (dC, dI) vwCl [(cI, .int), (cZ, .boolean), (cL, .long)] s) (hN : wt_nest s) {i : Nat} (hi : i + 6 ≤ L) (K : ∀ (H : Heap) (locs : List Loc) (ls : Array Slot), wtInv s dC dI cI cZ cL q qm H locs → lv_has ls 4 [(0, .ref b), (1, .ref (q 0)), (2, .ref (qm 0)), (3, .int (nI i))] → W p l e room_1 s m #[Value.ref b] below meth c H locs 34 14336 (lw_Z below #[Value.ref b] s) (F0 m 553 ls [])) : ∀ (H : Heap) (locs : List Loc) (ls : Array Slot), wtInv s dC dI cI cZ cL q qm H locs → lv_has ls 4 [(0, .ref b), (1, .ref (q 0)), (2, .ref (qm 0)), (3, .int (nI i))] → W p l e room_1 s m #[Value.ref b] below meth c H locs 34 14336 (lw_Z below #[Value.ref b] s) (F0 m 310 ls []) := by
  obtain ⟨hx, hb, hr, hml, hown0, hts, hX, hbl, hlocks, hgv⟩ := id C0
  have hown : s.vm.findClass RL = some m.cls := hown0
  have ht : ∀ w ∈ tb, w.before _ s = true := fun w h => hts w (tb_in w h)
  have hA : ∀ a : Nat, s.heap.size ≤ a → (fun a : Nat => s.heap.size ≤ a) a := fun _ h => h
  have hbA : ¬ (fun a : Nat => s.heap.size ≤ a) b := Nat.not_le.mpr hbl
  intro H locs ls hv hl
  obtain ⟨ph, pa, ch, en, sz, pr, gc, gb, sc, sh, sl, ct, tok, wt, pn, lt, wp, sd, kn, co, bo, wd, zs, fp, ea, dn, cd, nx, nd, nc, al, wo, wh, pg, hP, hD, hS, hrel, hca⟩ := hv
  have hrel' := hrel
  obtain ⟨⟨hm8, hzw, htr, hsz24, hen, hgr, hscr, hshr, hslr⟩, hct, hs3, hts0, hzs, hwd, hph, hpa, hch, hfp, hen0⟩ := hrel'
  have hz1 : ∀ k, k < pr → 1 ≤ zs k := fun k hk => (hzw k hk).1
  rcases bool3 (a := decide (¬ wt_rng (xs (i + 1)) 3 = 0)) (b := decide (¬ wt_rng (xs (i + 2)) 10000 = 0)) (c := decide (¬ wt_rng (xs (i + 3)) 10000 = 0)) with hbad | ⟨h1, h2, h3⟩
  · skip
    refine lv_aload_n hx hb dL_law_310 rfl (lv_at hl 1 rfl) ?_
    refine lv_aload_n hx hb dL_law_311 rfl (lv_at hl 0 rfl) ?_
    refine lv_iload_n hx hb dL_law_312 rfl (lv_at hl 3 rfl) ?_
    refine lv_iconst (v := nI 1) hx hb dL_law_313 (by decide) ?_
    refine wt_iadd hx hb dL_law_314 ?_
    refine wt_sld hx hb hX hbl hbA hS (k := i + 1) (by omega) (by omega) (v := xs (i + 1)) rfl dL_law_315 ?_
    refine lv_aload_n hx hb dL_law_316 rfl (lv_at hl 0 rfl) ?_
    refine lv_iload_n hx hb dL_law_317 rfl (lv_at hl 3 rfl) ?_
    refine lv_iconst (v := nI 2) hx hb dL_law_318 (by decide) ?_
    refine wt_iadd hx hb dL_law_319 ?_
    refine wt_sld hx hb hX hbl hbA hS (k := i + 2) (by omega) (by omega) (v := xs (i + 2)) rfl dL_law_320 ?_
    refine lv_aload_n hx hb dL_law_321 rfl (lv_at hl 0 rfl) ?_
    refine lv_iload_n hx hb dL_law_322 rfl (lv_at hl 3 rfl) ?_
    refine lv_iconst (v := nI 3) hx hb dL_law_323 (by decide) ?_
    refine wt_iadd hx hb dL_law_324 ?_
    refine wt_sld hx hb hX hbl hbA hS (k := i + 3) (by omega) (by omega) (v := xs (i + 3)) rfl dL_law_325 ?_
    refine wt_roi (va_runV (As := [.int (xs (i + 1)), .int (xs (i + 2)), .int (xs (i + 3))]) (rest := []) ⟨hx, hb, hml, hown, ht⟩ (c_X_topology_0 l dC dI cI cZ cL q ph pa ch en sz pr gc gb sc sh sl ct tok wt pn lt wp sd (xs (i + 1)) (xs (i + 2)) (xs (i + 3)) hbad) (cwV 3 ht (good_V m_216 m_217 m_218 m_1 m_219) rfl rfl rfl (by decide +kernel) ⟨Nat.le_of_ble_eq_true rfl, Nat.le_of_ble_eq_true rfl⟩) (wt_preV hK hN (hP.sub [0, 1, 2, 3, 4, 5, 6, 7, 8, 9, 10, 11, 12, 13, 14, 15, 16, 17] rfl) (va_recv hK hP (ci := 0) (q0 := 0) rfl rfl)) rfl rfl hl.1 rfl (lv_room (Nat.le_of_ble_eq_true rfl)) dL_law_326 ⟨Nat.le_of_ble_eq_true rfl, Nat.le_of_ble_eq_true rfl⟩) ?_
    refine lv_aload_n hx hb dL_law_329 rfl (lv_at hl 2 rfl) ?_
    refine lv_aload_n hx hb dL_law_330 rfl (lv_at hl 0 rfl) ?_
    refine lv_iload_n hx hb dL_law_331 rfl (lv_at hl 3 rfl) ?_
    refine lv_iconst (v := nI 1) hx hb dL_law_332 (by decide) ?_
    refine wt_iadd hx hb dL_law_333 ?_
    refine wt_sld hx hb hX hbl hbA hS (k := i + 1) (by omega) (by omega) (v := xs (i + 1)) rfl dL_law_334 ?_
    refine lv_aload_n hx hb dL_law_335 rfl (lv_at hl 0 rfl) ?_
    refine lv_iload_n hx hb dL_law_336 rfl (lv_at hl 3 rfl) ?_
    refine lv_iconst (v := nI 2) hx hb dL_law_337 (by decide) ?_
    refine wt_iadd hx hb dL_law_338 ?_
    refine wt_sld hx hb hX hbl hbA hS (k := i + 2) (by omega) (by omega) (v := xs (i + 2)) rfl dL_law_339 ?_
    refine lv_aload_n hx hb dL_law_340 rfl (lv_at hl 0 rfl) ?_
    refine lv_iload_n hx hb dL_law_341 rfl (lv_at hl 3 rfl) ?_
    refine lv_iconst (v := nI 3) hx hb dL_law_342 (by decide) ?_
    refine wt_iadd hx hb dL_law_343 ?_
    refine wt_sld hx hb hX hbl hbA hS (k := i + 3) (by omega) (by omega) (v := xs (i + 3)) rfl dL_law_344 ?_
    refine wt_roi (va_runV (As := [.int (xs (i + 1)), .int (xs (i + 2)), .int (xs (i + 3))]) (rest := [.int (nI 0)]) ⟨hx, hb, hml, hown, ht⟩ (c_M_topology_0 l dC dI cI cZ cL qm kn co bo pr wd zs fp sh sl ct sc ea dn cd nx nd nc al wo wh (xs (i + 1)) (xs (i + 2)) (xs (i + 3)) hbad) (cwV 3 ht (good_V m_498 m_499 m_500 m_7 m_501) rfl rfl rfl (by decide +kernel) ⟨Nat.le_of_ble_eq_true rfl, Nat.le_of_ble_eq_true rfl⟩) (wt_preV hK hN (hP.sub [18, 19, 20, 21, 22, 23, 24, 25, 26, 27, 28, 29, 30, 31, 32, 33] rfl) (va_recv hK hP (ci := 5) (q0 := 18) rfl rfl)) rfl rfl hl.1 rfl (lv_room (Nat.le_of_ble_eq_true rfl)) dL_law_345 ⟨Nat.le_of_ble_eq_true rfl, Nat.le_of_ble_eq_true rfl⟩) ?_
    refine lv_icmp_eq (tgt := 553) hx hb dL_law_348 (by decide) (fun _ => ?_) (fun hne => absurd (rfl) hne)
    have hr9 : rel ph pa ch en sz gc gb sc sh sl ct kn co bo pr wd zs fp pg := hrel
    exact K H locs ls ⟨ph, pa, ch, en, sz, pr, gc, gb, sc, sh, sl, ct, tok, wt, pn, lt, wp, sd, kn, co, bo, wd, zs, fp, ea, dn, cd, nx, nd, nc, al, wo, wh, pg, hP, hD, hS, hr9, hca⟩ hl
  · skip
    obtain ⟨ss, hss, e1⟩ := wt_rng_of (by decide) (of_decide_eq_true h1)
    refine lv_aload_n hx hb dL_law_310 rfl (lv_at hl 1 rfl) ?_
    refine lv_aload_n hx hb dL_law_311 rfl (lv_at hl 0 rfl) ?_
    refine lv_iload_n hx hb dL_law_312 rfl (lv_at hl 3 rfl) ?_
    refine lv_iconst (v := nI 1) hx hb dL_law_313 (by decide) ?_
    refine wt_iadd hx hb dL_law_314 ?_
    refine wt_sld hx hb hX hbl hbA hS (k := i + 1) (by omega) (by omega) (v := nI ss) e1 dL_law_315 ?_
    refine lv_aload_n hx hb dL_law_316 rfl (lv_at hl 0 rfl) ?_
    refine lv_iload_n hx hb dL_law_317 rfl (lv_at hl 3 rfl) ?_
    refine lv_iconst (v := nI 2) hx hb dL_law_318 (by decide) ?_
    refine wt_iadd hx hb dL_law_319 ?_
    refine wt_sld hx hb hX hbl hbA hS (k := i + 2) (by omega) (by omega) (v := xs (i + 2)) rfl dL_law_320 ?_
    refine lv_aload_n hx hb dL_law_321 rfl (lv_at hl 0 rfl) ?_
    refine lv_iload_n hx hb dL_law_322 rfl (lv_at hl 3 rfl) ?_
    refine lv_iconst (v := nI 3) hx hb dL_law_323 (by decide) ?_
    refine wt_iadd hx hb dL_law_324 ?_
    refine wt_sld hx hb hX hbl hbA hS (k := i + 3) (by omega) (by omega) (v := xs (i + 3)) rfl dL_law_325 ?_
    refine wt_cuti (wc := (wX cI cZ cL q ph pa ch en sz pr gc gb sc sh sl ct tok wt pn lt wp sd)) (w1 := (wX cI cZ cL q ph pa ch en sz pr gc gb sc (upd sh ss (xs (i + 2))) (upd sl ss (xs (i + 3))) ct tok wt pn lt wp false)) (wr := (wM cI cZ cL qm kn co bo pr wd zs fp sh sl ct sc ea dn cd nx nd nc al wo wh)) (w2 := (wX cI cZ cL q ph pa ch en sz pr gc gb sc (upd sh ss (xs (i + 2))) (upd sl ss (xs (i + 3))) ct tok wt pn lt wp false) ++ (wM cI cZ cL qm kn co bo pr wd zs fp sh sl ct sc ea dn cd nx nd nc al wo wh)) (va_runV (As := [.int (nI ss), .int (xs (i + 2)), .int (xs (i + 3))]) (rest := []) ⟨hx, hb, hml, hown, ht⟩ (c_X_topology_1 l dC dI cI cZ cL q H.size ph pa ch en sz pr gc gb sc sh sl ct tok wt pn lt wp sd ss (xs (i + 2)) (xs (i + 3)) hss (of_decide_eq_true h2) (of_decide_eq_true h3)) (cwV 3 ht (good_V m_216 m_217 m_218 m_1 m_219) rfl rfl rfl (by decide +kernel) ⟨Nat.le_of_ble_eq_true rfl, Nat.le_of_ble_eq_true rfl⟩) (wt_preVw hK hN (hP.sub [0, 1, 2, 3, 4, 5, 6, 7, 8, 9, 10, 11, 12, 13, 14, 15, 16, 17] rfl) (hD.sub [0, 1, 2, 3, 4, 5, 6, 7, 8, 9, 10, 11, 12, 13, 14, 15, 16, 17] (by decide) rfl) (va_recv hK hP (ci := 0) (q0 := 0) rfl rfl)) rfl rfl hl.1 rfl (lv_room (Nat.le_of_ble_eq_true rfl)) dL_law_326 ⟨Nat.le_of_ble_eq_true rfl, Nat.le_of_ble_eq_true rfl⟩) hP hD hS hA [0, 1, 2, 3, 4, 5, 6, 7, 8, 9, 10, 11, 12, 13, 14, 15, 16, 17] [18, 19, 20, 21, 22, 23, 24, 25, 26, 27, 28, 29, 30, 31, 32, 33] rfl rfl (by decide) (by decide) [16, 17, 18, 19, 20, 21, 22, 23, 24, 25, 26, 27, 28, 29, 30, 31, 32, 33, 0, 1, 2, 3, 4, 5, 6, 7, 8, 9, 10, 11, 12, 13, 14, 15] (by decide) rfl (fun H locs hP hD hS => ?_)
    refine W.widen (k := 34) (n := 14336) (Nat.le_of_ble_eq_true rfl) (Nat.le_of_ble_eq_true rfl) ?_
    refine lv_aload_n hx hb dL_law_329 rfl (lv_at hl 2 rfl) ?_
    refine lv_aload_n hx hb dL_law_330 rfl (lv_at hl 0 rfl) ?_
    refine lv_iload_n hx hb dL_law_331 rfl (lv_at hl 3 rfl) ?_
    refine lv_iconst (v := nI 1) hx hb dL_law_332 (by decide) ?_
    refine wt_iadd hx hb dL_law_333 ?_
    refine wt_sld hx hb hX hbl hbA hS (k := i + 1) (by omega) (by omega) (v := nI ss) e1 dL_law_334 ?_
    refine lv_aload_n hx hb dL_law_335 rfl (lv_at hl 0 rfl) ?_
    refine lv_iload_n hx hb dL_law_336 rfl (lv_at hl 3 rfl) ?_
    refine lv_iconst (v := nI 2) hx hb dL_law_337 (by decide) ?_
    refine wt_iadd hx hb dL_law_338 ?_
    refine wt_sld hx hb hX hbl hbA hS (k := i + 2) (by omega) (by omega) (v := xs (i + 2)) rfl dL_law_339 ?_
    refine lv_aload_n hx hb dL_law_340 rfl (lv_at hl 0 rfl) ?_
    refine lv_iload_n hx hb dL_law_341 rfl (lv_at hl 3 rfl) ?_
    refine lv_iconst (v := nI 3) hx hb dL_law_342 (by decide) ?_
    refine wt_iadd hx hb dL_law_343 ?_
    refine wt_sld hx hb hX hbl hbA hS (k := i + 3) (by omega) (by omega) (v := xs (i + 3)) rfl dL_law_344 ?_
    refine wt_cuti (wc := (wM cI cZ cL qm kn co bo pr wd zs fp sh sl ct sc ea dn cd nx nd nc al wo wh)) (w1 := (wM cI cZ cL qm kn co bo pr wd zs fp (upd sh ss (xs (i + 2))) (upd sl ss (xs (i + 3))) ct sc ea dn cd nx nd nc al wo wh)) (wr := (wX cI cZ cL q ph pa ch en sz pr gc gb sc (upd sh ss (xs (i + 2))) (upd sl ss (xs (i + 3))) ct tok wt pn lt wp false)) (w2 := (wX cI cZ cL q ph pa ch en sz pr gc gb sc (upd sh ss (xs (i + 2))) (upd sl ss (xs (i + 3))) ct tok wt pn lt wp false) ++ (wM cI cZ cL qm kn co bo pr wd zs fp (upd sh ss (xs (i + 2))) (upd sl ss (xs (i + 3))) ct sc ea dn cd nx nd nc al wo wh)) (va_runV (As := [.int (nI ss), .int (xs (i + 2)), .int (xs (i + 3))]) (rest := [.int (nI 1)]) ⟨hx, hb, hml, hown, ht⟩ (c_M_topology_1 l dC dI cI cZ cL qm H.size kn co bo pr wd zs fp sh sl ct sc ea dn cd nx nd nc al wo wh ss (xs (i + 2)) (xs (i + 3)) hss (of_decide_eq_true h2) (of_decide_eq_true h3)) (cwV 3 ht (good_V m_498 m_499 m_500 m_7 m_501) rfl rfl rfl (by decide +kernel) ⟨Nat.le_of_ble_eq_true rfl, Nat.le_of_ble_eq_true rfl⟩) (wt_preVw hK hN (hP.sub [18, 19, 20, 21, 22, 23, 24, 25, 26, 27, 28, 29, 30, 31, 32, 33] rfl) (hD.sub [18, 19, 20, 21, 22, 23, 24, 25, 26, 27, 28, 29, 30, 31, 32, 33] (by decide) rfl) (va_recv hK hP (ci := 5) (q0 := 18) rfl rfl)) rfl rfl hl.1 rfl (lv_room (Nat.le_of_ble_eq_true rfl)) dL_law_345 ⟨Nat.le_of_ble_eq_true rfl, Nat.le_of_ble_eq_true rfl⟩) hP hD hS hA [18, 19, 20, 21, 22, 23, 24, 25, 26, 27, 28, 29, 30, 31, 32, 33] [0, 1, 2, 3, 4, 5, 6, 7, 8, 9, 10, 11, 12, 13, 14, 15, 16, 17] rfl rfl (by decide) (by decide) [0, 1, 2, 3, 4, 5, 6, 7, 8, 9, 10, 11, 12, 13, 14, 15, 16, 17, 18, 19, 20, 21, 22, 23, 24, 25, 26, 27, 28, 29, 30, 31, 32, 33] (by decide) rfl (fun H locs hP hD hS => ?_)
    refine W.widen (k := 34) (n := 14336) (Nat.le_of_ble_eq_true rfl) (Nat.le_of_ble_eq_true rfl) ?_
    refine lv_icmp_eq (tgt := 553) hx hb dL_law_348 (by decide) (fun _ => ?_) (fun hne => absurd (rfl) hne)
    have hr9 : rel ph pa ch en sz gc gb sc (upd sh ss (xs (i + 2))) (upd sl ss (xs (i + 3))) ct kn co bo pr wd zs fp pg := rel_hl hrel (of_decide_eq_true h2) (of_decide_eq_true h3)
    exact K H locs ls ⟨ph, pa, ch, en, sz, pr, gc, gb, sc, (upd sh ss (xs (i + 2))), (upd sl ss (xs (i + 3))), ct, tok, wt, pn, lt, wp, false, kn, co, bo, wd, zs, fp, ea, dn, cd, nx, nd, nc, al, wo, wh, pg, hP, hD, hS, hr9, (fun z => absurd z (by decide))⟩ hl

set_option maxHeartbeats 4000000 in
set_option maxRecDepth 100000 in
theorem law_frame {p : Program} {l : Launch} {e : Env} {s : State} {m : MethodId} {below : List Frame} {meth : Method} {c : Code} {dC : Nat → ClassId} {dI : Nat → Nat → Nat} {cI cZ cL : ClassId} {b L : Nat} {xs : Nat → Int32} {q qm : Nat → Nat} (hL : L ≤ 3072) (C0 : lw_At p s m meth c b L xs) (hK : va_K (dC, dI) vwCl [(cI, .int), (cZ, .boolean), (cL, .long)] s) (hN : wt_nest s) {i : Nat} (hi : i + 6 ≤ L) (K : ∀ (H : Heap) (locs : List Loc) (ls : Array Slot), wtInv s dC dI cI cZ cL q qm H locs → lv_has ls 4 [(0, .ref b), (1, .ref (q 0)), (2, .ref (qm 0)), (3, .int (nI i))] → W p l e room_1 s m #[Value.ref b] below meth c H locs 34 14336 (lw_Z below #[Value.ref b] s) (F0 m 553 ls [])) : ∀ (H : Heap) (locs : List Loc) (ls : Array Slot), wtInv s dC dI cI cZ cL q qm H locs → lv_has ls 4 [(0, .ref b), (1, .ref (q 0)), (2, .ref (qm 0)), (3, .int (nI i))] → W p l e room_1 s m #[Value.ref b] below meth c H locs 34 14336 (lw_Z below #[Value.ref b] s) (F0 m 353 ls []) := by
  obtain ⟨hx, hb, hr, hml, hown0, hts, hX, hbl, hlocks, hgv⟩ := id C0
  have hown : s.vm.findClass RL = some m.cls := hown0
  have ht : ∀ w ∈ tb, w.before _ s = true := fun w h => hts w (tb_in w h)
  have hA : ∀ a : Nat, s.heap.size ≤ a → (fun a : Nat => s.heap.size ≤ a) a := fun _ h => h
  have hbA : ¬ (fun a : Nat => s.heap.size ≤ a) b := Nat.not_le.mpr hbl
  intro H locs ls hv hl
  obtain ⟨ph, pa, ch, en, sz, pr, gc, gb, sc, sh, sl, ct, tok, wt, pn, lt, wp, sd, kn, co, bo, wd, zs, fp, ea, dn, cd, nx, nd, nc, al, wo, wh, pg, hP, hD, hS, hrel, hca⟩ := hv
  have hrel' := hrel
  obtain ⟨⟨hm8, hzw, htr, hsz24, hen, hgr, hscr, hshr, hslr⟩, hct, hs3, hts0, hzs, hwd, hph, hpa, hch, hfp, hen0⟩ := hrel'
  have hz1 : ∀ k, k < pr → 1 ≤ zs k := fun k hk => (hzw k hk).1
  by_cases h15 : ct = 15
  · skip
    refine lv_aload_n hx hb dL_law_353 rfl (lv_at hl 1 rfl) ?_
    refine wt_roi (va_runV (As := []) (rest := []) ⟨hx, hb, hml, hown, ht⟩ (c_X_frame_0 l dC dI cI cZ cL q ph pa ch en sz pr gc gb sc sh sl ct tok wt pn lt wp sd h15) (cwV 0 ht (good_V m_227 m_228 m_229 m_1 m_230) rfl rfl rfl (by decide +kernel) ⟨Nat.le_of_ble_eq_true rfl, Nat.le_of_ble_eq_true rfl⟩) (wt_preV hK hN (hP.sub [0, 1, 2, 3, 4, 5, 6, 7, 8, 9, 10, 11, 12, 13, 14, 15, 16, 17] rfl) (va_recv hK hP (ci := 0) (q0 := 0) rfl rfl)) rfl rfl hl.1 rfl (lv_room (Nat.le_of_ble_eq_true rfl)) dL_law_354 ⟨Nat.le_of_ble_eq_true rfl, Nat.le_of_ble_eq_true rfl⟩) ?_
    refine lv_aload_n hx hb dL_law_357 rfl (lv_at hl 2 rfl) ?_
    refine wt_roi (va_runV (As := []) (rest := [.int (-1)]) ⟨hx, hb, hml, hown, ht⟩ (c_M_frame_0 l dC dI cI cZ cL qm kn co bo pr wd zs fp sh sl ct sc ea dn cd nx nd nc al wo wh h15) (cwV 0 ht (good_V m_502 m_503 m_504 m_7 m_505) rfl rfl rfl (by decide +kernel) ⟨Nat.le_of_ble_eq_true rfl, Nat.le_of_ble_eq_true rfl⟩) (wt_preV hK hN (hP.sub [18, 19, 20, 21, 22, 23, 24, 25, 26, 27, 28, 29, 30, 31, 32, 33] rfl) (va_recv hK hP (ci := 5) (q0 := 18) rfl rfl)) rfl rfl hl.1 rfl (lv_room (Nat.le_of_ble_eq_true rfl)) dL_law_358 ⟨Nat.le_of_ble_eq_true rfl, Nat.le_of_ble_eq_true rfl⟩) ?_
    refine lv_icmp_eq (tgt := 553) hx hb dL_law_361 (by decide) (fun _ => ?_) (fun hne => absurd (rfl) hne)
    have hr9 : rel ph pa ch en sz gc gb sc sh sl ct kn co bo pr wd zs fp pg := hrel
    exact K H locs ls ⟨ph, pa, ch, en, sz, pr, gc, gb, sc, sh, sl, ct, tok, wt, pn, lt, wp, sd, kn, co, bo, wd, zs, fp, ea, dn, cd, nx, nd, nc, al, wo, wh, pg, hP, hD, hS, hr9, hca⟩ hl
  · skip
    refine lv_aload_n hx hb dL_law_353 rfl (lv_at hl 1 rfl) ?_
    refine wt_cuti (wc := (wX cI cZ cL q ph pa ch en sz pr gc gb sc sh sl ct tok wt pn lt wp sd)) (w1 := (wX cI cZ cL q ph pa ch en sz pr gc gb (wt_z12 (ct * 12) sc) sh sl (ct + 1) tok wt pn lt wp false)) (wr := (wM cI cZ cL qm kn co bo pr wd zs fp sh sl ct sc ea dn cd nx nd nc al wo wh)) (w2 := (wX cI cZ cL q ph pa ch en sz pr gc gb (wt_z12 (ct * 12) sc) sh sl (ct + 1) tok wt pn lt wp false) ++ (wM cI cZ cL qm kn co bo pr wd zs fp sh sl ct sc ea dn cd nx nd nc al wo wh)) (va_runV (As := []) (rest := []) ⟨hx, hb, hml, hown, ht⟩ (c_X_frame_1 l dC dI cI cZ cL q H.size ph pa ch en sz pr gc gb sc sh sl ct tok wt pn lt wp sd (by omega)) (cwV 0 ht (good_V m_227 m_228 m_229 m_1 m_230) rfl rfl rfl (by decide +kernel) ⟨Nat.le_of_ble_eq_true rfl, Nat.le_of_ble_eq_true rfl⟩) (wt_preVw hK hN (hP.sub [0, 1, 2, 3, 4, 5, 6, 7, 8, 9, 10, 11, 12, 13, 14, 15, 16, 17] rfl) (hD.sub [0, 1, 2, 3, 4, 5, 6, 7, 8, 9, 10, 11, 12, 13, 14, 15, 16, 17] (by decide) rfl) (va_recv hK hP (ci := 0) (q0 := 0) rfl rfl)) rfl rfl hl.1 rfl (lv_room (Nat.le_of_ble_eq_true rfl)) dL_law_354 ⟨Nat.le_of_ble_eq_true rfl, Nat.le_of_ble_eq_true rfl⟩) hP hD hS hA [0, 1, 2, 3, 4, 5, 6, 7, 8, 9, 10, 11, 12, 13, 14, 15, 16, 17] [18, 19, 20, 21, 22, 23, 24, 25, 26, 27, 28, 29, 30, 31, 32, 33] rfl rfl (by decide) (by decide) [16, 17, 18, 19, 20, 21, 22, 23, 24, 25, 26, 27, 28, 29, 30, 31, 32, 33, 0, 1, 2, 3, 4, 5, 6, 7, 8, 9, 10, 11, 12, 13, 14, 15] (by decide) rfl (fun H locs hP hD hS => ?_)
    refine W.widen (k := 34) (n := 14336) (Nat.le_of_ble_eq_true rfl) (Nat.le_of_ble_eq_true rfl) ?_
    refine lv_aload_n hx hb dL_law_357 rfl (lv_at hl 2 rfl) ?_
    refine wt_cuti (wc := (wM cI cZ cL qm kn co bo pr wd zs fp sh sl ct sc ea dn cd nx nd nc al wo wh)) (w1 := (wM cI cZ cL qm kn co bo pr wd zs fp sh sl (ct + 1) (wt_z12 (12 * ct) sc) ea dn cd nx nd nc al wo wh)) (wr := (wX cI cZ cL q ph pa ch en sz pr gc gb (wt_z12 (ct * 12) sc) sh sl (ct + 1) tok wt pn lt wp false)) (w2 := (wX cI cZ cL q ph pa ch en sz pr gc gb (wt_z12 (ct * 12) sc) sh sl (ct + 1) tok wt pn lt wp false) ++ (wM cI cZ cL qm kn co bo pr wd zs fp sh sl (ct + 1) (wt_z12 (12 * ct) sc) ea dn cd nx nd nc al wo wh)) (va_runV (As := []) (rest := [.int (nI (ct + 1))]) ⟨hx, hb, hml, hown, ht⟩ (c_M_frame_1 l dC dI cI cZ cL qm H.size kn co bo pr wd zs fp sh sl ct sc ea dn cd nx nd nc al wo wh (by omega)) (cwV 0 ht (good_V m_502 m_503 m_504 m_7 m_505) rfl rfl rfl (by decide +kernel) ⟨Nat.le_of_ble_eq_true rfl, Nat.le_of_ble_eq_true rfl⟩) (wt_preVw hK hN (hP.sub [18, 19, 20, 21, 22, 23, 24, 25, 26, 27, 28, 29, 30, 31, 32, 33] rfl) (hD.sub [18, 19, 20, 21, 22, 23, 24, 25, 26, 27, 28, 29, 30, 31, 32, 33] (by decide) rfl) (va_recv hK hP (ci := 5) (q0 := 18) rfl rfl)) rfl rfl hl.1 rfl (lv_room (Nat.le_of_ble_eq_true rfl)) dL_law_358 ⟨Nat.le_of_ble_eq_true rfl, Nat.le_of_ble_eq_true rfl⟩) hP hD hS hA [18, 19, 20, 21, 22, 23, 24, 25, 26, 27, 28, 29, 30, 31, 32, 33] [0, 1, 2, 3, 4, 5, 6, 7, 8, 9, 10, 11, 12, 13, 14, 15, 16, 17] rfl rfl (by decide) (by decide) [0, 1, 2, 3, 4, 5, 6, 7, 8, 9, 10, 11, 12, 13, 14, 15, 16, 17, 18, 19, 20, 21, 22, 23, 24, 25, 26, 27, 28, 29, 30, 31, 32, 33] (by decide) rfl (fun H locs hP hD hS => ?_)
    refine W.widen (k := 34) (n := 14336) (Nat.le_of_ble_eq_true rfl) (Nat.le_of_ble_eq_true rfl) ?_
    refine lv_icmp_eq (tgt := 553) hx hb dL_law_361 (by decide) (fun _ => ?_) (fun hne => absurd (rfl) hne)
    rw [z12_mul] at hP hD
    have hr9 : rel ph pa ch en sz gc gb (wt_z12 (12 * ct) sc) sh sl (ct + 1) kn co bo pr wd zs fp pg := rel_ct (rel_sc hrel (z12_rng (k := 12 * ct) (N := 180) 12 0 sc hscr)) (by omega)
    exact K H locs ls ⟨ph, pa, ch, en, sz, pr, gc, gb, (wt_z12 (12 * ct) sc), sh, sl, (ct + 1), tok, wt, pn, lt, wp, false, kn, co, bo, wd, zs, fp, ea, dn, cd, nx, nd, nc, al, wo, wh, pg, hP, hD, hS, hr9, (fun z => absurd z (by decide))⟩ hl

set_option maxHeartbeats 4000000 in
set_option maxRecDepth 100000 in
theorem law_drop {p : Program} {l : Launch} {e : Env} {s : State} {m : MethodId} {below : List Frame} {meth : Method} {c : Code} {dC : Nat → ClassId} {dI : Nat → Nat → Nat} {cI cZ cL : ClassId} {b L : Nat} {xs : Nat → Int32} {q qm : Nat → Nat} (hL : L ≤ 3072) (C0 : lw_At p s m meth c b L xs) (hK : va_K (dC, dI) vwCl [(cI, .int), (cZ, .boolean), (cL, .long)] s) (hN : wt_nest s) {i : Nat} (hi : i + 6 ≤ L) (K : ∀ (H : Heap) (locs : List Loc) (ls : Array Slot), wtInv s dC dI cI cZ cL q qm H locs → lv_has ls 4 [(0, .ref b), (1, .ref (q 0)), (2, .ref (qm 0)), (3, .int (nI i))] → W p l e room_1 s m #[Value.ref b] below meth c H locs 34 14336 (lw_Z below #[Value.ref b] s) (F0 m 553 ls [])) : ∀ (H : Heap) (locs : List Loc) (ls : Array Slot), wtInv s dC dI cI cZ cL q qm H locs → lv_has ls 4 [(0, .ref b), (1, .ref (q 0)), (2, .ref (qm 0)), (3, .int (nI i))] → W p l e room_1 s m #[Value.ref b] below meth c H locs 34 14336 (lw_Z below #[Value.ref b] s) (F0 m 366 ls []) := by
  obtain ⟨hx, hb, hr, hml, hown0, hts, hX, hbl, hlocks, hgv⟩ := id C0
  have hown : s.vm.findClass RL = some m.cls := hown0
  have ht : ∀ w ∈ tb, w.before _ s = true := fun w h => hts w (tb_in w h)
  have hA : ∀ a : Nat, s.heap.size ≤ a → (fun a : Nat => s.heap.size ≤ a) a := fun _ h => h
  have hbA : ¬ (fun a : Nat => s.heap.size ≤ a) b := Nat.not_le.mpr hbl
  intro H locs ls hv hl
  obtain ⟨ph, pa, ch, en, sz, pr, gc, gb, sc, sh, sl, ct, tok, wt, pn, lt, wp, sd, kn, co, bo, wd, zs, fp, ea, dn, cd, nx, nd, nc, al, wo, wh, pg, hP, hD, hS, hrel, hca⟩ := hv
  have hrel' := hrel
  obtain ⟨⟨hm8, hzw, htr, hsz24, hen, hgr, hscr, hshr, hslr⟩, hct, hs3, hts0, hzs, hwd, hph, hpa, hch, hfp, hen0⟩ := hrel'
  have hz1 : ∀ k, k < pr → 1 ≤ zs k := fun k hk => (hzw k hk).1
  by_cases h0 : ct = 0
  · skip
    refine lv_aload_n hx hb dL_law_366 rfl (lv_at hl 1 rfl) ?_
    refine wt_roi (va_runV (As := []) (rest := []) ⟨hx, hb, hml, hown, ht⟩ (c_X_drop_0 l dC dI cI cZ cL q ph pa ch en sz pr gc gb sc sh sl ct tok wt pn lt wp sd h0) (cwV 0 ht (good_V m_239 m_240 m_241 m_1 m_242) rfl rfl rfl (by decide +kernel) ⟨Nat.le_of_ble_eq_true rfl, Nat.le_of_ble_eq_true rfl⟩) (wt_preV hK hN (hP.sub [0, 1, 2, 3, 4, 5, 6, 7, 8, 9, 10, 11, 12, 13, 14, 15, 16, 17] rfl) (va_recv hK hP (ci := 0) (q0 := 0) rfl rfl)) rfl rfl hl.1 rfl (lv_room (Nat.le_of_ble_eq_true rfl)) dL_law_367 ⟨Nat.le_of_ble_eq_true rfl, Nat.le_of_ble_eq_true rfl⟩) ?_
    refine lv_aload_n hx hb dL_law_370 rfl (lv_at hl 2 rfl) ?_
    refine wt_roi (va_runV (As := []) (rest := [.int (nI 0)]) ⟨hx, hb, hml, hown, ht⟩ (c_M_drop_0 l dC dI cI cZ cL qm kn co bo pr wd zs fp sh sl ct sc ea dn cd nx nd nc al wo wh h0) (cwV 0 ht (good_V m_506 m_507 m_508 m_7 m_509) rfl rfl rfl (by decide +kernel) ⟨Nat.le_of_ble_eq_true rfl, Nat.le_of_ble_eq_true rfl⟩) (wt_preV hK hN (hP.sub [18, 19, 20, 21, 22, 23, 24, 25, 26, 27, 28, 29, 30, 31, 32, 33] rfl) (va_recv hK hP (ci := 5) (q0 := 18) rfl rfl)) rfl rfl hl.1 rfl (lv_room (Nat.le_of_ble_eq_true rfl)) dL_law_371 ⟨Nat.le_of_ble_eq_true rfl, Nat.le_of_ble_eq_true rfl⟩) ?_
    refine lv_icmp_eq (tgt := 553) hx hb dL_law_374 (by decide) (fun _ => ?_) (fun hne => absurd (rfl) hne)
    have hr9 : rel ph pa ch en sz gc gb sc sh sl ct kn co bo pr wd zs fp pg := hrel
    exact K H locs ls ⟨ph, pa, ch, en, sz, pr, gc, gb, sc, sh, sl, ct, tok, wt, pn, lt, wp, sd, kn, co, bo, wd, zs, fp, ea, dn, cd, nx, nd, nc, al, wo, wh, pg, hP, hD, hS, hr9, hca⟩ hl
  · skip
    refine lv_aload_n hx hb dL_law_366 rfl (lv_at hl 1 rfl) ?_
    refine wt_cuti (wc := (wX cI cZ cL q ph pa ch en sz pr gc gb sc sh sl ct tok wt pn lt wp sd)) (w1 := (wX cI cZ cL q ph pa ch en sz pr gc gb sc sh sl (ct - 1) tok wt pn lt wp false)) (wr := (wM cI cZ cL qm kn co bo pr wd zs fp sh sl ct sc ea dn cd nx nd nc al wo wh)) (w2 := (wX cI cZ cL q ph pa ch en sz pr gc gb sc sh sl (ct - 1) tok wt pn lt wp false) ++ (wM cI cZ cL qm kn co bo pr wd zs fp sh sl ct sc ea dn cd nx nd nc al wo wh)) (va_runV (As := []) (rest := []) ⟨hx, hb, hml, hown, ht⟩ (c_X_drop_1 l dC dI cI cZ cL q H.size ph pa ch en sz pr gc gb sc sh sl ct tok wt pn lt wp sd (by omega) hct) (cwV 0 ht (good_V m_239 m_240 m_241 m_1 m_242) rfl rfl rfl (by decide +kernel) ⟨Nat.le_of_ble_eq_true rfl, Nat.le_of_ble_eq_true rfl⟩) (wt_preVw hK hN (hP.sub [0, 1, 2, 3, 4, 5, 6, 7, 8, 9, 10, 11, 12, 13, 14, 15, 16, 17] rfl) (hD.sub [0, 1, 2, 3, 4, 5, 6, 7, 8, 9, 10, 11, 12, 13, 14, 15, 16, 17] (by decide) rfl) (va_recv hK hP (ci := 0) (q0 := 0) rfl rfl)) rfl rfl hl.1 rfl (lv_room (Nat.le_of_ble_eq_true rfl)) dL_law_367 ⟨Nat.le_of_ble_eq_true rfl, Nat.le_of_ble_eq_true rfl⟩) hP hD hS hA [0, 1, 2, 3, 4, 5, 6, 7, 8, 9, 10, 11, 12, 13, 14, 15, 16, 17] [18, 19, 20, 21, 22, 23, 24, 25, 26, 27, 28, 29, 30, 31, 32, 33] rfl rfl (by decide) (by decide) [16, 17, 18, 19, 20, 21, 22, 23, 24, 25, 26, 27, 28, 29, 30, 31, 32, 33, 0, 1, 2, 3, 4, 5, 6, 7, 8, 9, 10, 11, 12, 13, 14, 15] (by decide) rfl (fun H locs hP hD hS => ?_)
    refine W.widen (k := 34) (n := 14336) (Nat.le_of_ble_eq_true rfl) (Nat.le_of_ble_eq_true rfl) ?_
    refine lv_aload_n hx hb dL_law_370 rfl (lv_at hl 2 rfl) ?_
    refine wt_cuti (wc := (wM cI cZ cL qm kn co bo pr wd zs fp sh sl ct sc ea dn cd nx nd nc al wo wh)) (w1 := (wM cI cZ cL qm kn co bo pr wd zs fp sh sl (ct - 1) sc ea dn cd nx nd nc al wo wh)) (wr := (wX cI cZ cL q ph pa ch en sz pr gc gb sc sh sl (ct - 1) tok wt pn lt wp false)) (w2 := (wX cI cZ cL q ph pa ch en sz pr gc gb sc sh sl (ct - 1) tok wt pn lt wp false) ++ (wM cI cZ cL qm kn co bo pr wd zs fp sh sl (ct - 1) sc ea dn cd nx nd nc al wo wh)) (va_runV (As := []) (rest := [.int (nI 1)]) ⟨hx, hb, hml, hown, ht⟩ (c_M_drop_1 l dC dI cI cZ cL qm H.size kn co bo pr wd zs fp sh sl ct sc ea dn cd nx nd nc al wo wh (by omega) hct) (cwV 0 ht (good_V m_506 m_507 m_508 m_7 m_509) rfl rfl rfl (by decide +kernel) ⟨Nat.le_of_ble_eq_true rfl, Nat.le_of_ble_eq_true rfl⟩) (wt_preVw hK hN (hP.sub [18, 19, 20, 21, 22, 23, 24, 25, 26, 27, 28, 29, 30, 31, 32, 33] rfl) (hD.sub [18, 19, 20, 21, 22, 23, 24, 25, 26, 27, 28, 29, 30, 31, 32, 33] (by decide) rfl) (va_recv hK hP (ci := 5) (q0 := 18) rfl rfl)) rfl rfl hl.1 rfl (lv_room (Nat.le_of_ble_eq_true rfl)) dL_law_371 ⟨Nat.le_of_ble_eq_true rfl, Nat.le_of_ble_eq_true rfl⟩) hP hD hS hA [18, 19, 20, 21, 22, 23, 24, 25, 26, 27, 28, 29, 30, 31, 32, 33] [0, 1, 2, 3, 4, 5, 6, 7, 8, 9, 10, 11, 12, 13, 14, 15, 16, 17] rfl rfl (by decide) (by decide) [0, 1, 2, 3, 4, 5, 6, 7, 8, 9, 10, 11, 12, 13, 14, 15, 16, 17, 18, 19, 20, 21, 22, 23, 24, 25, 26, 27, 28, 29, 30, 31, 32, 33] (by decide) rfl (fun H locs hP hD hS => ?_)
    refine W.widen (k := 34) (n := 14336) (Nat.le_of_ble_eq_true rfl) (Nat.le_of_ble_eq_true rfl) ?_
    refine lv_icmp_eq (tgt := 553) hx hb dL_law_374 (by decide) (fun _ => ?_) (fun hne => absurd (rfl) hne)
    have hr9 : rel ph pa ch en sz gc gb sc sh sl (ct - 1) kn co bo pr wd zs fp pg := rel_ct hrel (by omega)
    exact K H locs ls ⟨ph, pa, ch, en, sz, pr, gc, gb, sc, sh, sl, (ct - 1), tok, wt, pn, lt, wp, false, kn, co, bo, wd, zs, fp, ea, dn, cd, nx, nd, nc, al, wo, wh, pg, hP, hD, hS, hr9, (fun z => absurd z (by decide))⟩ hl

set_option maxHeartbeats 4000000 in
set_option maxRecDepth 100000 in
theorem law_sound {p : Program} {l : Launch} {e : Env} {s : State} {m : MethodId} {below : List Frame} {meth : Method} {c : Code} {dC : Nat → ClassId} {dI : Nat → Nat → Nat} {cI cZ cL : ClassId} {b L : Nat} {xs : Nat → Int32} {q qm : Nat → Nat} (hL : L ≤ 3072) (C0 : lw_At p s m meth c b L xs) (hK : va_K (dC, dI) vwCl [(cI, .int), (cZ, .boolean), (cL, .long)] s) (hN : wt_nest s) {i : Nat} (hi : i + 6 ≤ L) (K : ∀ (H : Heap) (locs : List Loc) (ls : Array Slot), wtInv s dC dI cI cZ cL q qm H locs → lv_has ls 4 [(0, .ref b), (1, .ref (q 0)), (2, .ref (qm 0)), (3, .int (nI i))] → W p l e room_1 s m #[Value.ref b] below meth c H locs 34 14336 (lw_Z below #[Value.ref b] s) (F0 m 553 ls [])) : ∀ (H : Heap) (locs : List Loc) (ls : Array Slot), wtInv s dC dI cI cZ cL q qm H locs → lv_has ls 4 [(0, .ref b), (1, .ref (q 0)), (2, .ref (qm 0)), (3, .int (nI i))] → W p l e room_1 s m #[Value.ref b] below meth c H locs 34 14336 (lw_Z below #[Value.ref b] s) (F0 m 379 ls []) := by
  obtain ⟨hx, hb, hr, hml, hown0, hts, hX, hbl, hlocks, hgv⟩ := id C0
  have hown : s.vm.findClass RL = some m.cls := hown0
  have ht : ∀ w ∈ tb, w.before _ s = true := fun w h => hts w (tb_in w h)
  have hA : ∀ a : Nat, s.heap.size ≤ a → (fun a : Nat => s.heap.size ≤ a) a := fun _ h => h
  have hbA : ¬ (fun a : Nat => s.heap.size ≤ a) b := Nat.not_le.mpr hbl
  intro H locs ls hv hl
  obtain ⟨ph, pa, ch, en, sz, pr, gc, gb, sc, sh, sl, ct, tok, wt, pn, lt, wp, sd, kn, co, bo, wd, zs, fp, ea, dn, cd, nx, nd, nc, al, wo, wh, pg, hP, hD, hS, hrel, hca⟩ := hv
  have hrel' := hrel
  obtain ⟨⟨hm8, hzw, htr, hsz24, hen, hgr, hscr, hshr, hslr⟩, hct, hs3, hts0, hzs, hwd, hph, hpa, hch, hfp, hen0⟩ := hrel'
  have hz1 : ∀ k, k < pr → 1 ≤ zs k := fun k hk => (hzw k hk).1
  rcases bool4 (a := decide (¬ wt_rng (xs (i + 1)) ct = 0)) (b := decide (¬ wt_rng (xs (i + 2)) 4 = 0)) (c := decide (¬ wt_rng (xs (i + 3)) 3 = 0)) (d := decide (¬ wt_rng (xs (i + 4)) 10000 = 0)) with hbad | ⟨h1, h2, h3, h4⟩
  · skip
    refine lv_aload_n hx hb dL_law_379 rfl (lv_at hl 1 rfl) ?_
    refine lv_aload_n hx hb dL_law_380 rfl (lv_at hl 0 rfl) ?_
    refine lv_iload_n hx hb dL_law_381 rfl (lv_at hl 3 rfl) ?_
    refine lv_iconst (v := nI 1) hx hb dL_law_382 (by decide) ?_
    refine wt_iadd hx hb dL_law_383 ?_
    refine wt_sld hx hb hX hbl hbA hS (k := i + 1) (by omega) (by omega) (v := xs (i + 1)) rfl dL_law_384 ?_
    refine lv_aload_n hx hb dL_law_385 rfl (lv_at hl 0 rfl) ?_
    refine lv_iload_n hx hb dL_law_386 rfl (lv_at hl 3 rfl) ?_
    refine lv_iconst (v := nI 2) hx hb dL_law_387 (by decide) ?_
    refine wt_iadd hx hb dL_law_388 ?_
    refine wt_sld hx hb hX hbl hbA hS (k := i + 2) (by omega) (by omega) (v := xs (i + 2)) rfl dL_law_389 ?_
    refine lv_aload_n hx hb dL_law_390 rfl (lv_at hl 0 rfl) ?_
    refine lv_iload_n hx hb dL_law_391 rfl (lv_at hl 3 rfl) ?_
    refine lv_iconst (v := nI 3) hx hb dL_law_392 (by decide) ?_
    refine wt_iadd hx hb dL_law_393 ?_
    refine wt_sld hx hb hX hbl hbA hS (k := i + 3) (by omega) (by omega) (v := xs (i + 3)) rfl dL_law_394 ?_
    refine lv_aload_n hx hb dL_law_395 rfl (lv_at hl 0 rfl) ?_
    refine lv_iload_n hx hb dL_law_396 rfl (lv_at hl 3 rfl) ?_
    refine lv_iconst (v := nI 4) hx hb dL_law_397 (by decide) ?_
    refine wt_iadd hx hb dL_law_398 ?_
    refine wt_sld hx hb hX hbl hbA hS (k := i + 4) (by omega) (by omega) (v := xs (i + 4)) rfl dL_law_399 ?_
    refine wt_roi (va_runV (As := [.int (xs (i + 1)), .int (xs (i + 2)), .int (xs (i + 3)), .int (xs (i + 4))]) (rest := []) ⟨hx, hb, hml, hown, ht⟩ (c_X_sound_0 l dC dI cI cZ cL q ph pa ch en sz pr gc gb sc sh sl ct tok wt pn lt wp sd (xs (i + 1)) (xs (i + 2)) (xs (i + 3)) (xs (i + 4)) hbad hct) (cwV 4 ht (good_V m_247 m_248 m_249 m_1 m_250) rfl rfl rfl (by decide +kernel) ⟨Nat.le_of_ble_eq_true rfl, Nat.le_of_ble_eq_true rfl⟩) (wt_preV hK hN (hP.sub [0, 1, 2, 3, 4, 5, 6, 7, 8, 9, 10, 11, 12, 13, 14, 15, 16, 17] rfl) (va_recv hK hP (ci := 0) (q0 := 0) rfl rfl)) rfl rfl hl.1 rfl (lv_room (Nat.le_of_ble_eq_true rfl)) dL_law_400 ⟨Nat.le_of_ble_eq_true rfl, Nat.le_of_ble_eq_true rfl⟩) ?_
    refine lv_aload_n hx hb dL_law_403 rfl (lv_at hl 2 rfl) ?_
    refine lv_aload_n hx hb dL_law_404 rfl (lv_at hl 0 rfl) ?_
    refine lv_iload_n hx hb dL_law_405 rfl (lv_at hl 3 rfl) ?_
    refine lv_iconst (v := nI 1) hx hb dL_law_406 (by decide) ?_
    refine wt_iadd hx hb dL_law_407 ?_
    refine wt_sld hx hb hX hbl hbA hS (k := i + 1) (by omega) (by omega) (v := xs (i + 1)) rfl dL_law_408 ?_
    refine lv_aload_n hx hb dL_law_409 rfl (lv_at hl 0 rfl) ?_
    refine lv_iload_n hx hb dL_law_410 rfl (lv_at hl 3 rfl) ?_
    refine lv_iconst (v := nI 2) hx hb dL_law_411 (by decide) ?_
    refine wt_iadd hx hb dL_law_412 ?_
    refine wt_sld hx hb hX hbl hbA hS (k := i + 2) (by omega) (by omega) (v := xs (i + 2)) rfl dL_law_413 ?_
    refine lv_aload_n hx hb dL_law_414 rfl (lv_at hl 0 rfl) ?_
    refine lv_iload_n hx hb dL_law_415 rfl (lv_at hl 3 rfl) ?_
    refine lv_iconst (v := nI 3) hx hb dL_law_416 (by decide) ?_
    refine wt_iadd hx hb dL_law_417 ?_
    refine wt_sld hx hb hX hbl hbA hS (k := i + 3) (by omega) (by omega) (v := xs (i + 3)) rfl dL_law_418 ?_
    refine lv_aload_n hx hb dL_law_419 rfl (lv_at hl 0 rfl) ?_
    refine lv_iload_n hx hb dL_law_420 rfl (lv_at hl 3 rfl) ?_
    refine lv_iconst (v := nI 4) hx hb dL_law_421 (by decide) ?_
    refine wt_iadd hx hb dL_law_422 ?_
    refine wt_sld hx hb hX hbl hbA hS (k := i + 4) (by omega) (by omega) (v := xs (i + 4)) rfl dL_law_423 ?_
    refine wt_roi (va_runV (As := [.int (xs (i + 1)), .int (xs (i + 2)), .int (xs (i + 3)), .int (xs (i + 4))]) (rest := [.int (nI 0)]) ⟨hx, hb, hml, hown, ht⟩ (c_M_sound_0 l dC dI cI cZ cL qm kn co bo pr wd zs fp sh sl ct sc ea dn cd nx nd nc al wo wh (xs (i + 1)) (xs (i + 2)) (xs (i + 3)) (xs (i + 4)) hbad hct) (cwV 4 ht (good_V m_510 m_511 m_512 m_7 m_513) rfl rfl rfl (by decide +kernel) ⟨Nat.le_of_ble_eq_true rfl, Nat.le_of_ble_eq_true rfl⟩) (wt_preV hK hN (hP.sub [18, 19, 20, 21, 22, 23, 24, 25, 26, 27, 28, 29, 30, 31, 32, 33] rfl) (va_recv hK hP (ci := 5) (q0 := 18) rfl rfl)) rfl rfl hl.1 rfl (lv_room (Nat.le_of_ble_eq_true rfl)) dL_law_424 ⟨Nat.le_of_ble_eq_true rfl, Nat.le_of_ble_eq_true rfl⟩) ?_
    refine lv_icmp_eq (tgt := 553) hx hb dL_law_427 (by decide) (fun _ => ?_) (fun hne => absurd (rfl) hne)
    have hr9 : rel ph pa ch en sz gc gb sc sh sl ct kn co bo pr wd zs fp pg := hrel
    exact K H locs ls ⟨ph, pa, ch, en, sz, pr, gc, gb, sc, sh, sl, ct, tok, wt, pn, lt, wp, sd, kn, co, bo, wd, zs, fp, ea, dn, cd, nx, nd, nc, al, wo, wh, pg, hP, hD, hS, hr9, hca⟩ hl
  · skip
    obtain ⟨tt, htt, e1⟩ := wt_rng_of (n := ct) (by omega) (of_decide_eq_true h1)
    obtain ⟨pp, hpp, e2⟩ := wt_rng_of (n := 4) (by decide) (of_decide_eq_true h2)
    obtain ⟨ss, hss, e3⟩ := wt_rng_of (n := 3) (by decide) (of_decide_eq_true h3)
    refine lv_aload_n hx hb dL_law_379 rfl (lv_at hl 1 rfl) ?_
    refine lv_aload_n hx hb dL_law_380 rfl (lv_at hl 0 rfl) ?_
    refine lv_iload_n hx hb dL_law_381 rfl (lv_at hl 3 rfl) ?_
    refine lv_iconst (v := nI 1) hx hb dL_law_382 (by decide) ?_
    refine wt_iadd hx hb dL_law_383 ?_
    refine wt_sld hx hb hX hbl hbA hS (k := i + 1) (by omega) (by omega) (v := nI tt) e1 dL_law_384 ?_
    refine lv_aload_n hx hb dL_law_385 rfl (lv_at hl 0 rfl) ?_
    refine lv_iload_n hx hb dL_law_386 rfl (lv_at hl 3 rfl) ?_
    refine lv_iconst (v := nI 2) hx hb dL_law_387 (by decide) ?_
    refine wt_iadd hx hb dL_law_388 ?_
    refine wt_sld hx hb hX hbl hbA hS (k := i + 2) (by omega) (by omega) (v := nI pp) e2 dL_law_389 ?_
    refine lv_aload_n hx hb dL_law_390 rfl (lv_at hl 0 rfl) ?_
    refine lv_iload_n hx hb dL_law_391 rfl (lv_at hl 3 rfl) ?_
    refine lv_iconst (v := nI 3) hx hb dL_law_392 (by decide) ?_
    refine wt_iadd hx hb dL_law_393 ?_
    refine wt_sld hx hb hX hbl hbA hS (k := i + 3) (by omega) (by omega) (v := nI ss) e3 dL_law_394 ?_
    refine lv_aload_n hx hb dL_law_395 rfl (lv_at hl 0 rfl) ?_
    refine lv_iload_n hx hb dL_law_396 rfl (lv_at hl 3 rfl) ?_
    refine lv_iconst (v := nI 4) hx hb dL_law_397 (by decide) ?_
    refine wt_iadd hx hb dL_law_398 ?_
    refine wt_sld hx hb hX hbl hbA hS (k := i + 4) (by omega) (by omega) (v := xs (i + 4)) rfl dL_law_399 ?_
    refine wt_cuti (wc := (wX cI cZ cL q ph pa ch en sz pr gc gb sc sh sl ct tok wt pn lt wp sd)) (w1 := (wX cI cZ cL q ph pa ch en sz pr gc gb (upd sc (tt * 12 + pp * 3 + ss) (xs (i + 4))) sh sl ct tok wt pn lt wp false)) (wr := (wM cI cZ cL qm kn co bo pr wd zs fp sh sl ct sc ea dn cd nx nd nc al wo wh)) (w2 := (wX cI cZ cL q ph pa ch en sz pr gc gb (upd sc (tt * 12 + pp * 3 + ss) (xs (i + 4))) sh sl ct tok wt pn lt wp false) ++ (wM cI cZ cL qm kn co bo pr wd zs fp sh sl ct sc ea dn cd nx nd nc al wo wh)) (va_runV (As := [.int (nI tt), .int (nI pp), .int (nI ss), .int (xs (i + 4))]) (rest := []) ⟨hx, hb, hml, hown, ht⟩ (c_X_sound_1 l dC dI cI cZ cL q H.size ph pa ch en sz pr gc gb sc sh sl ct tok wt pn lt wp sd tt pp ss (xs (i + 4)) htt hct hpp hss (of_decide_eq_true h4)) (cwV 4 ht (good_V m_247 m_248 m_249 m_1 m_250) rfl rfl rfl (by decide +kernel) ⟨Nat.le_of_ble_eq_true rfl, Nat.le_of_ble_eq_true rfl⟩) (wt_preVw hK hN (hP.sub [0, 1, 2, 3, 4, 5, 6, 7, 8, 9, 10, 11, 12, 13, 14, 15, 16, 17] rfl) (hD.sub [0, 1, 2, 3, 4, 5, 6, 7, 8, 9, 10, 11, 12, 13, 14, 15, 16, 17] (by decide) rfl) (va_recv hK hP (ci := 0) (q0 := 0) rfl rfl)) rfl rfl hl.1 rfl (lv_room (Nat.le_of_ble_eq_true rfl)) dL_law_400 ⟨Nat.le_of_ble_eq_true rfl, Nat.le_of_ble_eq_true rfl⟩) hP hD hS hA [0, 1, 2, 3, 4, 5, 6, 7, 8, 9, 10, 11, 12, 13, 14, 15, 16, 17] [18, 19, 20, 21, 22, 23, 24, 25, 26, 27, 28, 29, 30, 31, 32, 33] rfl rfl (by decide) (by decide) [16, 17, 18, 19, 20, 21, 22, 23, 24, 25, 26, 27, 28, 29, 30, 31, 32, 33, 0, 1, 2, 3, 4, 5, 6, 7, 8, 9, 10, 11, 12, 13, 14, 15] (by decide) rfl (fun H locs hP hD hS => ?_)
    refine W.widen (k := 34) (n := 14336) (Nat.le_of_ble_eq_true rfl) (Nat.le_of_ble_eq_true rfl) ?_
    refine lv_aload_n hx hb dL_law_403 rfl (lv_at hl 2 rfl) ?_
    refine lv_aload_n hx hb dL_law_404 rfl (lv_at hl 0 rfl) ?_
    refine lv_iload_n hx hb dL_law_405 rfl (lv_at hl 3 rfl) ?_
    refine lv_iconst (v := nI 1) hx hb dL_law_406 (by decide) ?_
    refine wt_iadd hx hb dL_law_407 ?_
    refine wt_sld hx hb hX hbl hbA hS (k := i + 1) (by omega) (by omega) (v := nI tt) e1 dL_law_408 ?_
    refine lv_aload_n hx hb dL_law_409 rfl (lv_at hl 0 rfl) ?_
    refine lv_iload_n hx hb dL_law_410 rfl (lv_at hl 3 rfl) ?_
    refine lv_iconst (v := nI 2) hx hb dL_law_411 (by decide) ?_
    refine wt_iadd hx hb dL_law_412 ?_
    refine wt_sld hx hb hX hbl hbA hS (k := i + 2) (by omega) (by omega) (v := nI pp) e2 dL_law_413 ?_
    refine lv_aload_n hx hb dL_law_414 rfl (lv_at hl 0 rfl) ?_
    refine lv_iload_n hx hb dL_law_415 rfl (lv_at hl 3 rfl) ?_
    refine lv_iconst (v := nI 3) hx hb dL_law_416 (by decide) ?_
    refine wt_iadd hx hb dL_law_417 ?_
    refine wt_sld hx hb hX hbl hbA hS (k := i + 3) (by omega) (by omega) (v := nI ss) e3 dL_law_418 ?_
    refine lv_aload_n hx hb dL_law_419 rfl (lv_at hl 0 rfl) ?_
    refine lv_iload_n hx hb dL_law_420 rfl (lv_at hl 3 rfl) ?_
    refine lv_iconst (v := nI 4) hx hb dL_law_421 (by decide) ?_
    refine wt_iadd hx hb dL_law_422 ?_
    refine wt_sld hx hb hX hbl hbA hS (k := i + 4) (by omega) (by omega) (v := xs (i + 4)) rfl dL_law_423 ?_
    refine wt_cuti (wc := (wM cI cZ cL qm kn co bo pr wd zs fp sh sl ct sc ea dn cd nx nd nc al wo wh)) (w1 := (wM cI cZ cL qm kn co bo pr wd zs fp sh sl ct (upd sc (12 * tt + 3 * pp + ss) (xs (i + 4))) ea dn cd nx nd nc al wo wh)) (wr := (wX cI cZ cL q ph pa ch en sz pr gc gb (upd sc (tt * 12 + pp * 3 + ss) (xs (i + 4))) sh sl ct tok wt pn lt wp false)) (w2 := (wX cI cZ cL q ph pa ch en sz pr gc gb (upd sc (tt * 12 + pp * 3 + ss) (xs (i + 4))) sh sl ct tok wt pn lt wp false) ++ (wM cI cZ cL qm kn co bo pr wd zs fp sh sl ct (upd sc (12 * tt + 3 * pp + ss) (xs (i + 4))) ea dn cd nx nd nc al wo wh)) (va_runV (As := [.int (nI tt), .int (nI pp), .int (nI ss), .int (xs (i + 4))]) (rest := [.int (nI 1)]) ⟨hx, hb, hml, hown, ht⟩ (c_M_sound_1 l dC dI cI cZ cL qm H.size kn co bo pr wd zs fp sh sl ct sc ea dn cd nx nd nc al wo wh tt pp ss (xs (i + 4)) htt hct hpp hss (of_decide_eq_true h4)) (cwV 4 ht (good_V m_510 m_511 m_512 m_7 m_513) rfl rfl rfl (by decide +kernel) ⟨Nat.le_of_ble_eq_true rfl, Nat.le_of_ble_eq_true rfl⟩) (wt_preVw hK hN (hP.sub [18, 19, 20, 21, 22, 23, 24, 25, 26, 27, 28, 29, 30, 31, 32, 33] rfl) (hD.sub [18, 19, 20, 21, 22, 23, 24, 25, 26, 27, 28, 29, 30, 31, 32, 33] (by decide) rfl) (va_recv hK hP (ci := 5) (q0 := 18) rfl rfl)) rfl rfl hl.1 rfl (lv_room (Nat.le_of_ble_eq_true rfl)) dL_law_424 ⟨Nat.le_of_ble_eq_true rfl, Nat.le_of_ble_eq_true rfl⟩) hP hD hS hA [18, 19, 20, 21, 22, 23, 24, 25, 26, 27, 28, 29, 30, 31, 32, 33] [0, 1, 2, 3, 4, 5, 6, 7, 8, 9, 10, 11, 12, 13, 14, 15, 16, 17] rfl rfl (by decide) (by decide) [0, 1, 2, 3, 4, 5, 6, 7, 8, 9, 10, 11, 12, 13, 14, 15, 16, 17, 18, 19, 20, 21, 22, 23, 24, 25, 26, 27, 28, 29, 30, 31, 32, 33] (by decide) rfl (fun H locs hP hD hS => ?_)
    refine W.widen (k := 34) (n := 14336) (Nat.le_of_ble_eq_true rfl) (Nat.le_of_ble_eq_true rfl) ?_
    refine lv_icmp_eq (tgt := 553) hx hb dL_law_427 (by decide) (fun _ => ?_) (fun hne => absurd (rfl) hne)
    rw [show tt * 12 + pp * 3 + ss = 12 * tt + 3 * pp + ss by omega] at hP hD
    have hr9 : rel ph pa ch en sz gc gb (upd sc (12 * tt + 3 * pp + ss) (xs (i + 4))) sh sl ct kn co bo pr wd zs fp pg := rel_sc hrel (upd_rng hscr (rng_of (of_decide_eq_true h4)))
    exact K H locs ls ⟨ph, pa, ch, en, sz, pr, gc, gb, (upd sc (12 * tt + 3 * pp + ss) (xs (i + 4))), sh, sl, ct, tok, wt, pn, lt, wp, false, kn, co, bo, wd, zs, fp, ea, dn, cd, nx, nd, nc, al, wo, wh, pg, hP, hD, hS, hr9, (fun z => absurd z (by decide))⟩ hl
