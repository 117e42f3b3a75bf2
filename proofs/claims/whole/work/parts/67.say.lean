/-! say: a pronunciation more -/
/-- the phones with those of the new one -/
def pg3 (pg : Nat → Nat) (mn p q r : Nat) : Nat → Nat := va_up (va_up (va_up pg (3 * mn) p) (3 * mn + 1) q) (3 * mn + 2) r
theorem pg3_old {pg : Nat → Nat} {mn p q r j : Nat} (h : j < 3 * mn) : pg3 pg mn p q r j = pg j := by
  unfold pg3; rw [va_up_ne _ _ (by omega), va_up_ne _ _ (by omega), va_up_ne _ _ (by omega)]
theorem pg3_0 {pg : Nat → Nat} {mn p q r : Nat} : pg3 pg mn p q r (3 * mn + 0) = p := by
  unfold pg3; rw [va_up_ne _ _ (by omega), va_up_ne _ _ (by omega)]; exact va_up_self _ _ _
theorem pg3_1 {pg : Nat → Nat} {mn p q r : Nat} : pg3 pg mn p q r (3 * mn + 1) = q := by
  unfold pg3; rw [va_up_ne _ _ (by omega)]; exact va_up_self _ _ _
theorem pg3_2 {pg : Nat → Nat} {mn p q r : Nat} : pg3 pg mn p q r (3 * mn + 2) = r := va_up_self _ _ _
section SAY
variable {ph pa ch : Nat → Nat} {en : Nat → Bool} {sz : Nat} {gc gb sc sh sl : Nat → Int32} {ct : Nat} {kn : Nat → Bool} {co bo : Nat → Int32} {mn : Nat} {wd zs : Nat → Nat} {fp : Nat → Int32} {pg : Nat → Nat}
theorem nd_old (hz : ∀ k, zs k ≤ 3) {p q r k : Nat} (hk : k < mn) : ∀ i, i ≤ zs k → tr_nd ch (pg3 pg mn p q r) k i = tr_nd ch pg k i := fun i hi => tr_same i (fun a ha => pg3_old (by have := hz k; omega))
/-- an empty path more -/
theorem tr_start (h : tr_ok mn zs pg ph pa ch sz) (hz : ∀ k, zs k ≤ 3) (p q r : Nat) : tr_ok (mn + 1) (va_up zs mn 0) (pg3 pg mn p q r) ph pa ch sz := by
  have zk : ∀ k, k < mn → va_up zs mn 0 k = zs k := fun k hk => va_up_ne zs 0 (by omega)
  refine ⟨fun k hk => ?_, fun n h1 h2 => ?_, h.2.2⟩
  · by_cases hkm : k = mn
    · subst hkm
      rw [va_up_self]
      exact ⟨by omega, fun i hi => absurd hi (by omega)⟩
    · have hk' : k < mn := by omega
      rw [zk k hk']
      refine ⟨(h.1 k hk').1, fun i hi => ?_⟩
      rw [nd_old hz hk' (i + 1) hi, nd_old hz hk' i (by omega), pg3_old (by have := hz k; omega)]
      exact (h.1 k hk').2 i hi
  · obtain ⟨q1, q2, k, i, hk, hi, e⟩ := h.2.1 n h1 h2
    exact ⟨q1, q2, k, i, by omega, by rw [zk k hk]; exact hi, by rw [nd_old hz hk (i + 1) hi]; exact e⟩
theorem sum_start (h : tr_sum mn zs pg ch sz) (hz : ∀ k, zs k ≤ 3) (p q r : Nat) : tr_sum (mn + 1) (va_up zs mn 0) (pg3 pg mn p q r) ch sz := by
  have zk : ∀ k, k < mn → va_up zs mn 0 k = zs k := fun k hk => va_up_ne zs 0 (by omega)
  intro f
  rw [← h f]
  show sm _ mn + sm _ (va_up zs mn 0 mn) = _
  rw [va_up_self]
  show sm _ mn + 0 = _
  rw [Nat.add_zero]
  apply sm_congr
  intro k hk
  rw [zk k hk]
  apply sm_congr
  intro i hi
  rw [nd_old hz hk (i + 1) hi]
  have e : wt_fre (va_up zs mn 0) (fun j => nI (pg3 pg mn p q r j)) k (i + 1) = wt_fre zs (fun j => nI (pg j)) k (i + 1) := by
    apply fre_congr
    intro j hj
    rw [zk j (by omega), zk k hk]
    constructor
    · intro ⟨q1, q2, q3⟩
      refine ⟨q1, q2, fun a ha => ?_⟩
      have := q3 a ha
      rw [pg3_old (by have := hz j; omega), pg3_old (by have := hz k; omega)] at this
      exact this
    · intro ⟨q1, q2, q3⟩
      refine ⟨q1, q2, fun a ha => ?_⟩
      rw [pg3_old (by have := hz j; omega), pg3_old (by have := hz k; omega)]
      exact q3 a ha
  rw [e]
theorem gr_ph {ph pa ch : Nat → Nat} {sz n p : Nat} (h : ∀ j, ph j < 4) (hp : p < 4) : ∀ j, (wt_gr ph pa ch sz n p).1 j < 4 := by
  intro j
  unfold wt_gr
  split
  · show va_up ph (sz + 1) p j < 4
    unfold va_up
    split
    · exact hp
    · exact h j
  · exact h j
theorem gr_pa {ph pa ch : Nat → Nat} {sz n p : Nat} (h : ∀ j, pa j < 25) (hn : n < 25) : ∀ j, (wt_gr ph pa ch sz n p).2.1 j < 25 := by
  intro j
  unfold wt_gr
  split
  · show va_up pa (sz + 1) n j < 25
    unfold va_up
    split
    · exact hn
    · exact h j
  · exact h j
/-- the tree grown by a path of one, two or three phones: everything of it -/
def grown (mn L w : Nat) (wd zs : Nat → Nat) (pg' : Nat → Nat) (ph pa ch : Nat → Nat) (sz : Nat) (ph' pa' ch' : Nat → Nat) (sz' n' : Nat) : Prop :=
  tr_ok (mn + 1) (va_up zs mn L) pg' ph' pa' ch' sz' ∧ tr_sum (mn + 1) (va_up zs mn L) pg' ch' sz' ∧ n' = tr_nd ch' pg' mn L ∧ (∀ k i, k < mn → i ≤ zs k → tr_nd ch' pg' k i = tr_nd ch pg' k i) ∧ sz ≤ sz' ∧ sz' ≤ sz + L ∧ (∀ j, ph' j < 4) ∧ (∀ j, pa' j < 25) ∧ (∀ j, ch' j ≤ 24)
theorem gr_szle {ph pa ch : Nat → Nat} {sz n p : Nat} : sz ≤ (wt_gr ph pa ch sz n p).2.2.2.1 ∧ (wt_gr ph pa ch sz n p).2.2.2.1 ≤ sz + 1 := by
  unfold wt_gr
  split
  · exact ⟨Nat.le_succ sz, Nat.le_refl _⟩
  · exact ⟨Nat.le_refl _, Nat.le_succ sz⟩
theorem grow_step {L w : Nat} {pg' ph pa ch ph1 pa1 ch1 : Nat → Nat} {sz sz1 n1 p : Nat} (h : grown mn L w wd zs pg' ph pa ch sz ph1 pa1 ch1 sz1 n1) (hL : L < 3) (hp : p < 4) (hpn : pg' (3 * mn + L) = p) (hs : sz1 + 1 ≤ 24) :
    grown mn (L + 1) w wd zs pg' ph pa ch sz (wt_gr ph1 pa1 ch1 sz1 n1 p).1 (wt_gr ph1 pa1 ch1 sz1 n1 p).2.1 (wt_gr ph1 pa1 ch1 sz1 n1 p).2.2.1 (wt_gr ph1 pa1 ch1 sz1 n1 p).2.2.2.1 (wt_gr ph1 pa1 ch1 sz1 n1 p).2.2.2.2 := by
  obtain ⟨h1, h2, rfl, h4, h5, h6, h7, h8, h9⟩ := h
  have zL : va_up zs mn L mn = L := va_up_self zs mn L
  obtain ⟨g1, g2, g3⟩ := tr_grow h1 zL hL hp hpn
  have g4 := tr_grow_sum h1 h2 zL hL hp hpn
  rw [bx_uu] at g1 g4
  have hn : tr_nd ch1 pg' mn L ≤ sz1 := tr_le h1 (by omega) (by rw [zL]; omega)
  obtain ⟨z1, z2⟩ := gr_szle (ph := ph1) (pa := pa1) (ch := ch1) (sz := sz1) (n := tr_nd ch1 pg' mn L) (p := p)
  refine ⟨g1, g4, g2, fun k i hk hi => ?_, by omega, by omega, gr_ph h7 hp, gr_pa h8 (by omega), (gr_b h9 hs).1⟩
  rw [g3 k i (by omega) (by rw [va_up_ne zs L (by omega)]; exact hi)]
  exact h4 k i hk hi
theorem grow_0 (h : rel ph pa ch en sz gc gb sc sh sl ct kn co bo mn wd zs fp pg) (p q r w : Nat) : grown mn 0 w wd zs (pg3 pg mn p q r) ph pa ch sz ph pa ch sz 0 := by
  obtain ⟨⟨-, -, htr, -⟩, -, -, hts, hz, -, hph, hpa, hch, -⟩ := h
  exact ⟨tr_start htr hz p q r, sum_start hts hz p q r, rfl, fun _ _ _ _ => rfl, Nat.le_refl _, Nat.le_refl _, hph, hpa, hch⟩
/-- what holds behind an added pronunciation -/
theorem rel_add (h : rel ph pa ch en sz gc gb sc sh sl ct kn co bo mn wd zs fp pg) {L w p q r : Nat} (hmn : mn ≤ 7) (hL : 1 ≤ L ∧ L ≤ 3) (hw : w < 4) {ph' pa' ch' : Nat → Nat} {sz' n' : Nat} (hg : grown mn L w wd zs (pg3 pg mn p q r) ph pa ch sz ph' pa' ch' sz' n') {fp' : Nat → Int32} (hf0 : ∀ j, j < 3 * mn → fp' j = fp j) (hfn : ∀ i, i < L → fp' (3 * mn + i) = nI (pg3 pg mn p q r (3 * mn + i)) ∧ pg3 pg mn p q r (3 * mn + i) < 4) :
    rel ph' pa' ch' (va_up en (n' * 4 + w) true) sz' gc gb sc sh sl ct kn co bo (mn + 1) (va_up wd mn w) (va_up zs mn L) fp' (pg3 pg mn p q r) := by
  obtain ⟨⟨a1, a2, a3, a4, a5, a6, a7, a8, a9⟩, hct, hs3, hts, hz, hwd, hph, hpa, hch, hfp, hen0⟩ := h
  obtain ⟨g1, g2, g3, g4, g5, g6, g7, g8, g9⟩ := hg
  have zk : ∀ k, k < mn → va_up zs mn L k = zs k := fun k hk => va_up_ne zs L (by omega)
  have wk : ∀ k, k < mn → va_up wd mn w k = wd k := fun k hk => va_up_ne wd w (by omega)
  have zm : va_up zs mn L mn = L := va_up_self zs mn L
  have wm : va_up wd mn w mn = w := va_up_self wd mn w
  have hn' : 1 ≤ n' ∧ n' ≤ sz' := by
    have := (g1.1 mn (by omega)).2 (L - 1) (by rw [zm]; omega)
    rw [show L - 1 + 1 = L by omega, ← g3] at this
    exact ⟨this.2.1, this.2.2.1⟩
  refine ⟨⟨by omega, fun k hk => ?_, g1, by omega, fun n w' h1 h2 hw' => ?_, a6, a7, a8, a9⟩, hct, by omega, g2, fun k => ?_, fun k => ?_, g7, g8, g9, fun k i hk hi => ?_, fun n w' hn hw' => ?_⟩
  · by_cases hkm : k = mn
    · subst hkm; rw [zm, wm]; exact ⟨hL.1, hw⟩
    · rw [zk k (by omega), wk k (by omega)]; exact a2 k (by omega)
  · by_cases hc : n * 4 + w' = n' * 4 + w
    · have e1 : n = n' := by omega
      have e2 : w' = w := by omega
      subst e1 e2
      rw [va_up_self]
      exact ⟨fun _ => ⟨mn, by omega, wm, by rw [zm]; exact g3.symm⟩, fun _ => rfl⟩
    · rw [va_up_ne en true hc]
      have old : (∃ k, k < mn + 1 ∧ va_up wd mn w k = w' ∧ tr_nd ch' (pg3 pg mn p q r) k (va_up zs mn L k) = n) ↔ ∃ k, k < mn ∧ wd k = w' ∧ tr_nd ch pg k (zs k) = n := by
        constructor
        · intro ⟨k, hk, q1, q2⟩
          by_cases hkm : k = mn
          · subst hkm
            rw [wm] at q1
            rw [zm, ← g3] at q2
            exact absurd (by rw [q1, q2]) hc
          · have hk' : k < mn := by omega
            rw [wk k hk'] at q1
            rw [zk k hk', g4 k (zs k) hk' (Nat.le_refl _), nd_old hz hk' (zs k) (Nat.le_refl _)] at q2
            exact ⟨k, hk', q1, q2⟩
        · intro ⟨k, hk, q1, q2⟩
          exact ⟨k, by omega, by rw [wk k hk]; exact q1, by rw [zk k hk, g4 k (zs k) hk (Nat.le_refl _), nd_old hz hk (zs k) (Nat.le_refl _)]; exact q2⟩
      rw [old]
      by_cases hns : n ≤ sz
      · exact a5 n w' h1 hns hw'
      · rw [hen0 n w' (by omega) hw']
        constructor
        · intro z; exact absurd z (by decide)
        · intro ⟨k, hk, _, q2⟩
          have := tr_le a3 hk (Nat.le_refl (zs k))
          omega
  · unfold va_up
    split
    · exact hL.2
    · exact hz k
  · unfold va_up
    split
    · exact hw
    · exact hwd k
  · by_cases hkm : k = mn
    · subst hkm
      rw [zm] at hi
      exact hfn i hi
    · have hk' : k < mn := by omega
      rw [zk k hk'] at hi
      have := hz k
      rw [hf0 _ (by omega), pg3_old (by omega)]
      exact hfp k i hk' hi
  · rw [va_up_ne en true (by omega)]
    exact hen0 n w' (by omega) hw'
/-- a refused double: what the reference has written lies behind its list -/
theorem rel_dup (h : rel ph pa ch en sz gc gb sc sh sl ct kn co bo mn wd zs fp pg) {L w : Nat} (hL : L ≤ 3) (hw : w < 4) {fp' : Nat → Int32} (hf0 : ∀ j, j < 3 * mn → fp' j = fp j) : rel ph pa ch en sz gc gb sc sh sl ct kn co bo mn (va_up wd mn w) (va_up zs mn L) fp' pg := by
  obtain ⟨⟨a1, a2, a3, a4, a5, a6, a7, a8, a9⟩, hct, hs3, hts, hz, hwd, hph, hpa, hch, hfp, hen0⟩ := h
  have zk : ∀ k, k < mn → va_up zs mn L k = zs k := fun k hk => va_up_ne zs L (by omega)
  have wk : ∀ k, k < mn → va_up wd mn w k = wd k := fun k hk => va_up_ne wd w (by omega)
  refine ⟨⟨a1, fun k hk => by rw [zk k hk, wk k hk]; exact a2 k hk, ⟨fun k hk => by rw [zk k hk]; exact a3.1 k hk, fun n h1 h2 => ?_, a3.2.2⟩, a4, fun n w' h1 h2 hw' => ?_, a6, a7, a8, a9⟩, hct, hs3, fun f => ?_, fun k => ?_, fun k => ?_, hph, hpa, hch, fun k i hk hi => ?_, hen0⟩
  · obtain ⟨q1, q2, k, i, hk, hi, e⟩ := a3.2.1 n h1 h2
    exact ⟨q1, q2, k, i, hk, by rw [zk k hk]; exact hi, e⟩
  · rw [a5 n w' h1 h2 hw']
    constructor
    · intro ⟨k, hk, q1, q2⟩; exact ⟨k, hk, by rw [wk k hk]; exact q1, by rw [zk k hk]; exact q2⟩
    · intro ⟨k, hk, q1, q2⟩; rw [wk k hk] at q1; rw [zk k hk] at q2; exact ⟨k, hk, q1, q2⟩
  · rw [← hts f]
    apply sm_congr
    intro k hk
    rw [zk k hk]
    apply sm_congr
    intro i hi
    have e : wt_fre (va_up zs mn L) (fun j => nI (pg j)) k (i + 1) = wt_fre zs (fun j => nI (pg j)) k (i + 1) := by
      apply fre_congr
      intro j hj
      rw [zk j (by omega), zk k hk]
    rw [e]
  · unfold va_up
    split
    · exact hL
    · exact hz k
  · unfold va_up
    split
    · exact hw
    · exact hwd k
  · rw [zk k hk] at hi
    have := hz k
    rw [hf0 _ (by omega)]
    exact hfp k i hk hi
theorem any_iff (f : Nat → Bool) : ∀ (r i : Nat), wt_any f r i = true ↔ ∃ k, i ≤ k ∧ k < i + r ∧ f k = true
  | 0, i => ⟨fun h => absurd (show false = true from h) (by decide), fun ⟨k, h1, h2, _⟩ => absurd h2 (by omega)⟩
  | r + 1, i => by
    show (f i || wt_any f r (i + 1)) = true ↔ _
    rw [Bool.or_eq_true, any_iff f r (i + 1)]
    constructor
    · intro h
      rcases h with h | ⟨k, h1, h2, h3⟩
      · exact ⟨i, Nat.le_refl i, by omega, h⟩
      · exact ⟨k, by omega, by omega, h3⟩
    · intro ⟨k, h1, h2, h3⟩
      by_cases q : k = i
      · subst q; exact Or.inl h3
      · exact Or.inr ⟨k, by omega, by omega, h3⟩
/-- the class has it just where the reference has it -/
theorem has_dup (h : rel ph pa ch en sz gc gb sc sh sl ct kn co bo mn wd zs fp pg) {L w p q r : Nat} (hL : 1 ≤ L ∧ L ≤ 3) (hw : w < 4) {d : Nat} (hd : d ≠ 0 → grown mn L w wd zs (pg3 pg mn p q r) ph pa ch sz ph pa ch sz d) (hd2 : ∀ k, k < mn → zs k = L → (∀ a, a < L → pg (3 * k + a) = pg3 pg mn p q r (3 * mn + a)) → d = tr_nd ch pg k L)
    {fp' : Nat → Int32} (hf0 : ∀ j, j < 3 * mn → fp' j = fp j) (hfn : ∀ i, i < L → fp' (3 * mn + i) = nI (pg3 pg mn p q r (3 * mn + i)) ∧ pg3 pg mn p q r (3 * mn + i) < 4) :
    (decide (¬ d = 0) && en (d * 4 + w)) = wt_any (fun k => wt_du1 (va_up wd mn w) (va_up zs mn L) fp' mn w k) mn 0 := by
  obtain ⟨⟨a1, a2, a3, a4, a5, a6, a7, a8, a9⟩, hct, hs3, hts, hz, hwd, hph, hpa, hch, hfp, hen0⟩ := h
  have zk : ∀ k, k < mn → va_up zs mn L k = zs k := fun k hk => va_up_ne zs L (by omega)
  have wk : ∀ k, k < mn → va_up wd mn w k = wd k := fun k hk => va_up_ne wd w (by omega)
  have zm : va_up zs mn L mn = L := va_up_self zs mn L
  apply Bool.eq_iff_iff.mpr
  rw [any_iff, Bool.and_eq_true, decide_eq_true_eq]
  have du : ∀ k, k < mn → (wt_du1 (va_up wd mn w) (va_up zs mn L) fp' mn w k = true ↔ wd k = w ∧ zs k = L ∧ ∀ a, a < L → pg (3 * k + a) = pg3 pg mn p q r (3 * mn + a)) := by
    intro k hk
    unfold wt_du1
    rw [Bool.and_eq_true, Bool.and_eq_true, decide_eq_true_eq, decide_eq_true_eq, beg_iff, zk k hk, wk k hk, zm]
    constructor
    · intro ⟨q1, q2, q3, q4, q5⟩
      refine ⟨q1, q2, fun a ha => ?_⟩
      have e := q5 a (by omega)
      have hp := hfp k a hk (by omega)
      have := hz k
      rw [hf0 _ (by omega), hp.1, (hfn a ha).1] at e
      exact nI_inj (by omega) (by have := (hfn a ha).2; omega) e
    · intro ⟨q1, q2, q3⟩
      refine ⟨q1, q2, Nat.le_refl _, by omega, fun a ha => ?_⟩
      have hp := hfp k a hk ha
      have := hz k
      rw [hf0 _ (by omega), hp.1, (hfn a (by omega)).1, q3 a (by omega)]
  constructor
  · intro ⟨hd0, he⟩
    obtain ⟨g1, g2, g3, g4, -⟩ := hd hd0
    have hds : 1 ≤ d ∧ d ≤ sz := by
      have := (g1.1 mn (by omega)).2 (L - 1) (by rw [zm]; omega)
      rw [show L - 1 + 1 = L by omega, ← g3] at this
      exact ⟨this.2.1, this.2.2.1⟩
    obtain ⟨k, hk, q1, q2⟩ := (a5 d w hds.1 hds.2 hw).mp he
    have e : tr_nd ch (pg3 pg mn p q r) k (zs k) = tr_nd ch (pg3 pg mn p q r) mn L := by rw [nd_old hz hk _ (Nat.le_refl _), q2, g3]
    obtain ⟨u1, u2⟩ := tr_uniq g1 (show k < mn + 1 by omega) (show mn < mn + 1 by omega) (zs k) L (by rw [zk k hk]; exact Nat.le_refl _) (by rw [zm]; exact Nat.le_refl _) e
    refine ⟨k, Nat.zero_le k, by omega, (du k hk).mpr ⟨q1, u1, fun a ha => ?_⟩⟩
    have := u2 a (by omega)
    rw [pg3_old (by have := hz k; omega)] at this
    exact this
  · intro ⟨k, _, hk, hq⟩
    obtain ⟨q1, q2, q3⟩ := (du k (by omega)).mp hq
    have e := hd2 k (by omega) q2 q3
    have hk' : k < mn := by omega
    have hn := (a3.1 k hk').2 (L - 1) (by omega)
    rw [show L - 1 + 1 = L by omega, ← e] at hn
    exact ⟨by omega, (a5 d w hn.2.1 hn.2.2.1 hw).mpr ⟨k, hk', q1, by rw [q2]; exact e.symm⟩⟩
end SAY
