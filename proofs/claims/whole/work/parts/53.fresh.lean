/-! beginnings that are the first of their kind, and sums over nodes -/
theorem up_congr {σ : Type} {f g : Nat → σ → σ} : ∀ (r i : Nat) (x : σ), (∀ j y, i ≤ j → j < i + r → f j y = g j y) → wt_up f r i x = wt_up g r i x
  | 0, _, _, _ => rfl
  | r + 1, i, x, h => by
    show wt_up f r (i + 1) (f i x) = wt_up g r (i + 1) (g i x)
    rw [h i x (Nat.le_refl i) (by omega)]
    exact up_congr r (i + 1) (g i x) (fun j y h1 h2 => h j y (by omega) (by omega))
theorem bg_false (fp : Nat → Int32) (j k : Nat) : ∀ r i, wt_bg fp j k r i false = false
  | 0, _ => rfl
  | r + 1, i => by
    show (if false = true then wt_bg fp j k r (i + 1) (decide (fp (3 * j + i) = fp (3 * k + i))) else false) = false
    rw [if_neg (by decide)]
theorem bg_iff (fp : Nat → Int32) (j k : Nat) : ∀ r i, wt_bg fp j k r i true = true ↔ ∀ a, a < r → fp (3 * j + (i + a)) = fp (3 * k + (i + a))
  | 0, _ => ⟨fun _ a h => absurd h (Nat.not_lt_zero a), fun _ => rfl⟩
  | r + 1, i => by
    show (if true = true then wt_bg fp j k r (i + 1) (decide (fp (3 * j + i) = fp (3 * k + i))) else true) = true ↔ _
    rw [if_pos rfl]
    by_cases h : fp (3 * j + i) = fp (3 * k + i)
    · rw [decide_eq_true h, bg_iff fp j k r (i + 1)]
      constructor
      · intro q a ha
        cases a with
        | zero => exact h
        | succ a => rw [show i + (a + 1) = i + 1 + a by omega]; exact q a (by omega)
      · intro q a ha
        rw [show i + 1 + a = i + (a + 1) by omega]; exact q (a + 1) (by omega)
    · rw [decide_eq_false h, bg_false]
      constructor
      · intro q; cases q
      · intro q; exact absurd (q 0 (by omega)) h
theorem beg_iff {zs : Nat → Nat} {fp : Nat → Int32} {j k n : Nat} : wt_beg zs fp j k n = true ↔ n ≤ zs j ∧ n ≤ zs k ∧ ∀ a, a < n → fp (3 * j + a) = fp (3 * k + a) := by
  unfold wt_beg
  by_cases h : n ≤ zs j ∧ n ≤ zs k
  · rw [decide_eq_true h.1, decide_eq_true h.2]
    show wt_bg fp j k n 0 true = true ↔ _
    rw [bg_iff]
    constructor
    · intro q; exact ⟨h.1, h.2, fun a ha => by have := q a ha; rw [Nat.zero_add] at this; exact this⟩
    · intro q a ha; rw [Nat.zero_add]; exact q.2.2 a ha
  · have : (decide (n ≤ zs j) && decide (n ≤ zs k)) = false := by
      cases hd : (decide (n ≤ zs j) && decide (n ≤ zs k)) with
      | false => rfl
      | true =>
        rw [Bool.and_eq_true, decide_eq_true_eq, decide_eq_true_eq] at hd
        exact absurd hd h
    rw [this, bg_false]
    constructor
    · intro q; cases q
    · intro q; exact absurd ⟨q.1, q.2.1⟩ h
theorem up_all (g : Nat → Bool) : ∀ (r i : Nat) (b : Bool), wt_up (fun j b => b && !(g j)) r i b = true ↔ b = true ∧ ∀ a, a < r → g (i + a) = false
  | 0, i, b => ⟨fun h => ⟨h, fun a ha => absurd ha (Nat.not_lt_zero a)⟩, fun h => h.1⟩
  | r + 1, i, b => by
    show wt_up (fun j b => b && !(g j)) r (i + 1) (b && !(g i)) = true ↔ _
    rw [up_all g r (i + 1), Bool.and_eq_true, Bool.not_eq_true']
    constructor
    · intro ⟨⟨h1, h2⟩, h3⟩
      refine ⟨h1, fun a ha => ?_⟩
      cases a with
      | zero => exact h2
      | succ a => rw [show i + (a + 1) = i + 1 + a by omega]; exact h3 a (by omega)
    · intro ⟨h1, h2⟩
      refine ⟨⟨h1, h2 0 (by omega)⟩, fun a ha => ?_⟩
      rw [show i + 1 + a = i + (a + 1) by omega]; exact h2 (a + 1) (by omega)
theorem fre_iff {zs : Nat → Nat} {fp : Nat → Int32} {k n : Nat} : wt_fre zs fp k n = true ↔ ∀ j, j < k → ¬ (n ≤ zs j ∧ n ≤ zs k ∧ ∀ a, a < n → fp (3 * j + a) = fp (3 * k + a)) := by
  unfold wt_fre
  rw [up_all (fun j => wt_beg zs fp j k n)]
  constructor
  · intro h j hj q
    have e := h.2 j hj
    rw [Nat.zero_add] at e
    have e2 : wt_beg zs fp j k n = false := e
    rw [beg_iff.mpr q] at e2
    cases e2
  · intro h
    refine ⟨rfl, fun a ha => ?_⟩
    rw [Nat.zero_add]
    cases hb : wt_beg zs fp a k n with
    | false => rfl
    | true => exact absurd (beg_iff.mp hb) (h a ha)
theorem fre_congr {zs zs' : Nat → Nat} {fp fp' : Nat → Int32} {k n : Nat} (h : ∀ j, j < k → ((n ≤ zs j ∧ n ≤ zs k ∧ ∀ a, a < n → fp (3 * j + a) = fp (3 * k + a)) ↔ (n ≤ zs' j ∧ n ≤ zs' k ∧ ∀ a, a < n → fp' (3 * j + a) = fp' (3 * k + a)))) : wt_fre zs fp k n = wt_fre zs' fp' k n := by
  apply Bool.eq_iff_iff.mpr
  rw [fre_iff, fre_iff]
  constructor
  · intro q j hj z; exact q j hj ((h j hj).mpr z)
  · intro q j hj z; exact q j hj ((h j hj).mp z)
theorem nI_inj {a b : Nat} (ha : a < 2 ^ 31) (hb : b < 2 ^ 31) (h : nI a = nI b) : a = b := (nI_eq ha hb).mp h
/-- the sum over the first beginnings of their kind is the sum over the nodes -/
def tr_sum (M : Nat) (zs pn ch : Nat → Nat) (sz : Nat) : Prop :=
  ∀ f : Nat → Nat, sm (fun k => sm (fun i => if wt_fre zs (fun j => nI (pn j)) k (i + 1) = true then f (tr_nd ch pn k (i + 1)) else 0) (zs k)) M = sm (fun n => f (n + 1)) sz
theorem tr_grow_sum {K : Nat} {zs pn ph pa ch : Nat → Nat} {sz j p : Nat} (h : tr_ok (K + 1) zs pn ph pa ch sz) (hs : tr_sum (K + 1) zs pn ch sz) (hj : zs K = j) (hj3 : j < 3) (hp : p < 4) (hpn : pn (3 * K + j) = p) :
    tr_sum (K + 1) (va_up zs K (j + 1)) pn (wt_gr ph pa ch sz (tr_nd ch pn K j) p).2.2.1 (wt_gr ph pa ch sz (tr_nd ch pn K j) p).2.2.2.1 := by
  have zk : ∀ k, k ≠ K → va_up zs K (j + 1) k = zs k := fun k hk => va_up_ne zs (j + 1) hk
  have zK : va_up zs K (j + 1) K = j + 1 := va_up_self zs K (j + 1)
  obtain ⟨h', hn', keep⟩ := tr_grow h hj hj3 hp hpn
  have hch : (wt_gr ph pa ch sz (tr_nd ch pn K j) p).2.2.1 = (wt_gr ph pa ch sz (tr_nd ch pn K j) p).2.2.1 := rfl
  generalize hC : (wt_gr ph pa ch sz (tr_nd ch pn K j) p).2.2.1 = ch' at h' hn' keep
  generalize hS : (wt_gr ph pa ch sz (tr_nd ch pn K j) p).2.2.2.1 = sz' at h'
  generalize hP : (wt_gr ph pa ch sz (tr_nd ch pn K j) p).1 = ph' at h'
  generalize hA : (wt_gr ph pa ch sz (tr_nd ch pn K j) p).2.1 = pa' at h'
  have frk : ∀ k i, k < K → wt_fre (va_up zs K (j + 1)) (fun j => nI (pn j)) k i = wt_fre zs (fun j => nI (pn j)) k i := by
    intro k i hk
    apply fre_congr
    intro a ha
    rw [zk a (by omega), zk k (by omega)]
  have frK : ∀ i, i ≤ j → wt_fre (va_up zs K (j + 1)) (fun j => nI (pn j)) K i = wt_fre zs (fun j => nI (pn j)) K i := by
    intro i hi
    apply fre_congr
    intro a ha
    rw [zk a (by omega), zK, hj]
    constructor
    · intro q; exact ⟨q.1, hi, q.2.2⟩
    · intro q; exact ⟨q.1, by omega, q.2.2⟩
  -- fresh just where the node is new
  have key : wt_fre (va_up zs K (j + 1)) (fun j => nI (pn j)) K (j + 1) = true ↔ ch (tr_nd ch pn K j * 4 + p) = 0 := by
    rw [fre_iff]
    constructor
    · intro q
      by_cases hc : ch (tr_nd ch pn K j * 4 + p) = 0
      · exact hc
      · exfalso
        obtain ⟨q1, q2, q3, q4⟩ := h.2.2 _ p hp hc
        obtain ⟨-, -, k, i, hk, hi, hq⟩ := h.2.1 _ (by omega) q2
        have eK : tr_nd ch' pn K (j + 1) = ch (tr_nd ch pn K j * 4 + p) := by
          rw [← hn']
          have e : wt_gr ph pa ch sz (tr_nd ch pn K j) p = (ph, pa, ch, sz, ch (tr_nd ch pn K j * 4 + p)) := if_neg hc
          rw [e]
        have ek : tr_nd ch' pn k (i + 1) = ch (tr_nd ch pn K j * 4 + p) := by rw [keep k (i + 1) hk hi]; exact hq
        have hzk : i + 1 ≤ va_up zs K (j + 1) k := by
          by_cases hkK : k = K
          · subst hkK; rw [zK]; omega
          · rw [zk k hkK]; exact hi
        obtain ⟨u1, u2⟩ := tr_uniq h' hk (by omega : K < K + 1) (i + 1) (j + 1) hzk (by rw [zK]; omega) (ek.trans eK.symm)
        have hkK : k ≠ K := fun z => by subst z; omega
        exact q k (by omega) ⟨by rw [zk k hkK]; omega, by rw [zK]; omega, fun a ha => by show nI (pn _) = nI (pn _); rw [u2 a (by omega)]⟩
    · intro hc k hk ⟨q1, q2, q3⟩
      rw [zk k (by omega)] at q1
      have e1 : tr_nd ch pn k (j + 1) = tr_nd ch pn K (j + 1) := tr_same (j + 1) (fun a ha => by
        have b1 := ((h.1 k (by omega)).2 a (by omega)).1
        have b2 : pn (3 * K + a) < 4 := by
          by_cases haj : a < j
          · exact ((h.1 K (by omega)).2 a (by omega)).1
          · rw [show a = j by omega, hpn]; exact hp
        exact nI_inj (by omega) (by omega) (q3 a ha))
      have e2 : tr_nd ch pn K (j + 1) = 0 := by
        show ch (tr_nd ch pn K j * 4 + pn (3 * K + j)) = 0
        rw [hpn]; exact hc
      have e3 := ((h.1 k (by omega)).2 j (by omega)).2.1
      omega
  intro f
  have h0 := hs f
  show sm (fun k => sm (fun i => if wt_fre (va_up zs K (j + 1)) (fun j => nI (pn j)) k (i + 1) = true then f (tr_nd ch' pn k (i + 1)) else 0) (va_up zs K (j + 1) k)) K + sm (fun i => if wt_fre (va_up zs K (j + 1)) (fun j => nI (pn j)) K (i + 1) = true then f (tr_nd ch' pn K (i + 1)) else 0) (va_up zs K (j + 1) K) = sm (fun n => f (n + 1)) sz'
  have h0' : sm (fun k => sm (fun i => if wt_fre zs (fun j => nI (pn j)) k (i + 1) = true then f (tr_nd ch pn k (i + 1)) else 0) (zs k)) K + sm (fun i => if wt_fre zs (fun j => nI (pn j)) K (i + 1) = true then f (tr_nd ch pn K (i + 1)) else 0) (zs K) = sm (fun n => f (n + 1)) sz := h0
  have e1 : sm (fun k => sm (fun i => if wt_fre (va_up zs K (j + 1)) (fun j => nI (pn j)) k (i + 1) = true then f (tr_nd ch' pn k (i + 1)) else 0) (va_up zs K (j + 1) k)) K = sm (fun k => sm (fun i => if wt_fre zs (fun j => nI (pn j)) k (i + 1) = true then f (tr_nd ch pn k (i + 1)) else 0) (zs k)) K := by
    apply sm_congr
    intro k hk
    rw [zk k (by omega)]
    apply sm_congr
    intro i hi
    rw [frk k (i + 1) hk, keep k (i + 1) (by omega) hi]
  have e2 : sm (fun i => if wt_fre (va_up zs K (j + 1)) (fun j => nI (pn j)) K (i + 1) = true then f (tr_nd ch' pn K (i + 1)) else 0) j = sm (fun i => if wt_fre zs (fun j => nI (pn j)) K (i + 1) = true then f (tr_nd ch pn K (i + 1)) else 0) (zs K) := by
    rw [hj]
    apply sm_congr
    intro i hi
    rw [frK (i + 1) hi, keep K (i + 1) (by omega) (by omega)]
  rw [e1, zK]
  show _ + (sm (fun i => if wt_fre (va_up zs K (j + 1)) (fun j => nI (pn j)) K (i + 1) = true then f (tr_nd ch' pn K (i + 1)) else 0) j + (if wt_fre (va_up zs K (j + 1)) (fun j => nI (pn j)) K (j + 1) = true then f (tr_nd ch' pn K (j + 1)) else 0)) = _
  rw [e2, ← Nat.add_assoc, h0', ← hn', ← hS]
  by_cases hc : ch (tr_nd ch pn K j * 4 + p) = 0
  · have e : wt_gr ph pa ch sz (tr_nd ch pn K j) p = (va_up ph (sz + 1) p, va_up pa (sz + 1) (tr_nd ch pn K j), va_up ch (tr_nd ch pn K j * 4 + p) (sz + 1), sz + 1, sz + 1) := if_pos hc
    rw [if_pos (key.mpr hc), e]
    rfl
  · have e : wt_gr ph pa ch sz (tr_nd ch pn K j) p = (ph, pa, ch, sz, ch (tr_nd ch pn K j * 4 + p)) := if_neg hc
    rw [if_neg (fun q => hc (key.mp q)), e]
    rfl
