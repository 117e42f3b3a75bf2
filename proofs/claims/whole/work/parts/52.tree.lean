/-! the tree of beginnings against the list of pronunciations -/
def sm (f : Nat → Nat) : Nat → Nat
  | 0 => 0
  | n + 1 => sm f n + f n
theorem sm_congr {f g : Nat → Nat} : ∀ (n : Nat), (∀ i, i < n → f i = g i) → sm f n = sm g n
  | 0, _ => rfl
  | n + 1, h => by
    show sm f n + f n = sm g n + g n
    rw [sm_congr n (fun i hi => h i (by omega)), h n (by omega)]
theorem sm_add (f g : Nat → Nat) : ∀ n, sm (fun i => f i + g i) n = sm f n + sm g n
  | 0 => rfl
  | n + 1 => by
    show sm (fun i => f i + g i) n + (f n + g n) = (sm f n + f n) + (sm g n + g n)
    rw [sm_add f g n]; omega
theorem sm_zero {f : Nat → Nat} : ∀ (n : Nat), (∀ i, i < n → f i = 0) → sm f n = 0
  | 0, _ => rfl
  | n + 1, h => by
    show sm f n + f n = 0
    rw [sm_zero n (fun i hi => h i (by omega)), h n (by omega)]
/-- sums in another order -/
theorem sm_comm (f : Nat → Nat → Nat) (m : Nat) : ∀ n, sm (fun i => sm (fun j => f i j) m) n = sm (fun j => sm (fun i => f i j) n) m
  | 0 => (sm_zero m (fun _ _ => rfl)).symm
  | n + 1 => by
    show sm (fun i => sm (fun j => f i j) m) n + sm (fun j => f n j) m = sm (fun j => sm (fun i => f i j) n + f n j) m
    rw [sm_comm f m n, sm_add]
theorem sm_app (f : Nat → Nat) (n : Nat) : ∀ m, sm f (n + m) = sm f n + sm (fun i => f (n + i)) m
  | 0 => rfl
  | m + 1 => by
    show sm f (n + m) + f (n + m) = sm f n + (sm (fun i => f (n + i)) m + f (n + m))
    rw [sm_app f n m]; omega
/-- a sum over n * m places, row by row -/
theorem sm_mul (f : Nat → Nat) (m : Nat) : ∀ n, sm f (n * m) = sm (fun i => sm (fun j => f (i * m + j)) m) n
  | 0 => by rw [Nat.zero_mul]; rfl
  | n + 1 => by
    rw [Nat.succ_mul, sm_app, sm_mul f m n]; rfl
theorem up_sum (g : Nat → Nat) : ∀ (r i x : Nat), wt_up (fun k n => n + g k) r i x = x + sm (fun k => g (i + k)) r
  | 0, _, _ => rfl
  | r + 1, i, x => by
    show wt_up (fun k n => n + g k) r (i + 1) (x + g i) = x + sm (fun k => g (i + k)) (r + 1)
    rw [up_sum g r (i + 1) (x + g i), show r + 1 = 1 + r by omega, sm_app]
    show x + g i + sm (fun k => g (i + 1 + k)) r = x + (0 + g i + sm (fun k => g (i + (1 + k))) r)
    rw [sm_congr (f := fun k => g (i + 1 + k)) (g := fun k => g (i + (1 + k))) r (fun k _ => by rw [Nat.add_assoc])]
    omega
/-- the node behind i phones of the pronunciation k -/
def tr_nd (ch pn : Nat → Nat) (k : Nat) : Nat → Nat
  | 0 => 0
  | i + 1 => ch (tr_nd ch pn k i * 4 + pn (3 * k + i))
def tr_ok (M : Nat) (zs pn ph pa ch : Nat → Nat) (sz : Nat) : Prop :=
  (∀ k, k < M → zs k ≤ 3 ∧ ∀ i, i < zs k → pn (3 * k + i) < 4 ∧ 1 ≤ tr_nd ch pn k (i + 1) ∧ tr_nd ch pn k (i + 1) ≤ sz ∧ ph (tr_nd ch pn k (i + 1)) = pn (3 * k + i) ∧ pa (tr_nd ch pn k (i + 1)) = tr_nd ch pn k i) ∧
  (∀ n, 1 ≤ n → n ≤ sz → pa n < n ∧ ph n < 4 ∧ ∃ k i, k < M ∧ i < zs k ∧ tr_nd ch pn k (i + 1) = n) ∧
  (∀ n p, p < 4 → ch (n * 4 + p) ≠ 0 → n ≤ sz ∧ ch (n * 4 + p) ≤ sz ∧ pa (ch (n * 4 + p)) = n ∧ ph (ch (n * 4 + p)) = p)
theorem tr_le {M : Nat} {zs pn ph pa ch : Nat → Nat} {sz : Nat} (h : tr_ok M zs pn ph pa ch sz) {k i : Nat} (hk : k < M) (hi : i ≤ zs k) : tr_nd ch pn k i ≤ sz := by
  cases i with
  | zero => exact Nat.zero_le _
  | succ i => exact ((h.1 k hk).2 i hi).2.2.1
theorem tr_same {ch pn pn' : Nat → Nat} {k k' : Nat} : ∀ (i : Nat), (∀ a, a < i → pn (3 * k + a) = pn' (3 * k' + a)) → tr_nd ch pn k i = tr_nd ch pn' k' i
  | 0, _ => rfl
  | i + 1, h => by
    show ch (tr_nd ch pn k i * 4 + pn (3 * k + i)) = ch (tr_nd ch pn' k' i * 4 + pn' (3 * k' + i))
    rw [tr_same i (fun a ha => h a (by omega)), h i (by omega)]
theorem tr_uniq {M : Nat} {zs pn ph pa ch : Nat → Nat} {sz : Nat} (h : tr_ok M zs pn ph pa ch sz) {k k' : Nat} (hk : k < M) (hk' : k' < M) :
    ∀ (i i' : Nat), i ≤ zs k → i' ≤ zs k' → tr_nd ch pn k i = tr_nd ch pn k' i' → i = i' ∧ ∀ a, a < i → pn (3 * k + a) = pn (3 * k' + a) := by
  intro i
  induction i with
  | zero =>
    intro i' _ hi' e
    cases i' with
    | zero => exact ⟨rfl, fun a ha => absurd ha (Nat.not_lt_zero a)⟩
    | succ j =>
      have := ((h.1 k' hk').2 j hi').2.1
      rw [← e] at this
      exact absurd this (by show ¬ 1 ≤ 0; omega)
  | succ i ih =>
    intro i' hi hi' e
    have q := (h.1 k hk).2 i hi
    cases i' with
    | zero =>
      have := q.2.1
      rw [e] at this
      exact absurd this (by show ¬ 1 ≤ 0; omega)
    | succ j =>
      have q' := (h.1 k' hk').2 j hi'
      have e1 : pn (3 * k + i) = pn (3 * k' + j) := by rw [← q.2.2.2.1, ← q'.2.2.2.1, e]
      have e2 : tr_nd ch pn k i = tr_nd ch pn k' j := by rw [← q.2.2.2.2, ← q'.2.2.2.2, e]
      obtain ⟨e3, e4⟩ := ih j (by omega) (by omega) e2
      subst e3
      refine ⟨rfl, fun a ha => ?_⟩
      by_cases hai : a < i
      · exact e4 a hai
      · rw [show a = i by omega]; exact e1
/-- a path's next phone: the tree grows where it must -/
theorem tr_grow {K : Nat} {zs pn ph pa ch : Nat → Nat} {sz j p : Nat} (h : tr_ok (K + 1) zs pn ph pa ch sz) (hj : zs K = j) (hj3 : j < 3) (hp : p < 4) (hpn : pn (3 * K + j) = p) :
    tr_ok (K + 1) (va_up zs K (j + 1)) pn (wt_gr ph pa ch sz (tr_nd ch pn K j) p).1 (wt_gr ph pa ch sz (tr_nd ch pn K j) p).2.1 (wt_gr ph pa ch sz (tr_nd ch pn K j) p).2.2.1 (wt_gr ph pa ch sz (tr_nd ch pn K j) p).2.2.2.1
      ∧ (wt_gr ph pa ch sz (tr_nd ch pn K j) p).2.2.2.2 = tr_nd (wt_gr ph pa ch sz (tr_nd ch pn K j) p).2.2.1 pn K (j + 1)
      ∧ ∀ k i, k < K + 1 → i ≤ zs k → tr_nd (wt_gr ph pa ch sz (tr_nd ch pn K j) p).2.2.1 pn k i = tr_nd ch pn k i := by
  have zk : ∀ k, k ≠ K → va_up zs K (j + 1) k = zs k := fun k hk => va_up_ne zs (j + 1) hk
  have zK : va_up zs K (j + 1) K = j + 1 := va_up_self zs K (j + 1)
  have hn : tr_nd ch pn K j ≤ sz := tr_le h (by omega) (by omega)
  by_cases hc : ch (tr_nd ch pn K j * 4 + p) = 0
  · have e : wt_gr ph pa ch sz (tr_nd ch pn K j) p = (va_up ph (sz + 1) p, va_up pa (sz + 1) (tr_nd ch pn K j), va_up ch (tr_nd ch pn K j * 4 + p) (sz + 1), sz + 1, sz + 1) := if_pos hc
    rw [e]
    show tr_ok (K + 1) (va_up zs K (j + 1)) pn (va_up ph (sz + 1) p) (va_up pa (sz + 1) (tr_nd ch pn K j)) (va_up ch (tr_nd ch pn K j * 4 + p) (sz + 1)) (sz + 1)
      ∧ sz + 1 = tr_nd (va_up ch (tr_nd ch pn K j * 4 + p) (sz + 1)) pn K (j + 1)
      ∧ ∀ k i, k < K + 1 → i ≤ zs k → tr_nd (va_up ch (tr_nd ch pn K j * 4 + p) (sz + 1)) pn k i = tr_nd ch pn k i
    generalize hnd : tr_nd ch pn K j = n at hn hc
    have keep : ∀ k i, k < K + 1 → i ≤ zs k → tr_nd (va_up ch (n * 4 + p) (sz + 1)) pn k i = tr_nd ch pn k i := by
      intro k i hk
      induction i with
      | zero => intro _; rfl
      | succ i ih =>
        intro hi
        have q := (h.1 k hk).2 i hi
        show va_up ch (n * 4 + p) (sz + 1) (tr_nd (va_up ch (n * 4 + p) (sz + 1)) pn k i * 4 + pn (3 * k + i)) = ch (tr_nd ch pn k i * 4 + pn (3 * k + i))
        rw [ih (by omega)]
        refine va_up_ne ch _ (fun z => ?_)
        have q2 : 1 ≤ ch (tr_nd ch pn k i * 4 + pn (3 * k + i)) := q.2.1
        rw [z, hc] at q2
        omega
    have hK1 : tr_nd (va_up ch (n * 4 + p) (sz + 1)) pn K (j + 1) = sz + 1 := by
      show va_up ch (n * 4 + p) (sz + 1) (tr_nd (va_up ch (n * 4 + p) (sz + 1)) pn K j * 4 + pn (3 * K + j)) = sz + 1
      rw [keep K j (by omega) (by omega), hnd, hpn, va_up_self]
    refine ⟨⟨?_, ?_, ?_⟩, hK1.symm, keep⟩
    · intro k hk
      by_cases hkK : k = K
      · subst hkK
        rw [zK]
        refine ⟨by omega, fun i hi => ?_⟩
        by_cases hij : i < j
        · have q := (h.1 k hk).2 i (by omega)
          rw [keep k (i + 1) hk (by omega), keep k i hk (by omega)]
          refine ⟨q.1, q.2.1, by omega, ?_, ?_⟩
          · rw [va_up_ne ph p (by omega)]; exact q.2.2.2.1
          · rw [va_up_ne pa n (by omega)]; exact q.2.2.2.2
        · rw [show i = j by omega, hK1, keep k j hk (by omega), hnd, hpn, va_up_self, va_up_self]
          exact ⟨hp, by omega, by omega, rfl, rfl⟩
      · rw [zk k hkK]
        refine ⟨(h.1 k hk).1, fun i hi => ?_⟩
        have q := (h.1 k hk).2 i hi
        rw [keep k (i + 1) hk (by omega), keep k i hk (by omega)]
        refine ⟨q.1, q.2.1, by omega, ?_, ?_⟩
        · rw [va_up_ne ph p (by omega)]; exact q.2.2.2.1
        · rw [va_up_ne pa n (by omega)]; exact q.2.2.2.2
    · intro m hm1 hm2
      by_cases hms : m = sz + 1
      · subst hms
        rw [va_up_self, va_up_self]
        exact ⟨by omega, hp, K, j, by omega, by rw [zK]; omega, hK1⟩
      · obtain ⟨q1, q2, k, i, hk, hi, hq⟩ := h.2.1 m hm1 (by omega)
        rw [va_up_ne ph p hms, va_up_ne pa n hms]
        refine ⟨q1, q2, k, i, hk, ?_, by rw [keep k (i + 1) hk (by omega)]; exact hq⟩
        by_cases hkK : k = K
        · subst hkK; rw [zK]; omega
        · rw [zk k hkK]; exact hi
    · intro m p0 hp0 hne
      by_cases hmp : m * 4 + p0 = n * 4 + p
      · have e1 : m = n := by omega
        have e2 : p0 = p := by omega
        subst e1 e2
        rw [va_up_self, va_up_self, va_up_self]
        exact ⟨by omega, by omega, rfl, rfl⟩
      · rw [va_up_ne ch (sz + 1) hmp] at hne ⊢
        obtain ⟨q1, q2, q3, q4⟩ := h.2.2 m p0 hp0 hne
        rw [va_up_ne pa n (by omega), va_up_ne ph p (by omega)]
        exact ⟨by omega, by omega, q3, q4⟩
  · have e : wt_gr ph pa ch sz (tr_nd ch pn K j) p = (ph, pa, ch, sz, ch (tr_nd ch pn K j * 4 + p)) := if_neg hc
    rw [e]
    show tr_ok (K + 1) (va_up zs K (j + 1)) pn ph pa ch sz ∧ ch (tr_nd ch pn K j * 4 + p) = tr_nd ch pn K (j + 1) ∧ ∀ k i, k < K + 1 → i ≤ zs k → tr_nd ch pn k i = tr_nd ch pn k i
    have hK1 : tr_nd ch pn K (j + 1) = ch (tr_nd ch pn K j * 4 + p) := by
      show ch (tr_nd ch pn K j * 4 + pn (3 * K + j)) = _
      rw [hpn]
    obtain ⟨q1, q2, q3, q4⟩ := h.2.2 _ p hp hc
    refine ⟨⟨?_, ?_, h.2.2⟩, hK1.symm, fun _ _ _ _ => rfl⟩
    · intro k hk
      by_cases hkK : k = K
      · subst hkK
        rw [zK]
        refine ⟨by omega, fun i hi => ?_⟩
        by_cases hij : i < j
        · exact (h.1 k hk).2 i (by omega)
        · rw [show i = j by omega, hK1, hpn]
          exact ⟨hp, by omega, q2, q4, q3⟩
      · rw [zk k hkK]
        exact h.1 k hk
    · intro m hm1 hm2
      obtain ⟨q1, q2, k, i, hk, hi, hq⟩ := h.2.1 m hm1 hm2
      refine ⟨q1, q2, k, i, hk, ?_, hq⟩
      by_cases hkK : k = K
      · subst hkK; rw [zK]; omega
      · rw [zk k hkK]; exact hi
