/-! small rows for the answers of the checks -/
theorem wt_nI1 : nI 1 = 1 := by decide
theorem wt_r0a {x : Int32} {n : Nat} (h : x < 0) : nI 0 = wt_rng x n := nI_0.trans (wt_rng_0 (by have := Int32.lt_iff_toInt_lt.mp h; rw [Int32.toInt_zero] at this; omega)).symm
theorem wt_r0b {x : Int32} {n : Nat} (h : nI n ≤ x) (hn : n < 2 ^ 31) : nI 0 = wt_rng x n := nI_0.trans (wt_rng_0 (by have := Int32.le_iff_toInt_le.mp h; rw [nI_toInt hn] at this; omega)).symm
theorem wt_r0c {x : Int32} {n : Nat} (h : nI n < x) (hn : n < 2 ^ 31) : nI 0 = wt_rng x (n + 1) := nI_0.trans (wt_rng_0 (by have := Int32.lt_iff_toInt_lt.mp h; rw [nI_toInt hn] at this; omega)).symm
theorem wt_r1b {x : Int32} {n : Nat} (h : ¬ x < 0) (h2 : ¬ nI n ≤ x) (hn : n < 2 ^ 31) : nI 1 = wt_rng x n := wt_nI1.trans (wt_rng_1 (by rw [Int32.lt_iff_toInt_lt, Int32.toInt_zero] at h; omega) (by rw [Int32.le_iff_toInt_le, nI_toInt hn] at h2; omega)).symm
theorem wt_r1c {x : Int32} {n : Nat} (h : ¬ x < 0) (h2 : ¬ nI n < x) (hn : n < 2 ^ 31) : nI 1 = wt_rng x (n + 1) := wt_nI1.trans (wt_rng_1 (by rw [Int32.lt_iff_toInt_lt, Int32.toInt_zero] at h; omega) (by rw [Int32.lt_iff_toInt_lt, nI_toInt hn] at h2; omega)).symm
theorem wt_r5a {x : Int32} (h : ¬ wt_rng x 4 = 0) : nI 1 = wt_rng x 5 := by
  obtain ⟨j, hj, rfl⟩ := wt_rng_of (by decide) h
  exact wt_nI1.trans (wt_rng_nI (by omega) (by decide)).symm
theorem wt_r5b {x : Int32} (h : x = nI 4) : nI 1 = wt_rng x 5 := by
  subst h
  exact wt_nI1.trans (wt_rng_nI (by omega) (by decide)).symm
theorem wt_r5c {x : Int32} (h : wt_rng x 4 = 0) (h2 : ¬ x = nI 4) : nI 0 = wt_rng x 5 := by
  rw [nI_0]
  by_cases q : wt_rng x 5 = 0
  · exact q.symm
  · obtain ⟨j, hj, rfl⟩ := wt_rng_of (by decide) q
    by_cases k : j < 4
    · rw [wt_rng_nI k (by decide)] at h
      exact absurd h (by decide)
    · exact absurd (congrArg nI (show j = 4 by omega)) h2
theorem wt_slot {u v w : Int32} {a b c : Nat} (hu : u + nI 1 = nI a) (hv : v + nI 1 = nI b) (hw : w + nI 1 = nI c) : ((u + nI 1) * nI 6 + v + nI 1) * nI 6 + w + nI 1 = nI (wt_sl a b c) := by
  rw [hu, Int32.add_assoc (nI a * nI 6), hv, Int32.add_assoc _ w, hw, pk_mul, nI_add, pk_mul, nI_add]
  rfl
theorem wt_m1a : (-1 : Int32) + nI 1 = nI 0 := by decide
theorem wt_sl_lt {a b c : Nat} (ha : a < 6) (hb : b < 6) (hc : c < 6) : wt_sl a b c < 216 := by unfold wt_sl; omega
theorem wt_pl_lt {a b c : Nat} (ha : a < 25) (hb : b < 25) (hc : c < 3) : wt_pl a b c < 1875 := by unfold wt_pl; omega
/-- what counts down to 0 inclusive -/
def wt_pd : Nat → Int32
  | 0 => -1
  | n + 1 => nI n
theorem wt_pd_dec (n : Nat) : nI n + Int32.ofInt (-1) = wt_pd n := by
  cases n with
  | zero => exact wt_dec0
  | succ n => exact wt_dec1 n
