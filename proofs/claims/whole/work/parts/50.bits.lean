/-! numbers of 64 bits: rows of the kit's BITS, as given for pasting -/
theorem wb_tb (n : Nat) : (lN n).toBitVec = BitVec.ofNat 64 n := rfl
theorem wb_inj {a b : Int64} (h : a.toBitVec = b.toBitVec) : a = b := Int64.toBitVec_inj.mp h
theorem wb_tn {n : Nat} (h : n < 2 ^ 64) : (lN n).toBitVec.toNat = n := by rw [wb_tb, BitVec.toNat_ofNat, Nat.mod_eq_of_lt h]
theorem wb_of (x : Int64) : ∃ n, n < 2 ^ 64 ∧ x = lN n := ⟨x.toBitVec.toNat, x.toBitVec.isLt, wb_inj (by rw [wb_tb]; simp)⟩
theorem wb_of32 (x : Int32) : ∃ n, n < 2 ^ 32 ∧ x = nI n := ⟨x.toBitVec.toNat, x.toBitVec.isLt, Int32.toBitVec_inj.mp (by show _ = BitVec.ofNat 32 _; simp)⟩
theorem wb_c : ∀ k, k < 64 → ((nI k).toInt64 &&& 63) = lN k := by decide +kernel
theorem wb_cu : ∀ k, k < 64 → ((nI k).toInt64.toUInt64 &&& Int64.toUInt64 63) = UInt64.ofNat k := by decide +kernel
theorem wb_sm : ∀ k, k < 64 → (BitVec.ofNat 64 k).smod 64 = BitVec.ofNat 64 k := by decide +kernel
theorem wb_pw {a b : Nat} (h : a ≤ b) : 2 ^ b = 2 ^ a * 2 ^ (b - a) := by rw [← Nat.pow_add]; congr 1; omega
theorem wb_lt2 {a b : Nat} (h : a < b) : 2 ^ a < 2 ^ b := Nat.pow_lt_pow_right (by decide) h
theorem wb_mod (n : Nat) : lN n = lN (n % 2 ^ 64) := wb_inj (by rw [wb_tb, wb_tb]; apply BitVec.eq_of_toNat_eq; rw [BitVec.toNat_ofNat, BitVec.toNat_ofNat, Nat.mod_mod])
theorem wb_shl (n : Nat) {k : Nat} (hk : k < 64) : lN n <<< ((nI k).toInt64 &&& 63) = lN (n * 2 ^ k) := by
  rw [wb_c k hk]
  apply wb_inj
  rw [Int64.toBitVec_shiftLeft, wb_tb, wb_tb, wb_tb, wb_sm k hk]
  apply BitVec.eq_of_toNat_eq
  rw [BitVec.shiftLeft_eq', BitVec.toNat_shiftLeft, BitVec.toNat_ofNat, BitVec.toNat_ofNat, BitVec.toNat_ofNat, Nat.mod_eq_of_lt (show k < 2 ^ 64 by omega), Nat.shiftLeft_eq, Nat.mul_mod, Nat.mod_mod, ← Nat.mul_mod]
theorem wb_and {a b : Nat} (ha : a < 2 ^ 64) (hb : b < 2 ^ 64) : lN a &&& lN b = lN (a &&& b) := by
  apply wb_inj
  rw [Int64.toBitVec_and, wb_tb, wb_tb, wb_tb]
  apply BitVec.eq_of_toNat_eq
  rw [BitVec.toNat_and, BitVec.toNat_ofNat, BitVec.toNat_ofNat, BitVec.toNat_ofNat, Nat.mod_eq_of_lt ha, Nat.mod_eq_of_lt hb, Nat.mod_eq_of_lt (Nat.and_lt_two_pow _ hb)]
theorem wb_or {a b : Nat} (ha : a < 2 ^ 64) (hb : b < 2 ^ 64) : lN a ||| lN b = lN (a ||| b) := by
  apply wb_inj
  rw [Int64.toBitVec_or, wb_tb, wb_tb, wb_tb]
  apply BitVec.eq_of_toNat_eq
  rw [BitVec.toNat_or, BitVec.toNat_ofNat, BitVec.toNat_ofNat, BitVec.toNat_ofNat, Nat.mod_eq_of_lt ha, Nat.mod_eq_of_lt hb, Nat.mod_eq_of_lt (Nat.or_lt_two_pow ha hb)]
theorem wb_mask {n k : Nat} (hn : n < 2 ^ 64) (hk : k < 64) : lN n &&& lN (2 ^ k - 1) = lN (n % 2 ^ k) := by
  rw [wb_and hn (by have := wb_lt2 hk; omega), Nat.and_two_pow_sub_one_eq_mod]
theorem wb_a1 {n : Nat} (hn : n < 2 ^ 64) : lN n &&& 1 = lN (n % 2) := wb_mask (k := 1) hn (by decide)
theorem u_tn {n : Nat} (h : n < 2 ^ 64) : (UInt64.ofNat n).toNat = n := Nat.mod_eq_of_lt h
theorem g_and {a b c : Nat} (ha : a < 2 ^ 64) (hb : b < 2 ^ 64) (hc : a &&& b = c) : lN a &&& lN b = lN c := by
  subst hc
  have h : UInt64.ofNat a &&& UInt64.ofNat b = UInt64.ofNat (a &&& b) := UInt64.toNat_inj.mp (by rw [UInt64.toNat_and, u_tn ha, u_tn hb, u_tn (Nat.and_lt_two_pow a hb)])
  have h2 := congrArg UInt64.toInt64 h
  exact h2
theorem g_and1 {a : Nat} (ha : a < 2 ^ 64) : lN a &&& 1 = lN (a % 2) := g_and (b := 1) ha (by decide) (Nat.and_two_pow_sub_one_eq_mod a 1)
theorem g_mask {a s p : Nat} (hp : 2 ^ s = p) (hs : s < 64) (ha : a < 2 ^ 64) : lN a &&& lN (p - 1) = lN (a % p) := by
  subst hp
  have := Nat.pow_lt_pow_right (show 1 < 2 by decide) hs
  exact g_and ha (by omega) (Nat.and_two_pow_sub_one_eq_mod a s)
theorem g_or {k p a b : Nat} (hp : 2 ^ k = p) (ha : a < p) (h : b * p + a < 2 ^ 64) : lN (b * p) ||| lN a = lN (b * p + a) := by
  subst hp
  have h1 : b * 2 ^ k ||| a = b * 2 ^ k + a := by rw [← Nat.shiftLeft_eq, Nat.shiftLeft_add_eq_or_of_lt ha]
  have h3 : UInt64.ofNat (b * 2 ^ k) ||| UInt64.ofNat a = UInt64.ofNat (b * 2 ^ k + a) := UInt64.toNat_inj.mp (by rw [UInt64.toNat_or, u_tn (by omega), u_tn (by omega), u_tn h, h1])
  have h2 := congrArg UInt64.toInt64 h3
  exact h2
theorem g_or' {k p a b : Nat} (hp : 2 ^ k = p) (ha : a < p) (h : a + b * p < 2 ^ 64) : lN a ||| lN (b * p) = lN (a + b * p) := by
  rw [Int64.or_comm, g_or hp ha (by omega), Nat.add_comm]
theorem pf_lI {a : Nat} (h : a < 2 ^ 63) : (lN a).toInt = (a : Int) := lg_ofNat_toInt h
theorem pf_shr {a d : Nat} {D : Int64} (hD : (D.toBitVec.smod 64).toNat = d) (h : a < 2 ^ 62) : lN a >>> D = lN (a / 2 ^ d) := by
  have hd : a / 2 ^ d ≤ a := Nat.div_le_self _ _
  apply Int64.toInt_inj.mp
  have e : (lN a >>> D).toInt = (lN a).toInt >>> d := by
    rw [← hD]
    exact BitVec.toInt_sshiftRight ..
  rw [e, Int.shiftRight_eq_div_pow, pf_lI (by omega), pf_lI (by omega)]
  rfl
/-! tokens as naturals -/
theorem tk_dead : wt_dead = lN 4611686018427387904 := rfl
theorem tk_lm {a b : Nat} (ha : a < 2 ^ 63) (hb : b < 2 ^ 63) : wt_lm (lN a) (lN b) = lN (min a b) := by
  unfold wt_lm
  by_cases h : b < a
  · rw [if_pos ((pk_lLT hb ha).mpr h), Nat.min_eq_right (by omega)]
  · rw [if_neg (fun q => h ((pk_lLT hb ha).mp q)), Nat.min_eq_left (by omega)]
theorem tk_ne {a : Nat} (ha : a < 4611686018427387904) : ¬ lN a = wt_dead := by
  rw [tk_dead, pk_lEQ (by omega) (by decide)]; omega
theorem tk_pc {a k : Nat} (ha : a < 4611686018427387904) (hk : k < 2 ^ 31) : wt_pc (lN a) (nI k) = lN (a + k * 65536) := by
  unfold wt_pc
  have e := wb_shl k (k := 16) (by decide)
  rw [show (2 : Nat) ^ 16 = 65536 from rfl] at e
  rw [if_neg (fun h => h.elim (tk_ne ha) (wt_nI_nem1 hk)), nI_l hk, e, lN_add]
theorem tk_pc_dead (k : Int32) : wt_pc wt_dead k = wt_dead := if_pos (Or.inl rfl)
theorem tk_pc_m1 (t : Int64) : wt_pc t (-1) = wt_dead := if_pos (Or.inr rfl)
theorem tk_pw_dead (k : Int32) : wt_pw wt_dead k = wt_dead := if_pos rfl
theorem tk_n1024 (a : Nat) (ha : a < 2 ^ 62) : a &&& 18446744073709550592 = a / 1024 * 1024 := by
  have e1 : (18446744073709550592 : Nat) = (2 ^ 54 - 1) <<< 10 := by decide
  have e2 : a / 1024 * 1024 = (a >>> 10) <<< 10 := by rw [Nat.shiftRight_eq_div_pow, Nat.shiftLeft_eq]
  rw [e1, e2]
  apply Nat.eq_of_testBit_eq
  intro i
  simp only [Nat.testBit_and, Nat.testBit_shiftLeft, Nat.testBit_shiftRight, Nat.testBit_two_pow_sub_one]
  by_cases h : 10 ≤ i
  · rw [show 10 + (i - 10) = i by omega]
    by_cases h2 : i < 64
    · simp [h, show i - 10 < 54 by omega]
    · have : a.testBit i = false := Nat.testBit_lt_two_pow (Nat.lt_of_lt_of_le ha (Nat.pow_le_pow_right (by decide) (by omega)))
      simp [this]
  · simp [h]
theorem tk_and1024 {a : Nat} (ha : a < 2 ^ 62) : lN a &&& (-1024) = lN (a / 1024 * 1024) := by
  rw [show (-1024 : Int64) = lN 18446744073709550592 by decide, wb_and (by omega) (by decide), tk_n1024 a ha]
theorem tk_pw {x d w k : Nat} (hx : x < 2 ^ 40) (hd : d < 63) (hw : w < 256) (hk : k < 4) : wt_pw (lN (x * 65536 + d * 1024 + w)) (nI k) = lN (x * 65536 + (d + 1) * 1024 + (w * 4 + k)) := by
  unfold wt_pw
  have e := wb_shl w (k := 2) (by decide)
  rw [show (2 : Nat) ^ 2 = 4 from rfl] at e
  have e3 : lN (x * 65536 + d * 1024 + w) &&& 1023 = lN w := by
    have := g_mask (a := x * 65536 + d * 1024 + w) (s := 10) (p := 1024) rfl (by decide) (by omega)
    rw [show (x * 65536 + d * 1024 + w) % 1024 = w by omega] at this
    exact this
  rw [if_neg (tk_ne (by omega)), tk_and1024 (by omega), e3, e, nI_l (by omega), g_or (k := 2) (p := 4) rfl hk (by omega)]
  rw [show (1024 : Int64) = lN 1024 from rfl, lN_add, lN_add]
  exact congrArg lN (by omega)
theorem tk_tc {x d w : Nat} (hx : x < 2 ^ 31) (hd : d < 64) (hw : w < 1024) : wt_tc (lN (x * 65536 + d * 1024 + w)) = nI x := by
  unfold wt_tc
  have e := pf_shr (a := x * 65536 + d * 1024 + w) (d := 16) (D := (nI 16).toInt64 &&& 63) (by decide +kernel) (by omega)
  rw [show (2 : Nat) ^ 16 = 65536 from rfl] at e
  rw [if_neg (tk_ne (by omega)), e, lN_i]
  exact congrArg nI (by omega)
theorem tk_tn {x d w : Nat} (hx : x < 2 ^ 31) (hd : d < 64) (hw : w < 1024) : wt_tn (lN (x * 65536 + d * 1024 + w)) = nI d := by
  unfold wt_tn
  have e := pf_shr (a := x * 65536 + d * 1024 + w) (d := 10) (D := (nI 10).toInt64 &&& 63) (by decide +kernel) (by omega)
  rw [show (2 : Nat) ^ 10 = 1024 from rfl] at e
  have e2 := g_mask (a := (x * 65536 + d * 1024 + w) / 1024) (s := 6) (p := 64) rfl (by decide) (by omega)
  rw [if_neg (tk_ne (by omega)), e, show (63 : Int64) = lN (64 - 1) from rfl, e2, lN_i]
  exact congrArg nI (by omega)
theorem tk_tc_dead : wt_tc wt_dead = -1 := if_pos rfl
theorem tk_tn_dead : wt_tn wt_dead = nI 0 := if_pos rfl
