/-! the reference's three numbers (cost, words, which) as one token -/
def enc (x d w : Int32) : Int64 := if x < 0 then wt_dead else lN (x.toNatClampNeg * 65536 + d.toNatClampNeg * 1024 + w.toNatClampNeg)
def tri (T p : Nat) (x d w : Int32) : Prop := x = -1 ∨ ∃ a b c : Nat, x = nI a ∧ d = nI b ∧ w = nI c ∧ a < 50000 * T ∧ 3 * b + p + 1 ≤ T ∧ c < 4 ^ b
theorem enc_m1 (d w : Int32) : enc (-1) d w = wt_dead := if_pos (by decide)
theorem enc_n {a b c : Nat} (ha : a < 2 ^ 31) (hb : b < 2 ^ 31) (hc : c < 2 ^ 31) : enc (nI a) (nI b) (nI c) = lN (a * 65536 + b * 1024 + c) := by
  unfold enc
  rw [if_neg (nI_pos ha), nI_clamp ha, nI_clamp hb, nI_clamp hc]
theorem p4_le {b m : Nat} (h : b ≤ m) : 4 ^ b ≤ 4 ^ m := Nat.pow_le_pow_right (by decide) h
theorem tri_ok {T p : Nat} (hT : T ≤ 17) {x d w : Int32} (h : tri T p x d w) : tk_ok (enc x d w) := by
  rcases h with rfl | ⟨a, b, c, rfl, rfl, rfl, ha, hb, hc⟩
  · rw [enc_m1]; exact tk_ok_dead
  · have := p4_le (show b ≤ 5 by omega)
    have e5 : (4 : Nat) ^ 5 = 1024 := rfl
    rw [enc_n (by omega) (by omega) (by omega)]
    exact Or.inr ⟨_, by omega, rfl⟩
theorem tri_dead {T p : Nat} (hT : T ≤ 17) {x d w : Int32} (h : tri T p x d w) : enc x d w = wt_dead ↔ x = -1 := by
  rcases h with rfl | ⟨a, b, c, rfl, rfl, rfl, ha, hb, hc⟩
  · rw [enc_m1]; exact ⟨fun _ => rfl, fun _ => rfl⟩
  · have := p4_le (show b ≤ 5 by omega)
    have e5 : (4 : Nat) ^ 5 = 1024 := rfl
    rw [enc_n (by omega) (by omega) (by omega)]
    exact ⟨fun q => absurd q (tk_ne (by omega)), fun q => absurd q (wt_nI_nem1 (by omega))⟩
/-- better is less -/
theorem bet_iff {T p q : Nat} (hT : T ≤ 17) {a b c : Nat} (ha : a < 50000 * T) (hb : 3 * b + p + 1 ≤ T) (hc : c < 4 ^ b) {x d w : Int32} (h : tri T q x d w) : wt_bet (nI a) (nI b) (nI c) x d w = true ↔ enc (nI a) (nI b) (nI c) < enc x d w := by
  have k1 := p4_le (show b ≤ 5 by omega)
  have e5 : (4 : Nat) ^ 5 = 1024 := rfl
  rw [enc_n (by omega) (by omega) (by omega)]
  rcases h with rfl | ⟨a', b', c', rfl, rfl, rfl, ha', hb', hc'⟩
  · rw [enc_m1, tk_dead, pk_lLT (by omega) (by decide)]
    constructor
    · intro _; omega
    · intro _; unfold wt_bet; rw [decide_eq_true (show (-1 : Int32) < 0 by decide)]; rfl
  · have k2 := p4_le (show b' ≤ 5 by omega)
    rw [enc_n (by omega) (by omega) (by omega), pk_lLT (by omega) (by omega)]
    unfold wt_bet
    rw [decide_eq_false (nI_pos (show a' < 2 ^ 31 by omega))]
    simp only [Bool.false_or, Bool.or_eq_true, Bool.and_eq_true, decide_eq_true_eq]
    rw [nI_ltI (by omega) (by omega), nI_eq (by omega) (by omega), nI_ltI (by omega) (by omega), nI_eq (by omega) (by omega), nI_ltI (by omega) (by omega)]
    constructor
    · intro h; omega
    · intro h; omega
def EN (x : wt_N) (j : Nat) : Int64 := enc (x.1 j) (x.2.1 j) (x.2.2 j)
/-- all that lives is at a place, and small -/
def tri_all (T mn : Nat) (zs : Nat → Nat) (x : wt_N) : Prop := ∀ j, j < 1800 → (x.1 j = -1 ∨ (j / 225 < mn ∧ j / 25 % 9 < 3 * zs (j / 225))) ∧ tri T (j / 25 % 9) (x.1 j) (x.2.1 j) (x.2.2 j)
theorem put_spec {T mn : Nat} {zs : Nat → Nat} (hT : T ≤ 17) {x : wt_N} {k p uv : Nat} {v d w : Int32} (hx : tri_all T mn zs x) (hk : k < mn) (hk8 : k < 8) (hp : p < 3 * zs k) (hp9 : p < 9) (huv : uv < 25) (hv : ¬ v = -1) (hn : tri T p v d w) :
    tri_all T mn zs (wt_put x (225 * k + 25 * p + uv) v d w) ∧ ∀ j z, j < 1800 → (z ≤ tI (EN (wt_put x (225 * k + 25 * p + uv) v d w) j) ↔ z ≤ tI (EN x j) ∧ (j = 225 * k + 25 * p + uv → z ≤ tI (enc v d w))) := by
  have i1 : (225 * k + 25 * p + uv) / 225 = k := by omega
  have i2 : (225 * k + 25 * p + uv) / 25 % 9 = p := by omega
  obtain ⟨-, ho⟩ := hx (225 * k + 25 * p + uv) (by omega)
  rcases hn with hn | ⟨a, b, c, rfl, rfl, rfl, ha, hb, hc⟩
  · exact absurd hn hv
  · have hbt := bet_iff hT ha hb hc ho
    have hnt : tri T p (nI a) (nI b) (nI c) := Or.inr ⟨a, b, c, rfl, rfl, rfl, ha, hb, hc⟩
    unfold wt_put
    by_cases hq : wt_bet (nI a) (nI b) (nI c) (x.1 (225 * k + 25 * p + uv)) (x.2.1 (225 * k + 25 * p + uv)) (x.2.2 (225 * k + 25 * p + uv)) = true
    · rw [if_pos hq]
      have hlt : tI (enc (nI a) (nI b) (nI c)) < tI (enc (x.1 (225 * k + 25 * p + uv)) (x.2.1 (225 * k + 25 * p + uv)) (x.2.2 (225 * k + 25 * p + uv))) := Int64.lt_iff_toInt_lt.mp (hbt.mp hq)
      constructor
      · intro j hj
        by_cases hjt : j = 225 * k + 25 * p + uv
        · subst hjt
          show (upd _ _ _ _ = -1 ∨ _) ∧ tri T _ (upd _ _ _ _) (upd _ _ _ _) (upd _ _ _ _)
          rw [pk_us, pk_us, pk_us, i1, i2]
          exact ⟨Or.inr ⟨hk, hp⟩, hnt⟩
        · show (upd _ _ _ _ = -1 ∨ _) ∧ tri T _ (upd _ _ _ _) (upd _ _ _ _) (upd _ _ _ _)
          rw [pk_un hjt, pk_un hjt, pk_un hjt]
          exact hx j hj
      · intro j z hj
        by_cases hjt : j = 225 * k + 25 * p + uv
        · subst hjt
          show z ≤ tI (enc (upd _ _ _ _) (upd _ _ _ _) (upd _ _ _ _)) ↔ _
          rw [pk_us, pk_us, pk_us]
          constructor
          · intro g; exact ⟨by unfold EN; omega, fun _ => g⟩
          · intro g; exact g.2 rfl
        · show z ≤ tI (enc (upd _ _ _ _) (upd _ _ _ _) (upd _ _ _ _)) ↔ _
          rw [pk_un hjt, pk_un hjt, pk_un hjt]
          exact ⟨fun g => ⟨g, fun q => absurd q hjt⟩, fun g => g.1⟩
    · rw [if_neg hq]
      have hge : ¬ tI (enc (nI a) (nI b) (nI c)) < tI (EN x (225 * k + 25 * p + uv)) := fun g => hq (hbt.mpr (Int64.lt_iff_toInt_lt.mpr g))
      refine ⟨hx, fun j z hj => ⟨fun g => ⟨g, fun q => by subst q; omega⟩, fun g => g.1⟩⟩
