/-! tokens in their order: x ≤ a token, for every whole number x -/
abbrev tI (t : Int64) : Int := t.toInt
theorem tI_lm (a b : Int64) (x : Int) : x ≤ tI (wt_lm a b) ↔ x ≤ tI a ∧ x ≤ tI b := by
  unfold wt_lm
  by_cases h : b < a
  · rw [if_pos h]
    have : tI b < tI a := Int64.lt_iff_toInt_lt.mp h
    constructor
    · intro q; exact ⟨by omega, q⟩
    · intro q; exact q.2
  · rw [if_neg h]
    have : ¬ tI b < tI a := fun q => h (Int64.lt_iff_toInt_lt.mpr q)
    constructor
    · intro q; exact ⟨q, by omega⟩
    · intro q; exact q.1
theorem tI_ext {a b : Int64} (h : ∀ x : Int, x ≤ tI a ↔ x ≤ tI b) : a = b := by
  have h1 := (h (tI a)).mp (Int.le_refl _)
  have h2 := (h (tI b)).mpr (Int.le_refl _)
  exact Int64.toInt_inj.mp (Int.le_antisymm h1 h2)
theorem tI_dead : tI wt_dead = 4611686018427387904 := by decide
theorem tI_lN {a : Nat} (h : a < 2 ^ 63) : tI (lN a) = (a : Int) := pf_lI h
/-- dead, or a number that is far below -/
def tk_ok (t : Int64) : Prop := t = wt_dead ∨ ∃ a : Nat, a < 2 ^ 60 ∧ t = lN a
theorem tk_le {t : Int64} (h : tk_ok t) : tI t ≤ 4611686018427387904 := by
  rcases h with rfl | ⟨a, ha, rfl⟩
  · rw [tI_dead]; exact Int.le_refl _
  · rw [tI_lN (by omega)]; omega
theorem tk_gal {t : Int64} (h : tk_ok t) {k : Nat} (hk : k < 2 ^ 20) (x : Int) : x ≤ tI (wt_pc t (nI k)) ↔ x ≤ 4611686018427387904 ∧ x - (k : Int) * 65536 ≤ tI t := by
  rcases h with rfl | ⟨a, ha, rfl⟩
  · rw [tk_pc_dead, tI_dead]
    constructor
    · intro q; exact ⟨q, by omega⟩
    · intro q; exact q.1
  · rw [tk_pc (by omega) (by omega), tI_lN (by omega), tI_lN (by omega)]
    constructor
    · intro q; exact ⟨by omega, by omega⟩
    · intro q; omega
theorem tk_galm (t : Int64) (x : Int) : x ≤ tI (wt_pc t (-1)) ↔ x ≤ 4611686018427387904 := by rw [tk_pc_m1, tI_dead]
theorem tk_ok_lm {a b : Int64} (ha : tk_ok a) (hb : tk_ok b) : tk_ok (wt_lm a b) := by
  unfold wt_lm
  split
  · exact hb
  · exact ha
theorem tk_ok_dead : tk_ok wt_dead := Or.inl rfl
/-- a min put in its place -/
theorem tI_upd (f : Nat → Int64) (k : Nat) (y : Int64) (j : Nat) (x : Int) : x ≤ tI (vp_updL f k (wt_lm (f k) y) j) ↔ x ≤ tI (f j) ∧ (j = k → x ≤ tI y) := by
  by_cases h : j = k
  · subst h
    rw [pk_uLs, tI_lm]
    constructor
    · intro q; exact ⟨q.1, fun _ => q.2⟩
    · intro q; exact ⟨q.1, q.2 rfl⟩
  · rw [pk_uLn h]
    constructor
    · intro q; exact ⟨q, fun z => absurd z h⟩
    · intro q; exact q.1
/-- a loop of such steps -/
theorem up_le {C : Nat → Nat → Int → Prop} {I : (Nat → Int64) → Prop} {step : Nat → (Nat → Int64) → (Nat → Int64)} {n0 : Nat} :
    ∀ (r i : Nat) (f : Nat → Int64), I f → (∀ k g, i ≤ k → k < i + r → I g → I (step k g)) → (∀ k g, i ≤ k → k < i + r → I g → ∀ j x, j < n0 → (x ≤ tI (step k g j) ↔ x ≤ tI (g j) ∧ C k j x)) →
      I (wt_up step r i f) ∧ ∀ j x, j < n0 → (x ≤ tI (wt_up step r i f j) ↔ x ≤ tI (f j) ∧ ∀ k, i ≤ k → k < i + r → C k j x)
  | 0, i, f, hI, _, _ => ⟨hI, fun j x _ => ⟨fun q => ⟨q, fun k h1 h2 => absurd h2 (by omega)⟩, fun q => q.1⟩⟩
  | r + 1, i, f, hI, hk, hs => by
    have ih := up_le (C := C) (I := I) (step := step) (n0 := n0) r (i + 1) (step i f) (hk i f (Nat.le_refl i) (by omega) hI) (fun k g h1 h2 => hk k g (by omega) (by omega)) (fun k g h1 h2 => hs k g (by omega) (by omega))
    refine ⟨ih.1, fun j x hj => ?_⟩
    show x ≤ tI (wt_up step r (i + 1) (step i f) j) ↔ _
    rw [ih.2 j x hj, hs i f (Nat.le_refl i) (by omega) hI j x hj]
    constructor
    · intro ⟨⟨q1, q2⟩, q3⟩
      refine ⟨q1, fun k h1 h2 => ?_⟩
      by_cases hki : k = i
      · subst hki; exact q2
      · exact q3 k (by omega) (by omega)
    · intro ⟨q1, q2⟩
      exact ⟨⟨q1, q2 i (Nat.le_refl i) (by omega)⟩, fun k h1 h2 => q2 k (by omega) (by omega)⟩
def tk_b (m : Nat) (t : Int64) : Prop := t = wt_dead ∨ ∃ a : Nat, a < m ∧ t = lN a
theorem tk_b_ok {m : Nat} {t : Int64} (h : tk_b m t) (hm : m ≤ 2 ^ 60) : tk_ok t := h.elim Or.inl (fun ⟨a, ha, e⟩ => Or.inr ⟨a, by omega, e⟩)
theorem tk_b_pc {m : Nat} {t : Int64} (h : tk_b m t) (hm : m ≤ 2 ^ 60) {k : Nat} (hk : k < 2 ^ 20) : tk_b (m + 2 ^ 36) (wt_pc t (nI k)) := by
  rcases h with rfl | ⟨a, ha, rfl⟩
  · rw [tk_pc_dead]; exact Or.inl rfl
  · rw [tk_pc (by omega) (by omega)]
    exact Or.inr ⟨_, by omega, rfl⟩
theorem tk_b_lm {m : Nat} {a b : Int64} (ha : tk_b m a) (hb : tk_b m b) : tk_b m (wt_lm a b) := by
  unfold wt_lm
  split
  · exact hb
  · exact ha
theorem tk_b_up {m m' : Nat} {t : Int64} (h : tk_b m t) (hm : m ≤ m') : tk_b m' t := h.elim Or.inl (fun ⟨a, ha, e⟩ => Or.inr ⟨a, by omega, e⟩)
