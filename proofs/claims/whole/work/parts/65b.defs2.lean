/-! a walk in the tree; a double -/
def wt_d2 (ch : Nat → Nat) (p q : Nat) : Nat := if ch (0 * 4 + p) = 0 then 0 else ch (ch (0 * 4 + p) * 4 + q)
def wt_d3 (ch : Nat → Nat) (p q r : Nat) : Nat := if wt_d2 ch p q = 0 then 0 else ch (wt_d2 ch p q * 4 + r)
theorem gr_b {ph pa ch : Nat → Nat} {sz n p : Nat} (hch : ∀ j, ch j ≤ 24) (hsz : sz + 1 ≤ 24) : (∀ j, (wt_gr ph pa ch sz n p).2.2.1 j ≤ 24) ∧ (wt_gr ph pa ch sz n p).2.2.2.1 ≤ sz + 1 ∧ (wt_gr ph pa ch sz n p).2.2.2.2 ≤ 24 := by
  by_cases h : ch (n * 4 + p) = 0
  · have e : wt_gr ph pa ch sz n p = _ := if_pos h
    rw [e]
    refine ⟨fun j => ?_, Nat.le_refl _, hsz⟩
    show va_up ch (n * 4 + p) (sz + 1) j ≤ 24
    unfold va_up
    split
    · exact hsz
    · exact hch j
  · have e : wt_gr ph pa ch sz n p = _ := if_neg h
    rw [e]
    exact ⟨hch, Nat.le_succ sz, hch _⟩
def wt_du1 (wd zs : Nat → Nat) (fp : Nat → Int32) (mn w k : Nat) : Bool := decide (wd k = w) && (decide (zs k = zs mn) && wt_beg zs fp k mn (zs k))
