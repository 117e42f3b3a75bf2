/-! what stands after what: the class's table against the reference's -/
def gr_at (kn : Nat → Bool) (co bo gc gb : Nat → Int32) (k j : Nat) : Prop := gc j = (if kn k = true then co k else -1) ∧ gb j = (if kn k = true then bo k else nI 0) ∧ (kn k = true → ∃ a b : Nat, a < 10000 ∧ b < 10000 ∧ co k = nI a ∧ bo k = nI b)
def gr_rel (kn : Nat → Bool) (co bo gc gb : Nat → Int32) : Prop :=
  (∀ w, w < 5 → gr_at kn co bo gc gb w (wt_sl 0 0 (w + 1))) ∧
  (∀ v w, v < 5 → w < 5 → gr_at kn co bo gc gb (5 + 5 * v + w) (wt_sl 0 (v + 1) (w + 1))) ∧
  (∀ u v w, u < 5 → v < 4 → w < 5 → gr_at kn co bo gc gb (30 + 25 * u + 5 * v + w) (wt_sl (u + 1) (v + 1) (w + 1)))
/-- -1, or a number below B -/
def gr_num (B : Nat) (x : Int32) : Prop := x = -1 ∨ ∃ a : Nat, a < B ∧ x = nI a
theorem gr_bk {kn : Nat → Bool} {co bo gc gb : Nat → Int32} {k j : Nat} (h : gr_at kn co bo gc gb k j) : gb j = wt_bk kn bo k ∧ ∃ b : Nat, b < 10000 ∧ gb j = nI b := by
  obtain ⟨-, h2, h3⟩ := h
  refine ⟨h2, ?_⟩
  cases hk : kn k with
  | true =>
    obtain ⟨a, b, -, hb, -, e⟩ := h3 hk
    exact ⟨b, hb, by rw [h2, if_pos hk, e]⟩
  | false => exact ⟨0, by omega, by rw [h2, if_neg (by rw [hk]; decide)]⟩
theorem gr_af1 {kn : Nat → Bool} {co bo gc gb : Nat → Int32} (h : gr_rel kn co bo gc gb) {v w : Nat} (hv : v < 5) (hw : w < 5) : wt_two gc gb v w = wt_af1 kn co bo v w ∧ gr_num 20000 (wt_af1 kn co bo v w) := by
  obtain ⟨h1, h2, -⟩ := h
  obtain ⟨a1, -, a3⟩ := h2 v w hv hw
  obtain ⟨b1, -, b3⟩ := h1 w hw
  obtain ⟨c1, cb, hcb, c2⟩ := gr_bk (h1 v hv)
  by_cases hk : kn (5 + 5 * v + w) = true
  · obtain ⟨a, b, ha, -, e, -⟩ := a3 hk
    rw [if_pos hk] at a1
    have hne : ¬ gc (wt_sl 0 (v + 1) (w + 1)) = -1 := by rw [a1, e]; exact wt_nI_nem1 (by omega)
    have r1 : wt_two gc gb v w = nI a := by unfold wt_two; rw [if_neg hne, a1, e]
    have r2 : wt_af1 kn co bo v w = nI a := by unfold wt_af1; rw [if_pos hk, e]
    exact ⟨r1.trans r2.symm, Or.inr ⟨a, by omega, r2⟩⟩
  · rw [if_neg hk] at a1
    by_cases hk2 : kn w = true
    · obtain ⟨a, b, ha, -, e, -⟩ := b3 hk2
      rw [if_pos hk2] at b1
      have hne : ¬ gc (wt_sl 0 0 (w + 1)) = -1 := by rw [b1, e]; exact wt_nI_nem1 (by omega)
      have r1 : wt_two gc gb v w = nI (cb + a) := by unfold wt_two; rw [if_pos a1, if_neg hne, b1, e, c2, nI_add]
      have r2 : wt_af1 kn co bo v w = nI (cb + a) := by unfold wt_af1; rw [if_neg hk, if_pos hk2, ← c1, c2, e, nI_add]
      exact ⟨r1.trans r2.symm, Or.inr ⟨cb + a, by omega, r2⟩⟩
    · rw [if_neg hk2] at b1
      have r1 : wt_two gc gb v w = -1 := by unfold wt_two; rw [if_pos a1, if_pos b1]
      have r2 : wt_af1 kn co bo v w = -1 := by unfold wt_af1; rw [if_neg hk, if_neg hk2]
      exact ⟨r1.trans r2.symm, Or.inl r2⟩
theorem gr_aft {kn : Nat → Bool} {co bo gc gb : Nat → Int32} (h : gr_rel kn co bo gc gb) {u v w : Nat} (hu : u < 5) (hv : v < 5) (hw : w < 5) : wt_aft gc gb u v w = wt_afN kn co bo u v w ∧ gr_num 30000 (wt_afN kn co bo u v w) := by
  obtain ⟨e1, e2⟩ := gr_af1 h hv hw
  have wide : gr_num 30000 (wt_af1 kn co bo v w) := e2.elim Or.inl (fun ⟨a, ha, e⟩ => Or.inr ⟨a, by omega, e⟩)
  by_cases h4 : v = 4
  · have r1 : wt_aft gc gb u v w = wt_af1 kn co bo v w := by unfold wt_aft; rw [if_pos h4, e1]
    have r2 : wt_afN kn co bo u v w = wt_af1 kn co bo v w := by unfold wt_afN; rw [if_neg (fun q => q.1 h4), if_pos (Or.inr h4)]
    exact ⟨r1.trans r2.symm, by rw [r2]; exact wide⟩
  · obtain ⟨a1, -, a3⟩ := h.2.2 u v w hu (by omega) hw
    obtain ⟨c1, cb, hcb, c2⟩ := gr_bk (h.2.1 u v hu hv)
    by_cases hk : kn (30 + 25 * u + 5 * v + w) = true
    · obtain ⟨a, b, ha, -, e, -⟩ := a3 hk
      rw [if_pos hk] at a1
      have hne : ¬ gc (wt_sl (u + 1) (v + 1) (w + 1)) = -1 := by rw [a1, e]; exact wt_nI_nem1 (by omega)
      have r1 : wt_aft gc gb u v w = nI a := by unfold wt_aft; rw [if_neg h4, if_neg hne, a1, e]
      have r2 : wt_afN kn co bo u v w = nI a := by unfold wt_afN; rw [if_pos ⟨h4, hk⟩, e]
      exact ⟨r1.trans r2.symm, Or.inr ⟨a, by omega, r2⟩⟩
    · rw [if_neg hk] at a1
      rcases e2 with e2 | ⟨a, ha, e2⟩
      · have r1 : wt_aft gc gb u v w = -1 := by unfold wt_aft; rw [if_neg h4, if_pos a1, if_pos (by rw [e1]; exact e2)]
        have r2 : wt_afN kn co bo u v w = -1 := by unfold wt_afN; rw [if_neg (fun q => hk q.2), if_pos (Or.inl (by rw [e2]; decide)), e2]
        exact ⟨r1.trans r2.symm, Or.inl r2⟩
      · have hne : ¬ wt_two gc gb v w = -1 := by rw [e1, e2]; exact wt_nI_nem1 (by omega)
        have hpos : ¬ (wt_af1 kn co bo v w < 0 ∨ v = 4) := fun q => q.elim (fun z => by rw [e2] at z; exact nI_pos (by omega) z) h4
        have r1 : wt_aft gc gb u v w = nI (a + cb) := by unfold wt_aft; rw [if_neg h4, if_pos a1, if_neg hne, e1, e2, c2, nI_add, Nat.add_comm]
        have r2 : wt_afN kn co bo u v w = nI (a + cb) := by unfold wt_afN; rw [if_neg (fun q => hk q.2), if_neg hpos, e2, ← c1, c2, nI_add]
        exact ⟨r1.trans r2.symm, Or.inr ⟨a + cb, by omega, r2⟩⟩
