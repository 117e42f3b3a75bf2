/-! the tokens that wait at the root -/
def wa_z (gc gb sl : Nat → Int32) (tok : Nat → Int64) (c n w : Nat) : Int64 := wt_pw (wt_pc (wt_lv sl tok c n 2) (wt_aft gc gb (c / 5) (c % 5) w)) (nI w)
theorem wa_all {en : Nat → Bool} {sz : Nat} {gc gb sl : Nat → Int32} {tok : Nat → Int64} (hz : ∀ c n w, c < 25 → 1 ≤ n → n ≤ sz → w < 4 → en (n * 4 + w) = true → tk_b (2 ^ 42) (wa_z gc gb sl tok c n w)) :
    (∀ j, tk_b (2 ^ 42) (wt_ea en sz gc gb sl tok j)) ∧ ∀ j x, j < 25 → (x ≤ tI (wt_ea en sz gc gb sl tok j) ↔ x ≤ 4611686018427387904 ∧ ∀ c n w, c < 25 → 1 ≤ n → n ≤ sz → w < 4 → en (n * 4 + w) = true → j = wt_cx (c % 5) w → x ≤ tI (wa_z gc gb sl tok c n w)) := by
  have s1 : ∀ c n, c < 25 → 1 ≤ n → n ≤ sz → ∀ (w : Nat) (g : Nat → Int64), w < 4 → (∀ j, tk_b (2 ^ 42) (g j)) → (∀ j, tk_b (2 ^ 42) (wt_e1 en gc gb c n (wt_lv sl tok c n 2) w g j)) ∧ ∀ j x, j < 25 → (x ≤ tI (wt_e1 en gc gb c n (wt_lv sl tok c n 2) w g j) ↔ x ≤ tI (g j) ∧ ((¬ wt_lv sl tok c n 2 = wt_dead ∧ en (n * 4 + w) = true) → j = wt_cx (c % 5) w → x ≤ tI (wa_z gc gb sl tok c n w))) := by
    intro c n hc h1 h2 w g hw hg
    unfold wt_e1
    by_cases h : ¬ wt_lv sl tok c n 2 = wt_dead ∧ en (n * 4 + w) = true
    · rw [if_pos h]
      constructor
      · intro j
        by_cases hj : j = wt_cx (c % 5) w
        · rw [hj, pk_uLs]; exact tk_b_lm (hg _) (hz c n w hc h1 h2 hw h.2)
        · rw [pk_uLn hj]; exact hg j
      · intro j x _
        rw [tI_upd]
        constructor
        · intro q; exact ⟨q.1, fun _ => q.2⟩
        · intro q; exact ⟨q.1, q.2 h⟩
    · rw [if_neg h]
      exact ⟨hg, fun j x _ => ⟨fun q => ⟨q, fun z => absurd z h⟩, fun q => q.1⟩⟩
  have s2 : ∀ c n, c < 25 → 1 ≤ n → n ≤ sz → ∀ (g : Nat → Int64), (∀ j, tk_b (2 ^ 42) (g j)) → (∀ j, tk_b (2 ^ 42) (wt_en en gc gb sl tok c n g j)) ∧ ∀ j x, j < 25 → (x ≤ tI (wt_en en gc gb sl tok c n g j) ↔ x ≤ tI (g j) ∧ ∀ w, 0 ≤ w → w < 0 + 4 → ((¬ wt_lv sl tok c n 2 = wt_dead ∧ en (n * 4 + w) = true) → j = wt_cx (c % 5) w → x ≤ tI (wa_z gc gb sl tok c n w))) := by
    intro c n hc h1 h2 g hg
    exact up_le (I := fun g => ∀ j, tk_b (2 ^ 42) (g j)) (C := fun w j x => (¬ wt_lv sl tok c n 2 = wt_dead ∧ en (n * 4 + w) = true) → j = wt_cx (c % 5) w → x ≤ tI (wa_z gc gb sl tok c n w)) (n0 := 25) 4 0 g hg (fun w g _ hw hg => (s1 c n hc h1 h2 w g (by omega) hg).1) (fun w g _ hw hg => (s1 c n hc h1 h2 w g (by omega) hg).2)
  have s3 : ∀ c, c < 25 → ∀ (g : Nat → Int64), (∀ j, tk_b (2 ^ 42) (g j)) → (∀ j, tk_b (2 ^ 42) (wt_end en sz gc gb sl tok c g j)) ∧ ∀ j x, j < 25 → (x ≤ tI (wt_end en sz gc gb sl tok c g j) ↔ x ≤ tI (g j) ∧ ∀ n, 1 ≤ n → n < 1 + sz → ∀ w, 0 ≤ w → w < 0 + 4 → ((¬ wt_lv sl tok c n 2 = wt_dead ∧ en (n * 4 + w) = true) → j = wt_cx (c % 5) w → x ≤ tI (wa_z gc gb sl tok c n w))) := by
    intro c hc g hg
    exact up_le (I := fun g => ∀ j, tk_b (2 ^ 42) (g j)) (C := fun n j x => ∀ w, 0 ≤ w → w < 0 + 4 → ((¬ wt_lv sl tok c n 2 = wt_dead ∧ en (n * 4 + w) = true) → j = wt_cx (c % 5) w → x ≤ tI (wa_z gc gb sl tok c n w))) (n0 := 25) sz 1 g hg (fun n g h1 h2 hg => (s2 c n hc h1 (by omega) g hg).1) (fun n g h1 h2 hg => (s2 c n hc h1 (by omega) g hg).2)
  have s4 := up_le (I := fun g => ∀ j, tk_b (2 ^ 42) (g j)) (C := fun c j x => ∀ n, 1 ≤ n → n < 1 + sz → ∀ w, 0 ≤ w → w < 0 + 4 → ((¬ wt_lv sl tok c n 2 = wt_dead ∧ en (n * 4 + w) = true) → j = wt_cx (c % 5) w → x ≤ tI (wa_z gc gb sl tok c n w))) (n0 := 25) (step := fun c wt => wt_end en sz gc gb sl tok c wt) 25 0 (fun _ => wt_dead) (fun _ => Or.inl rfl) (fun c g h1 h2 hg => (s3 c (by omega) g hg).1) (fun c g h1 h2 hg => (s3 c (by omega) g hg).2)
  refine ⟨s4.1, fun j x hj => ?_⟩
  have e : x ≤ tI (wt_ea en sz gc gb sl tok j) ↔ _ := s4.2 j x hj
  rw [e, tI_dead]
  constructor
  · intro ⟨q1, q2⟩
    refine ⟨q1, fun c n w hc h1 h2 hw hen hjw => ?_⟩
    by_cases hd : wt_lv sl tok c n 2 = wt_dead
    · unfold wa_z
      rw [hd, tk_pc_dead, tk_pw_dead, tI_dead]
      exact q1
    · exact q2 c (by omega) (by omega) n h1 (by omega) w (by omega) (by omega) ⟨hd, hen⟩ hjw
  · intro ⟨q1, q2⟩
    exact ⟨q1, fun c _ hc n h1 h2 w _ hw hq hjw => q2 c n w (by omega) h1 (by omega) (by omega) hq.2 hjw⟩
