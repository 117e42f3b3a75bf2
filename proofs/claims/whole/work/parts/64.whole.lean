/-! the least cost, and the whole path -/
/-- the least of the reference's costs: -1 where there is none -/
theorem be_up (ea : Nat → Int32) (hea : ∀ i, i < 1800 → ea i = -1 ∨ ∃ a : Nat, a < 2 ^ 31 ∧ ea i = nI a) : ∀ (r i : Nat) (c : Int32), i + r ≤ 1800 → (c = -1 ∨ ∃ a : Nat, a < 2 ^ 31 ∧ c = nI a) →
    (wt_up (fun i c => wt_be1 ea i c) r i c = -1 ∧ c = -1 ∧ ∀ k, i ≤ k → k < i + r → ea k = -1) ∨
    (∃ b : Nat, b < 2 ^ 31 ∧ wt_up (fun i c => wt_be1 ea i c) r i c = nI b ∧ (c = nI b ∨ ∃ k, i ≤ k ∧ k < i + r ∧ ea k = nI b) ∧ (∀ a : Nat, a < 2 ^ 31 → c = nI a → b ≤ a) ∧ ∀ k (a : Nat), i ≤ k → k < i + r → a < 2 ^ 31 → ea k = nI a → b ≤ a)
  | 0, i, c, _, hc => by
    rcases hc with rfl | ⟨a, ha, rfl⟩
    · exact Or.inl ⟨rfl, rfl, fun k h1 h2 => absurd h2 (by omega)⟩
    · exact Or.inr ⟨a, ha, rfl, Or.inl rfl, fun a' ha' e => Nat.le_of_eq (nI_inj ha ha' e), fun k a h1 h2 => absurd h2 (by omega)⟩
  | r + 1, i, c, hi, hc => by
    have e : wt_up (fun i c => wt_be1 ea i c) (r + 1) i c = wt_up (fun i c => wt_be1 ea i c) r (i + 1) (wt_be1 ea i c) := rfl
    rw [e]
    rcases hea i (by omega) with hd | ⟨a, ha, ha2⟩
    · have e1 : wt_be1 ea i c = c := if_neg (fun q => by rw [hd] at q; exact absurd q.1 (by decide))
      rw [e1]
      rcases be_up ea hea r (i + 1) c (by omega) hc with ⟨q1, q2, q3⟩ | ⟨b, hb, q1, q2, q3, q4⟩
      · refine Or.inl ⟨q1, q2, fun k h1 h2 => ?_⟩
        by_cases hk : k = i
        · subst hk; exact hd
        · exact q3 k (by omega) (by omega)
      · refine Or.inr ⟨b, hb, q1, q2.elim Or.inl (fun ⟨k, h1, h2, h3⟩ => Or.inr ⟨k, by omega, by omega, h3⟩), q3, fun k a h1 h2 ha he => ?_⟩
        by_cases hk : k = i
        · subst hk; rw [hd] at he; exact absurd he.symm (wt_nI_nem1 ha)
        · exact q4 k a (by omega) (by omega) ha he
    · rcases hc with rfl | ⟨c', hc', rfl⟩
      · have e1 : wt_be1 ea i (-1) = nI a := (if_pos ⟨by rw [ha2]; exact nI_pos' ha, Or.inl (by decide)⟩).trans ha2
        rw [e1]
        rcases be_up ea hea r (i + 1) (nI a) (by omega) (Or.inr ⟨a, ha, rfl⟩) with ⟨q1, q2, q3⟩ | ⟨b, hb, q1, q2, q3, q4⟩
        · exact absurd q2 (wt_nI_nem1 ha)
        · refine Or.inr ⟨b, hb, q1, ?_, fun a' ha' he => absurd he.symm (wt_nI_nem1 ha'), fun k a' h1 h2 ha' he => ?_⟩
          · rcases q2 with q2 | ⟨k, h1, h2, h3⟩
            · exact Or.inr ⟨i, by omega, by omega, ha2.trans q2⟩
            · exact Or.inr ⟨k, by omega, by omega, h3⟩
          · by_cases hk : k = i
            · subst hk; exact q3 a' ha' (ha2.symm.trans he)
            · exact q4 k a' (by omega) (by omega) ha' he
      · by_cases hlt : a < c'
        · have e1 : wt_be1 ea i (nI c') = nI a := (if_pos ⟨by rw [ha2]; exact nI_pos' ha, Or.inr (by rw [ha2]; exact (nI_ltI ha hc').mpr hlt)⟩).trans ha2
          rw [e1]
          rcases be_up ea hea r (i + 1) (nI a) (by omega) (Or.inr ⟨a, ha, rfl⟩) with ⟨q1, q2, q3⟩ | ⟨b, hb, q1, q2, q3, q4⟩
          · exact absurd q2 (wt_nI_nem1 ha)
          · have hba := q3 a ha rfl
            refine Or.inr ⟨b, hb, q1, ?_, fun a' ha' he => by have := nI_inj hc' ha' he; omega, fun k a' h1 h2 ha' he => ?_⟩
            · rcases q2 with q2 | ⟨k, h1, h2, h3⟩
              · exact Or.inr ⟨i, by omega, by omega, ha2.trans q2⟩
              · exact Or.inr ⟨k, by omega, by omega, h3⟩
            · by_cases hk : k = i
              · subst hk; exact q3 a' ha' (ha2.symm.trans he)
              · exact q4 k a' (by omega) (by omega) ha' he
        · have e1 : wt_be1 ea i (nI c') = nI c' := if_neg (fun q => q.2.elim (nI_pos hc') (fun z => by rw [ha2] at z; exact hlt ((nI_ltI ha hc').mp z)))
          rw [e1]
          rcases be_up ea hea r (i + 1) (nI c') (by omega) (Or.inr ⟨c', hc', rfl⟩) with ⟨q1, q2, q3⟩ | ⟨b, hb, q1, q2, q3, q4⟩
          · exact absurd q2 (wt_nI_nem1 hc')
          · have hbc := q3 c' hc' rfl
            refine Or.inr ⟨b, hb, q1, q2.elim Or.inl (fun ⟨k, h1, h2, h3⟩ => Or.inr ⟨k, by omega, by omega, h3⟩), q3, fun k a' h1 h2 ha' he => ?_⟩
            by_cases hk : k = i
            · subst hk; have := nI_inj ha ha' (ha2.symm.trans he); omega
            · exact q4 k a' (by omega) (by omega) ha' he
section WHOLE
variable {mn : Nat} {zs wd pn ph pa ch : Nat → Nat} {sz : Nat} {en : Nat → Bool} {kn : Nat → Bool} {co bo gc gb sc sh sl fp : Nat → Int32}
/-- a place in the class's order: its context, node, state -/
theorem pl_of {k : Nat} (hk : k < 1875) : ∃ c n s, c < 25 ∧ n < 25 ∧ s < 3 ∧ k = wt_pl c n s := ⟨k / 75, k / 3 % 25, k % 3, by omega, by omega, by omega, by unfold wt_pl; omega⟩
theorem best_eq (htr : tr_ok mn zs pn ph pa ch sz) (hsz : sz ≤ 24) (hm : mn ≤ 8) {T : Nat} (hT : T ≤ 17) {x : wt_N} (hx : tri_all T mn zs x) {tok : Nat → Int64} (hs : same mn zs pn ch tok x) (hof : off sz tok) : wt_tc (wt_ms tok).2 = wt_best x.1 := by
  have hea : ∀ i, i < 1800 → x.1 i = -1 ∨ ∃ a : Nat, a < 2 ^ 31 ∧ x.1 i = nI a := fun i hi => (hx i hi).2.elim Or.inl (fun ⟨a, b, c, e, _, _, ha, _, _⟩ => Or.inr ⟨a, by omega, e⟩)
  obtain ⟨-, m2, m3⟩ := ms_up tok 1875 0 0 wt_dead
  -- an alive token of the class is one of the reference's
  have cls : ∀ k, k < 1875 → tok k ≠ wt_dead → ∃ i, i < 1800 ∧ tok k = EN x i := by
    intro k hk hne
    obtain ⟨c, n, s, hc, hn, hs3, rfl⟩ := pl_of hk
    by_cases h : n = 0 ∨ sz < n
    · exact absurd (hof c n s hc hn hs3 h) hne
    · obtain ⟨k', i, hk', hi, -, e⟩ := same_tok htr hs hc (show 1 ≤ n by omega) (by omega) hs3
      have := (htr.1 k' hk').1
      exact ⟨_, by omega, e⟩
  have refp : ∀ i, i < 1800 → x.1 i ≠ -1 → ∃ k, k < 1875 ∧ tok k = EN x i ∧ tok k ≠ wt_dead := by
    intro i hi hne
    obtain ⟨hk, hp⟩ := (hx i hi).1.resolve_left hne
    have hz3 := (htr.1 _ hk).1
    have e := hs (i / 225) (i / 25 % 9) (i % 25) hk hp (by omega)
    rw [show 225 * (i / 225) + 25 * (i / 25 % 9) + i % 25 = i by omega] at e
    have hn := ((htr.1 _ hk).2 (i / 25 % 9 / 3) (by omega)).2.2.1
    refine ⟨_, wt_pl_lt (show i % 25 < 25 by omega) (show tr_nd ch pn (i / 225) (i / 25 % 9 / 3 + 1) < 25 by omega) (show i / 25 % 9 % 3 < 3 by omega), e, ?_⟩
    rw [e]
    exact fun q => hne ((tri_dead hT (hx i hi).2).mp q)
  have num : ∀ i, i < 1800 → x.1 i ≠ -1 → ∃ a b c : Nat, a < 2 ^ 31 ∧ b < 64 ∧ c < 1024 ∧ x.1 i = nI a ∧ EN x i = lN (a * 65536 + b * 1024 + c) := by
    intro i hi hne
    obtain ⟨a, b, c, ea, eb, ec, ha, hb, hc⟩ := (hx i hi).2.resolve_left hne
    have k1 := p4_le (show b ≤ 5 by omega)
    have e5 : (4 : Nat) ^ 5 = 1024 := rfl
    exact ⟨a, b, c, by omega, by omega, by omega, ea, by show enc _ _ _ = _; rw [ea, eb, ec, enc_n (by omega) (by omega) (by omega)]⟩
  show wt_tc (wt_up (fun k x => wt_ms1 tok k x) 1875 0 (0, wt_dead)).2 = wt_up (fun i c => wt_be1 x.1 i c) 1800 0 (-1)
  rcases be_up x.1 hea 1800 0 (-1) (by omega) (Or.inl rfl) with ⟨q1, -, q3⟩ | ⟨b, hb, q1, q2, -, q4⟩
  · rw [q1]
    rcases m3 with m3 | ⟨k, h1, h2, h3, h4⟩
    · rw [m3, tk_tc_dead]
    · obtain ⟨i, hi, e⟩ := cls k (by omega) h3
      exact absurd (by rw [e]; show enc _ _ _ = _; rw [q3 i (by omega) (by omega), enc_m1]) h3
  · rw [q1]
    obtain ⟨i, -, hi, ei⟩ := q2.resolve_left (fun q => wt_nI_nem1 hb q.symm)
    have hne : x.1 i ≠ -1 := by rw [ei]; exact wt_nI_nem1 hb
    obtain ⟨k, hk, ek, hkd⟩ := refp i (by omega) hne
    obtain ⟨a, b1, c1, ha, hb1, hc1, ea, eE⟩ := num i (by omega) hne
    have hab : a = b := nI_inj ha hb (ea.symm.trans ei)
    have hle := ((m2 _).mp (Int.le_refl _)).2 k (by omega) (by omega) hkd
    rcases m3 with m3 | ⟨k0, h1, h2, h3, h4⟩
    · rw [m3, ek, eE, tI_dead, tI_lN (by omega)] at hle
      omega
    · obtain ⟨i0, hi0, e0⟩ := cls k0 (by omega) h3
      have hne0 : x.1 i0 ≠ -1 := fun q => h3 (by rw [e0]; show enc _ _ _ = _; rw [q, enc_m1])
      obtain ⟨a0, b0, c0, ha0, hb0, hc0, ea0, eE0⟩ := num i0 hi0 hne0
      have h5 := q4 i0 a0 (by omega) (by omega) ha0 ea0
      rw [h4, e0, ek, eE, eE0, tI_lN (by omega), tI_lN (by omega)] at hle
      rw [h4, e0, eE0, tk_tc ha0 hb0 hc0]
      exact congrArg nI (by omega)
end WHOLE
