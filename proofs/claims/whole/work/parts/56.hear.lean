/-! a frame is heard: every place from the older tokens -/
theorem pl_inj {c n s c' n' s' : Nat} (hn : n < 25) (hs : s < 3) (hn' : n' < 25) (hs' : s' < 3) (h : wt_pl c n s = wt_pl c' n' s') : c = c' ∧ n = n' ∧ s = s' := by
  unfold wt_pl at h
  omega
def hr_F (ph pa : Nat → Nat) (sc sh sl : Nat → Int32) (wt : Nat → Int64) (t : Nat) (tok : Nat → Int64) (c n s : Nat) : Int64 := wt_pc (wt_lm (wt_pc (tok (wt_pl c n s)) (sh s)) (wt_cm pa sl tok wt c n s)) (sc (t * 12 + ph n * 3 + s))
theorem hr_congr {ph pa : Nat → Nat} {sc sh sl : Nat → Int32} {wt : Nat → Int64} {t : Nat} {tok tok' : Nat → Int64} {c n s : Nat} (h1 : tok' (wt_pl c n s) = tok (wt_pl c n s)) (h2 : 0 < s → tok' (wt_pl c n (s - 1)) = tok (wt_pl c n (s - 1))) (h3 : s = 0 → pa n ≠ 0 → tok' (wt_pl c (pa n) 2) = tok (wt_pl c (pa n) 2)) : hr_F ph pa sc sh sl wt t tok' c n s = hr_F ph pa sc sh sl wt t tok c n s := by
  have e : wt_cm pa sl tok' wt c n s = wt_cm pa sl tok wt c n s := by
    unfold wt_cm wt_lv
    by_cases hs : 0 < s
    · rw [if_pos hs, if_pos hs, h2 hs]
    · rw [if_neg hs, if_neg hs]
      by_cases hp : pa n = 0
      · rw [if_pos hp, if_pos hp]
      · rw [if_neg hp, if_neg hp, h3 (by omega) hp]
  unfold hr_F
  rw [h1, e]
theorem hr_h1 (ph pa : Nat → Nat) (sc sh sl : Nat → Int32) (wt : Nat → Int64) (t c n s : Nat) (tok : Nat → Int64) : wt_h1 ph pa sc sh sl wt t c n s tok = vp_updL tok (wt_pl c n s) (hr_F ph pa sc sh sl wt t tok c n s) := rfl
theorem hr_hn {ph pa : Nat → Nat} {sc sh sl : Nat → Int32} {wt : Nat → Int64} {t c n : Nat} (hn : n < 25) (hpa : pa n < n) (tok : Nat → Int64) :
    (∀ s, s < 3 → wt_hn ph pa sc sh sl wt t c n tok (wt_pl c n s) = hr_F ph pa sc sh sl wt t tok c n s) ∧ ∀ j, (∀ s, s < 3 → j ≠ wt_pl c n s) → wt_hn ph pa sc sh sl wt t c n tok j = tok j := by
  have e : wt_hn ph pa sc sh sl wt t c n tok = wt_h1 ph pa sc sh sl wt t c n 0 (wt_h1 ph pa sc sh sl wt t c n 1 (wt_h1 ph pa sc sh sl wt t c n 2 tok)) := rfl
  have d01 : wt_pl c n 0 ≠ wt_pl c n 1 := fun q => absurd (pl_inj hn (by decide) hn (by decide) q).2.2 (by decide)
  have d02 : wt_pl c n 0 ≠ wt_pl c n 2 := fun q => absurd (pl_inj hn (by decide) hn (by decide) q).2.2 (by decide)
  have d12 : wt_pl c n 1 ≠ wt_pl c n 2 := fun q => absurd (pl_inj hn (by decide) hn (by decide) q).2.2 (by decide)
  have dp : ∀ s, s < 3 → wt_pl c (pa n) 2 ≠ wt_pl c n s := fun s hs q => absurd (pl_inj (by omega) (by decide) hn hs q).2.1 (by omega)
  rw [e, hr_h1, hr_h1, hr_h1]
  constructor
  · intro s hs
    rcases (show s = 0 ∨ s = 1 ∨ s = 2 by omega) with rfl | rfl | rfl
    · rw [pk_uLs]
      refine hr_congr ?_ (fun q => absurd q (by decide)) (fun _ _ => ?_)
      · rw [pk_uLn d01, pk_uLn d02]
      · rw [pk_uLn (dp 1 (by decide)), pk_uLn (dp 2 (by decide))]
    · rw [pk_uLn d01.symm, pk_uLs]
      refine hr_congr ?_ (fun _ => ?_) (fun q => absurd q (by decide))
      · rw [pk_uLn d12]
      · rw [pk_uLn d02]
    · rw [pk_uLn d02.symm, pk_uLn d12.symm, pk_uLs]
  · intro j hj
    rw [pk_uLn (hj 0 (by decide)), pk_uLn (hj 1 (by decide)), pk_uLn (hj 2 (by decide))]
theorem hr_hear {ph pa : Nat → Nat} {sc sh sl : Nat → Int32} {wt : Nat → Int64} {t c : Nat} : ∀ (r : Nat), r < 25 → (∀ n, 1 ≤ n → n ≤ r → pa n < n) → ∀ (tok : Nat → Int64),
    (∀ n s, 1 ≤ n → n ≤ r → s < 3 → wt_hear ph pa r sc sh sl wt t c tok (wt_pl c n s) = hr_F ph pa sc sh sl wt t tok c n s) ∧ ∀ j, (∀ n s, 1 ≤ n → n ≤ r → s < 3 → j ≠ wt_pl c n s) → wt_hear ph pa r sc sh sl wt t c tok j = tok j := by
  intro r
  induction r with
  | zero => intro _ _ tok; exact ⟨fun n s h1 h2 => absurd h2 (by omega), fun j _ => rfl⟩
  | succ r ih =>
    intro hr hpa tok
    have e : wt_hear ph pa (r + 1) sc sh sl wt t c tok = wt_hear ph pa r sc sh sl wt t c (wt_hn ph pa sc sh sl wt t c (r + 1) tok) := rfl
    obtain ⟨a1, a2⟩ := hr_hn (ph := ph) (sc := sc) (sh := sh) (sl := sl) (wt := wt) (t := t) (c := c) (n := r + 1) hr (hpa (r + 1) (by omega) (by omega)) tok
    obtain ⟨b1, b2⟩ := ih (by omega) (fun n h1 h2 => hpa n h1 (by omega)) (wt_hn ph pa sc sh sl wt t c (r + 1) tok)
    have off : ∀ n s, n ≤ r → s < 3 → wt_hn ph pa sc sh sl wt t c (r + 1) tok (wt_pl c n s) = tok (wt_pl c n s) := fun n s h2 hs => a2 _ (fun s' hs' q => absurd (pl_inj (by omega) hs hr hs' q).2.1 (by omega))
    rw [e]
    constructor
    · intro n s h1 h2 hs
      by_cases hn : n = r + 1
      · subst hn
        rw [b2 _ (fun n' s' g1 g2 hs' q => absurd (pl_inj hr hs (by omega) hs' q).2.1 (by omega)), a1 s hs]
      · rw [b1 n s h1 (by omega) hs]
        have hp := hpa n h1 h2
        exact hr_congr (off n s (by omega) hs) (fun _ => off n (s - 1) (by omega) (by omega)) (fun _ _ => off (pa n) 2 (by omega) (by decide))
    · intro j hj
      rw [b2 j (fun n s h1 h2 hs => hj n s h1 (by omega) hs), a2 j (fun s hs => hj (r + 1) s (by omega) (by omega) hs)]
theorem hr_all {ph pa : Nat → Nat} {sz : Nat} {sc sh sl : Nat → Int32} {wt : Nat → Int64} {t : Nat} (hsz : sz < 25) (hpa : ∀ n, 1 ≤ n → n ≤ sz → pa n < n) : ∀ (r i : Nat) (tok : Nat → Int64),
    (∀ c n s, i ≤ c → c < i + r → 1 ≤ n → n ≤ sz → s < 3 → wt_up (fun c tok => wt_hear ph pa sz sc sh sl wt t c tok) r i tok (wt_pl c n s) = hr_F ph pa sc sh sl wt t tok c n s) ∧
    ∀ j, (∀ c n s, i ≤ c → c < i + r → 1 ≤ n → n ≤ sz → s < 3 → j ≠ wt_pl c n s) → wt_up (fun c tok => wt_hear ph pa sz sc sh sl wt t c tok) r i tok j = tok j
  | 0, i, tok => ⟨fun c n s h1 h2 => absurd h2 (by omega), fun j _ => rfl⟩
  | r + 1, i, tok => by
    obtain ⟨a1, a2⟩ := hr_hear (ph := ph) (sc := sc) (sh := sh) (sl := sl) (wt := wt) (t := t) (c := i) sz hsz hpa tok
    obtain ⟨b1, b2⟩ := hr_all (ph := ph) (sc := sc) (sh := sh) (sl := sl) (wt := wt) (t := t) hsz hpa r (i + 1) (wt_hear ph pa sz sc sh sl wt t i tok)
    have off : ∀ c n s, c ≠ i → n < 25 → s < 3 → wt_hear ph pa sz sc sh sl wt t i tok (wt_pl c n s) = tok (wt_pl c n s) := fun c n s hc hn hs => a2 _ (fun n' s' g1 g2 hs' q => absurd (pl_inj hn hs (by omega) hs' q).1 hc)
    constructor
    · intro c n s h1 h2 h3 h4 hs
      show wt_up (fun c tok => wt_hear ph pa sz sc sh sl wt t c tok) r (i + 1) (wt_hear ph pa sz sc sh sl wt t i tok) (wt_pl c n s) = _
      by_cases hc : c = i
      · subst hc
        rw [b2 _ (fun c' n' s' g1 g2 g3 g4 hs' q => absurd (pl_inj (by omega) hs (by omega) hs' q).1 (by omega)), a1 n s h3 h4 hs]
      · rw [b1 c n s (by omega) (by omega) h3 h4 hs]
        have hp := hpa n h3 h4
        exact hr_congr (off c n s hc (by omega) hs) (fun _ => off c n (s - 1) hc (by omega) (by omega)) (fun _ _ => off c (pa n) 2 hc (by omega) (by decide))
    · intro j hj
      show wt_up (fun c tok => wt_hear ph pa sz sc sh sl wt t c tok) r (i + 1) (wt_hear ph pa sz sc sh sl wt t i tok) j = _
      rw [b2 j (fun c n s h1 h2 => hj c n s (by omega) (by omega)), a2 j (fun n s h1 h2 hs => hj i n s (by omega) (by omega) h1 h2 hs)]
