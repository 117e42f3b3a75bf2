/-! a frame in both: place by place the same -/
theorem tri_b {T p : Nat} (hT : T ≤ 17) {x d w : Int32} (h : tri T p x d w) : tk_b (2 ^ 40) (enc x d w) := by
  rcases h with rfl | ⟨a, b, c, rfl, rfl, rfl, ha, hb, hc⟩
  · rw [enc_m1]; exact Or.inl rfl
  · have := p4_le (show b ≤ 5 by omega)
    have e5 : (4 : Nat) ^ 5 = 1024 := rfl
    rw [enc_n (by omega) (by omega) (by omega)]
    exact Or.inr ⟨_, by omega, rfl⟩
section MAIN
variable {mn : Nat} {zs wd pn ph pa ch : Nat → Nat} {sz : Nat} {en : Nat → Bool} {kn : Nat → Bool} {co bo gc gb sc sh sl : Nat → Int32}
theorem gives_dead {t : Nat} {E : Nat → Int64} {i j : Nat} {z : Int} (hE : E i = wt_dead) (hz : z ≤ 4611686018427387904) : gives wd zs pn mn kn co bo sh sl sc t E i j z := by
  unfold gives
  rw [hE]
  refine ⟨fun _ => ?_, fun _ _ => ?_, fun _ _ _ _ => ?_⟩
  · rw [tk_pc_dead, tk_pc_dead, tI_dead]; exact hz
  · rw [tk_pc_dead, tk_pc_dead, tI_dead]; exact hz
  · rw [tk_pc_dead, tk_pc_dead, tk_pw_dead, tk_pc_dead, tI_dead]; exact hz
theorem st_spec (hd : dt_ok mn zs wd pn ph pa ch sz en kn co bo gc gb sc sh sl) {T t : Nat} (hT : T ≤ 15) (ht : t < 15) {x0 : wt_N} (h0 : tri_all T mn zs x0) :
    tri_all (T + 1) mn zs (wt_st pn wd zs mn kn co bo sh sl sc t x0) ∧ ∀ j z, j < 1800 → (z ≤ tI (EN (wt_st pn wd zs mn kn co bo sh sl sc t x0) j) ↔ z ≤ 4611686018427387904 ∧ ∀ i, i < 1800 → gives wd zs pn mn kn co bo sh sl sc t (EN x0) i j z) := by
  have dead : ∀ i, i < 1800 → ¬ 0 ≤ x0.1 i → EN x0 i = wt_dead := by
    intro i hi hn
    rcases (h0 i hi).2 with e | ⟨a, b, c, e, -, -, ha, -, -⟩
    · show enc (x0.1 i) _ _ = _
      rw [e, enc_m1]
    · rw [e] at hn
      exact absurd (nI_pos' (by omega)) hn
  have loop := up_le3 (I := tri_all (T + 1) mn zs) (C := fun i j z => gives wd zs pn mn kn co bo sh sl sc t (EN x0) i j z) (n0 := 1800) (step := fun i y => if 0 ≤ x0.1 i then wt_go pn wd zs mn kn co bo sh sl sc x0.1 x0.2.1 x0.2.2 t i y else y) 1800 0 ((fun _ => -1), x0.2.1, x0.2.2) (fun j _ => ⟨Or.inl rfl, Or.inl rfl⟩)
    (fun i g _ hi hg => by
      show tri_all (T + 1) mn zs (if 0 ≤ x0.1 i then _ else g)
      by_cases h : 0 ≤ x0.1 i
      · rw [if_pos h]; exact (go_spec hd hT ht h0 hg (by omega) h).1
      · rw [if_neg h]; exact hg)
    (fun i g _ hi hg j z hj => by
      show z ≤ tI (EN (if 0 ≤ x0.1 i then _ else g) j) ↔ _
      by_cases h : 0 ≤ x0.1 i
      · rw [if_pos h]; exact (go_spec hd hT ht h0 hg (by omega) h).2 j z hj
      · rw [if_neg h]
        have hle := tk_le (tri_EN (T := T + 1) (by omega) hg hj)
        exact ⟨fun q => ⟨q, gives_dead (dead i (by omega) h) (by omega)⟩, fun q => q.1⟩)
  refine ⟨loop.1, fun j z hj => ?_⟩
  have e : z ≤ tI (EN (wt_st pn wd zs mn kn co bo sh sl sc t x0) j) ↔ _ := loop.2 j z hj
  rw [e]
  have e2 : tI (EN ((fun _ => -1), x0.2.1, x0.2.2) j) = 4611686018427387904 := by
    show tI (enc (-1) _ _) = _
    rw [enc_m1, tI_dead]
  rw [e2]
  constructor
  · intro ⟨q1, q2⟩; exact ⟨q1, fun i hi => q2 i (by omega) (by omega)⟩
  · intro ⟨q1, q2⟩; exact ⟨q1, fun i _ hi => q2 i (by omega)⟩
/-- the class's tokens are the reference's -/
def same (mn : Nat) (zs pn ch : Nat → Nat) (tok : Nat → Int64) (x : wt_N) : Prop := ∀ k p uv, k < mn → p < 3 * zs k → uv < 25 → tok (wt_pl uv (tr_nd ch pn k (p / 3 + 1)) (p % 3)) = EN x (225 * k + 25 * p + uv)
/-- what waits is what has ended a word -/
def waits (en : Nat → Bool) (sz : Nat) (gc gb sl : Nat → Int32) (tok wt : Nat → Int64) : Prop := (∀ j, j < 25 → tk_b (2 ^ 42) (wt j)) ∧ ∀ j (x : Int), j < 25 → (x ≤ tI (wt j) ↔ x ≤ 4611686018427387904 ∧ ∀ c n w, c < 25 → 1 ≤ n → n ≤ sz → w < 4 → en (n * 4 + w) = true → j = wt_cx (c % 5) w → x ≤ tI (wa_z gc gb sl tok c n w))
/-- a word's end: the token with the word -/
theorem ends_b (hd : dt_ok mn zs wd pn ph pa ch sz en kn co bo gc gb sc sh sl) {T : Nat} (hT : T ≤ 15) {x0 : wt_N} (h0 : tri_all T mn zs x0) {i : Nat} (hi : i < 1800) (hk : i / 225 < mn) (hp : i / 25 % 9 < 3 * zs (i / 225)) (he : i / 25 % 9 = 3 * zs (i / 225) - 1) : tk_b (2 ^ 42) (wt_pw (wt_pc (wt_pc (EN x0 i) (sl 2)) (wt_afN kn co bo (i / 5 % 5) (i % 5) (wd (i / 225)))) (nI (wd (i / 225)))) := by
  obtain ⟨hm, hzw, htr, -, -, hgr, -, -, hsl⟩ := hd
  have hw4 := (hzw _ hk).2
  have hz1 := (hzw _ hk).1
  obtain ⟨g, hg, eg⟩ := hsl 2 (by omega)
  obtain ⟨-, hA⟩ := gr_aft hgr (u := i / 5 % 5) (v := i % 5) (w := wd (i / 225)) (by omega) (by omega) (by omega)
  rcases hA with hA | ⟨A, hA, eA⟩
  · rw [hA, tk_pc_m1, tk_pw_dead]; exact Or.inl rfl
  · rw [eA, eg]
    show tk_b (2 ^ 42) (wt_pw (wt_pc (wt_pc (enc (x0.1 i) (x0.2.1 i) (x0.2.2 i)) (nI g)) (nI A)) (nI (wd (i / 225))))
    rcases (h0 i hi).2 with e | ⟨a, b, c, ea, eb, ec, ha, hb, hc⟩
    · rw [e, enc_m1, tk_pc_dead, tk_pc_dead, tk_pw_dead]; exact Or.inl rfl
    · have k1 := p4_le (show b ≤ 4 by omega)
      have e4 : (4 : Nat) ^ 4 = 256 := rfl
      rw [ea, eb, ec, enc_n (by omega) (by omega) (by omega), tk_pc (by omega) (by omega), tk_pc (by omega) (by omega)]
      rw [show a * 65536 + b * 1024 + c + g * 65536 + A * 65536 = (a + g + A) * 65536 + b * 1024 + c by omega, tk_pw (by omega) (by omega) (by omega) hw4]
      exact Or.inr ⟨_, by omega, rfl⟩
theorem ends_ok (hd : dt_ok mn zs wd pn ph pa ch sz en kn co bo gc gb sc sh sl) {T : Nat} (hT : T ≤ 15) {x0 : wt_N} (h0 : tri_all T mn zs x0) {i : Nat} (hi : i < 1800) (hk : i / 225 < mn) (hp : i / 25 % 9 < 3 * zs (i / 225)) (he : i / 25 % 9 = 3 * zs (i / 225) - 1) : tk_ok (wt_pw (wt_pc (wt_pc (EN x0 i) (sl 2)) (wt_afN kn co bo (i / 5 % 5) (i % 5) (wd (i / 225)))) (nI (wd (i / 225)))) := tk_b_ok (ends_b hd hT h0 hi hk hp he) (by decide)
theorem main_step (hd : dt_ok mn zs wd pn ph pa ch sz en kn co bo gc gb sc sh sl) {T t : Nat} (hT : T ≤ 15) (ht : t < 15) {x0 : wt_N} (h0 : tri_all T mn zs x0) {tok wt : Nat → Int64} (hs : same mn zs pn ch tok x0) (hw : waits en sz gc gb sl tok wt) :
    same mn zs pn ch (wt_ha ph pa sz sc sh sl wt t tok) (wt_st pn wd zs mn kn co bo sh sl sc t x0) := by
  intro K P UV hK hP hUV
  have hd' := hd
  obtain ⟨hm, hzw, htr, hsz, hen, hgr, hsc, hsh, hsl⟩ := hd'
  have hz := (htr.1 K hK).1
  obtain ⟨hpn, hn1, hn2, hph, hpa⟩ := (htr.1 K hK).2 (P / 3) (by omega)
  have hjl : 225 * K + 25 * P + UV < 1800 := by omega
  have i1 : (225 * K + 25 * P + UV) / 225 = K := by omega
  have i2 : (225 * K + 25 * P + UV) / 25 % 9 = P := by omega
  have i3 : (225 * K + 25 * P + UV) % 25 = UV := by omega
  obtain ⟨-, hst⟩ := st_spec hd hT ht h0
  have hall := (hr_all (ph := ph) (pa := pa) (sc := sc) (sh := sh) (sl := sl) (wt := wt) (t := t) (sz := sz) (by omega) (fun n h1 h2 => (htr.2.1 n h1 h2).1) 25 0 tok).1 UV (tr_nd ch pn K (P / 3 + 1)) (P % 3) (by omega) (by omega) hn1 hn2 (by omega)
  obtain ⟨S, hS, eS⟩ := hsc (12 * t + 3 * pn (3 * K + P / 3) + P % 3) (by omega)
  obtain ⟨h, hh, eh⟩ := hsh (P % 3) (by omega)
  have eix : t * 12 + ph (tr_nd ch pn K (P / 3 + 1)) * 3 + P % 3 = 12 * t + 3 * pn (3 * K + P / 3) + P % 3 := by rw [hph]; omega
  -- the tokens that come
  have hcmb : tk_b (2 ^ 42) (wt_cm pa sl tok wt UV (tr_nd ch pn K (P / 3 + 1)) (P % 3)) := by
    unfold wt_cm wt_lv
    by_cases hs0 : 0 < P % 3
    · rw [if_pos hs0]
      obtain ⟨g, hg, eg⟩ := hsl (P % 3 - 1) (by omega)
      have e := hs K (P - 1) UV hK (by omega) hUV
      rw [show (P - 1) / 3 = P / 3 by omega, show (P - 1) % 3 = P % 3 - 1 by omega] at e
      rw [e, eg]
      exact tk_b_up (tk_b_pc (tri_b (T := T) (by omega) (h0 _ (by omega)).2) (by decide) (by omega)) (by decide)
    · rw [if_neg hs0]
      by_cases hp0 : pa (tr_nd ch pn K (P / 3 + 1)) = 0
      · rw [if_pos hp0]; exact hw.1 UV hUV
      · rw [if_neg hp0, hpa]
        obtain ⟨g, hg, eg⟩ := hsl 2 (by omega)
        have hP3 : 3 ≤ P := by
          rw [hpa] at hp0
          by_cases hP0 : P / 3 = 0
          · rw [hP0] at hp0; exact absurd rfl hp0
          · omega
        have e := hs K (P - 1) UV hK (by omega) hUV
        rw [show (P - 1) / 3 + 1 = P / 3 by omega, show (P - 1) % 3 = 2 by omega] at e
        rw [e, eg]
        exact tk_b_up (tk_b_pc (tri_b (T := T) (by omega) (h0 _ (by omega)).2) (by decide) (by omega)) (by decide)
  have hEb : tk_b (2 ^ 40) (EN x0 (225 * K + 25 * P + UV)) := tri_b (T := T) (by omega) (h0 _ hjl).2
  show wt_up (fun c tok => wt_hear ph pa sz sc sh sl wt t c tok) 25 0 tok _ = _
  rw [hall]
  unfold hr_F
  rw [eix, eS, hs K P UV hK hP hUV]
  apply tI_ext
  intro x
  have hE2 : tk_b (2 ^ 42) (wt_pc (EN x0 (225 * K + 25 * P + UV)) (sh (P % 3))) := by rw [eh]; exact tk_b_up (tk_b_pc hEb (by decide) (by omega)) (by decide)
  rw [tk_gal (tk_b_ok (tk_b_lm hE2 hcmb) (by decide)) (by omega), tI_lm, hst _ x hjl]
  -- what is left: the two sides, part by part
  constructor
  · intro ⟨q0, q1, q2⟩
    refine ⟨q0, fun i hi => ⟨fun hj => ?_, fun hl hj => ?_, fun hl j' hj' hj => ?_⟩⟩
    · have ei : i = 225 * K + 25 * P + UV := by omega
      subst ei
      rw [i1, i2, eS, tk_gal (tk_b_ok hE2 (by decide)) (by omega)]
      exact ⟨q0, q1⟩
    · rcases (h0 i hi).1 with hdead | ⟨hk, hp⟩
      · have e : EN x0 i = wt_dead := by show enc (x0.1 i) _ _ = _; rw [hdead, enc_m1]
        rw [e, tk_pc_dead, tk_pc_dead, tI_dead]
        exact q0
      · have hz3 := (htr.1 _ hk).1
        have e1 : i / 225 = K := by omega
        have e2 : i / 25 % 9 + 1 = P := by omega
        have ei : i = 225 * K + 25 * (P - 1) + UV := by omega
        have e3 : i / 25 % 9 = P - 1 := by omega
        rw [e1, e2, e3, eS]
        obtain ⟨g, hg, eg⟩ := hsl ((P - 1) % 3) (by omega)
        have hb : tk_b (2 ^ 42) (wt_pc (EN x0 i) (sl ((P - 1) % 3))) := by rw [eg]; exact tk_b_up (tk_b_pc (tri_b (T := T) (by omega) (h0 i hi).2) (by decide) (by omega)) (by decide)
        rw [tk_gal (tk_b_ok hb (by decide)) (by omega)]
        refine ⟨q0, ?_⟩
        have ecm : wt_cm pa sl tok wt UV (tr_nd ch pn K (P / 3 + 1)) (P % 3) = wt_pc (EN x0 i) (sl ((P - 1) % 3)) := by
          unfold wt_cm wt_lv
          have e := hs K (P - 1) UV hK (by omega) hUV
          rw [← ei] at e
          by_cases hs0 : 0 < P % 3
          · rw [if_pos hs0, ← e, show (P - 1) / 3 = P / 3 by omega, show (P - 1) % 3 = P % 3 - 1 by omega]
          · have hp0 : ¬ pa (tr_nd ch pn K (P / 3 + 1)) = 0 := by
              rw [hpa]
              have := ((htr.1 K hK).2 (P / 3 - 1) (by omega)).2.1
              rw [show P / 3 - 1 + 1 = P / 3 by omega] at this
              omega
            rw [if_neg hs0, if_neg hp0, hpa, ← e, show (P - 1) / 3 + 1 = P / 3 by omega, show (P - 1) % 3 = 2 by omega]
        rw [← ecm]
        exact q2
    · rcases (h0 i hi).1 with hdead | ⟨hk, hp⟩
      · have e : EN x0 i = wt_dead := by show enc (x0.1 i) _ _ = _; rw [hdead, enc_m1]
        rw [e, tk_pc_dead, tk_pc_dead, tk_pw_dead, tk_pc_dead, tI_dead]
        exact q0
      · have hw4 := (hzw _ hk).2
        have hz1 := (hzw _ hk).1
        have hz3 := (htr.1 _ hk).1
        have e1 : j' = K := by omega
        have e2 : P = 0 := by omega
        have e3 : UV = 5 * (i % 5) + wd (i / 225) := by omega
        have e4 : i / 25 % 9 = 3 * zs (i / 225) - 1 := by omega
        subst e2
        rw [e1]
        have eS0 : sc (12 * t + 3 * pn (3 * K + 0 / 3) + 0 % 3) = nI S := eS
        rw [eS0]
        obtain ⟨g1, g2, -, -⟩ := ((htr.1 _ hk).2 (zs (i / 225) - 1) (by omega)).2
        rw [show zs (i / 225) - 1 + 1 = zs (i / 225) by omega] at g1 g2
        have eT := hs (i / 225) (i / 25 % 9) (i % 25) hk hp (by omega)
        rw [show 225 * (i / 225) + 25 * (i / 25 % 9) + i % 25 = i by omega, e4, show (3 * zs (i / 225) - 1) / 3 + 1 = zs (i / 225) by omega, show (3 * zs (i / 225) - 1) % 3 = 2 by omega] at eT
        have ecm : wt_cm pa sl tok wt UV (tr_nd ch pn K (0 / 3 + 1)) (0 % 3) = wt UV := by
          unfold wt_cm
          rw [if_neg (by decide), if_pos (by rw [hpa]; rfl)]
        have q3 : x - (S : Int) * 65536 ≤ tI (wt UV) := by rw [← ecm]; exact q2
        have q4 := ((hw.2 UV _ hUV).mp q3).2 (i % 25) (tr_nd ch pn (i / 225) (zs (i / 225))) (wd (i / 225)) (by omega) g1 g2 hw4 ((hen _ _ g1 g2 hw4).mpr ⟨i / 225, hk, rfl, rfl⟩) (by unfold wt_cx; omega)
        have ez : wa_z gc gb sl tok (i % 25) (tr_nd ch pn (i / 225) (zs (i / 225))) (wd (i / 225)) = wt_pw (wt_pc (wt_pc (EN x0 i) (sl 2)) (wt_afN kn co bo (i / 5 % 5) (i % 5) (wd (i / 225)))) (nI (wd (i / 225))) := by
          unfold wa_z wt_lv
          rw [eT, show i % 25 / 5 = i / 5 % 5 by omega, show i % 25 % 5 = i % 5 by omega, (gr_aft hgr (u := i / 5 % 5) (v := i % 5) (w := wd (i / 225)) (by omega) (by omega) (by omega)).1]
        rw [ez] at q4
        rw [tk_gal (ends_ok hd (by omega) h0 hi hk hp e4) (by omega)]
        exact ⟨q0, q4⟩
  · intro ⟨q0, q⟩
    refine ⟨q0, ?_, ?_⟩
    · have := (q (225 * K + 25 * P + UV) hjl).1 (by omega)
      rw [i1, i2, eS, tk_gal (tk_b_ok hE2 (by decide)) (by omega)] at this
      exact this.2
    · by_cases hP0 : P = 0
      · subst hP0
        have ecm : wt_cm pa sl tok wt UV (tr_nd ch pn K (0 / 3 + 1)) (0 % 3) = wt UV := by
          unfold wt_cm
          rw [if_neg (by decide), if_pos (by rw [hpa]; rfl)]
        rw [ecm, hw.2 UV _ hUV]
        refine ⟨by omega, fun c n w hc h1 h2 hw4 hen' hj => ?_⟩
        obtain ⟨k, hk, rfl, rfl⟩ := (hen n w h1 h2 hw4).mp hen'
        have hz1 := (hzw k hk).1
        have hz3 := (htr.1 k hk).1
        have j1 : (225 * k + 25 * (3 * zs k - 1) + c) / 225 = k := by omega
        have j2 : (225 * k + 25 * (3 * zs k - 1) + c) / 25 % 9 = 3 * zs k - 1 := by omega
        have j3 : (225 * k + 25 * (3 * zs k - 1) + c) % 5 = c % 5 := by omega
        have j4 : (225 * k + 25 * (3 * zs k - 1) + c) / 5 % 5 = c / 5 := by omega
        have jl : 225 * k + 25 * (3 * zs k - 1) + c < 1800 := by omega
        have g := (q (225 * k + 25 * (3 * zs k - 1) + c) jl).2.2
        have ok := ends_ok hd (T := T) (by omega) h0 jl (by rw [j1]; exact hk) (by rw [j1, j2]; omega) (by rw [j1, j2])
        rw [j1, j2, j3, j4] at g
        rw [j1, j3, j4] at ok
        unfold wt_cx at hj
        have g2 := g (by omega) K hK (by omega)
        have eS0 : sc (12 * t + 3 * pn (3 * K + 0 / 3) + 0 % 3) = nI S := eS
        rw [eS0, tk_gal ok (by omega)] at g2
        have eT := hs k (3 * zs k - 1) c hk (by omega) hc
        rw [show (3 * zs k - 1) / 3 + 1 = zs k by omega, show (3 * zs k - 1) % 3 = 2 by omega] at eT
        have ez : wa_z gc gb sl tok c (tr_nd ch pn k (zs k)) (wd k) = wt_pw (wt_pc (wt_pc (EN x0 (225 * k + 25 * (3 * zs k - 1) + c)) (sl 2)) (wt_afN kn co bo (c / 5) (c % 5) (wd k))) (nI (wd k)) := by
          unfold wa_z wt_lv
          rw [eT, (gr_aft hgr (u := c / 5) (v := c % 5) (w := wd k) (by omega) (by omega) (by omega)).1]
        rw [ez]
        exact g2.2
      · have j1 : (225 * K + 25 * (P - 1) + UV) / 225 = K := by omega
        have j2 : (225 * K + 25 * (P - 1) + UV) / 25 % 9 = P - 1 := by omega
        have j3 : (225 * K + 25 * (P - 1) + UV) % 25 = UV := by omega
        have jl : 225 * K + 25 * (P - 1) + UV < 1800 := by omega
        have g := (q (225 * K + 25 * (P - 1) + UV) jl).2.1
        rw [j1, j2, j3, show P - 1 + 1 = P by omega] at g
        have g2 := g hP rfl
        obtain ⟨gl, hgl, egl⟩ := hsl ((P - 1) % 3) (by omega)
        have hb : tk_b (2 ^ 42) (wt_pc (EN x0 (225 * K + 25 * (P - 1) + UV)) (sl ((P - 1) % 3))) := by rw [egl]; exact tk_b_up (tk_b_pc (tri_b (T := T) (by omega) (h0 _ jl).2) (by decide) (by omega)) (by decide)
        rw [eS, tk_gal (tk_b_ok hb (by decide)) (by omega)] at g2
        have ecm : wt_cm pa sl tok wt UV (tr_nd ch pn K (P / 3 + 1)) (P % 3) = wt_pc (EN x0 (225 * K + 25 * (P - 1) + UV)) (sl ((P - 1) % 3)) := by
          unfold wt_cm wt_lv
          have e := hs K (P - 1) UV hK (by omega) hUV
          by_cases hs0 : 0 < P % 3
          · rw [if_pos hs0, ← e, show (P - 1) / 3 = P / 3 by omega, show (P - 1) % 3 = P % 3 - 1 by omega]
          · have hp0 : ¬ pa (tr_nd ch pn K (P / 3 + 1)) = 0 := by
              rw [hpa]
              have := ((htr.1 K hK).2 (P / 3 - 1) (by omega)).2.1
              rw [show P / 3 - 1 + 1 = P / 3 by omega] at this
              omega
            rw [if_neg hs0, if_neg hp0, hpa, ← e, show (P - 1) / 3 + 1 = P / 3 by omega, show (P - 1) % 3 = 2 by omega]
        rw [ecm]
        exact g2.2
end MAIN
