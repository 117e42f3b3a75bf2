/-! a frame in the reference -/
def dt_ok (mn : Nat) (zs wd pn ph pa ch : Nat → Nat) (sz : Nat) (en : Nat → Bool) (kn : Nat → Bool) (co bo gc gb sc sh sl : Nat → Int32) : Prop :=
  mn ≤ 8 ∧ (∀ k, k < mn → 1 ≤ zs k ∧ wd k < 4) ∧ tr_ok mn zs pn ph pa ch sz ∧ sz ≤ 24 ∧ (∀ n w, 1 ≤ n → n ≤ sz → w < 4 → (en (n * 4 + w) = true ↔ ∃ k, k < mn ∧ wd k = w ∧ tr_nd ch pn k (zs k) = n)) ∧ gr_rel kn co bo gc gb ∧ (∀ j, j < 180 → ∃ a : Nat, a < 10000 ∧ sc j = nI a) ∧ (∀ s, s < 3 → ∃ a : Nat, a < 10000 ∧ sh s = nI a) ∧ (∀ s, s < 3 → ∃ a : Nat, a < 10000 ∧ sl s = nI a)
section STEP
variable {mn : Nat} {zs wd pn ph pa ch : Nat → Nat} {sz : Nat} {en : Nat → Bool} {kn : Nat → Bool} {co bo gc gb sc sh sl : Nat → Int32}
theorem come_spec (hd : dt_ok mn zs wd pn ph pa ch sz en kn co bo gc gb sc sh sl) {T t : Nat} (hT : T ≤ 17) (ht : t < 15) {x : wt_N} (hx : tri_all T mn zs x) {k p uv : Nat} (hk : k < mn) (hp : p < 3 * zs k) (huv : uv < 25) {a b c : Nat} (ha : a + 10000 ≤ 50000 * T) (hb : 3 * b + p + 1 ≤ T) (hc : c < 4 ^ b) :
    tri_all T mn zs (wt_come pn sc t k p uv (nI a) (nI b) (nI c) x) ∧ ∀ j z, j < 1800 → (z ≤ tI (EN (wt_come pn sc t k p uv (nI a) (nI b) (nI c) x) j) ↔ z ≤ tI (EN x j) ∧ (j = 225 * k + 25 * p + uv → z ≤ tI (wt_pc (lN (a * 65536 + b * 1024 + c)) (sc (12 * t + 3 * pn (3 * k + p / 3) + p % 3))))) := by
  obtain ⟨hm, -, htr, -, -, -, hsc, -, -⟩ := hd
  have hz := (htr.1 k hk).1
  have hpn := ((htr.1 k hk).2 (p / 3) (by omega)).1
  obtain ⟨s, hs, es⟩ := hsc (12 * t + 3 * pn (3 * k + p / 3) + p % 3) (by omega)
  have k1 := p4_le (show b ≤ 5 by omega)
  have e5 : (4 : Nat) ^ 5 = 1024 := rfl
  have e : wt_come pn sc t k p uv (nI a) (nI b) (nI c) x = wt_put x (225 * k + 25 * p + uv) (nI (a + s)) (nI b) (nI c) := by
    unfold wt_come
    rw [es, nI_add]
  have e2 : wt_pc (lN (a * 65536 + b * 1024 + c)) (sc (12 * t + 3 * pn (3 * k + p / 3) + p % 3)) = enc (nI (a + s)) (nI b) (nI c) := by
    rw [es, tk_pc (by omega) (by omega), enc_n (by omega) (by omega) (by omega)]
    exact congrArg lN (by omega)
  rw [e, e2]
  exact put_spec hT hx hk (by omega) hp (by omega) huv (wt_nI_nem1 (by omega)) (Or.inr ⟨a + s, b, c, rfl, rfl, rfl, by omega, hb, hc⟩)
/-- what a place gives to the next frame -/
def gives (wd zs pn : Nat → Nat) (mn : Nat) (kn : Nat → Bool) (co bo ho le so : Nat → Int32) (t : Nat) (E : Nat → Int64) (i j : Nat) (z : Int) : Prop :=
  (j = 225 * (i / 225) + 25 * (i / 25 % 9) + i % 25 → z ≤ tI (wt_pc (wt_pc (E i) (ho (i / 25 % 9 % 3))) (so (12 * t + 3 * pn (3 * (i / 225) + i / 25 % 9 / 3) + i / 25 % 9 % 3)))) ∧
  (i / 25 % 9 + 1 < 3 * zs (i / 225) → j = 225 * (i / 225) + 25 * (i / 25 % 9 + 1) + i % 25 → z ≤ tI (wt_pc (wt_pc (E i) (le (i / 25 % 9 % 3))) (so (12 * t + 3 * pn (3 * (i / 225) + (i / 25 % 9 + 1) / 3) + (i / 25 % 9 + 1) % 3)))) ∧
  (¬ i / 25 % 9 + 1 < 3 * zs (i / 225) → ∀ j', j' < mn → j = 225 * j' + 25 * 0 + (5 * (i % 5) + wd (i / 225)) → z ≤ tI (wt_pc (wt_pw (wt_pc (wt_pc (E i) (le 2)) (wt_afN kn co bo (i / 5 % 5) (i % 5) (wd (i / 225)))) (nI (wd (i / 225)))) (so (12 * t + 3 * pn (3 * j' + 0 / 3) + 0 % 3))))
theorem tri_EN {T : Nat} (hT : T ≤ 17) {x : wt_N} (hx : tri_all T mn zs x) {j : Nat} (hj : j < 1800) : tk_ok (EN x j) := tri_ok hT (hx j hj).2
theorem up_le3 {C : Nat → Nat → Int → Prop} {I : wt_N → Prop} {step : Nat → wt_N → wt_N} {n0 : Nat} :
    ∀ (r i : Nat) (f : wt_N), I f → (∀ k g, i ≤ k → k < i + r → I g → I (step k g)) → (∀ k g, i ≤ k → k < i + r → I g → ∀ j x, j < n0 → (x ≤ tI (EN (step k g) j) ↔ x ≤ tI (EN g j) ∧ C k j x)) →
      I (wt_up step r i f) ∧ ∀ j x, j < n0 → (x ≤ tI (EN (wt_up step r i f) j) ↔ x ≤ tI (EN f j) ∧ ∀ k, i ≤ k → k < i + r → C k j x)
  | 0, i, f, hI, _, _ => ⟨hI, fun j x _ => ⟨fun q => ⟨q, fun k h1 h2 => absurd h2 (by omega)⟩, fun q => q.1⟩⟩
  | r + 1, i, f, hI, hk, hs => by
    have ih := up_le3 (C := C) (I := I) (step := step) (n0 := n0) r (i + 1) (step i f) (hk i f (Nat.le_refl i) (by omega) hI) (fun k g h1 h2 => hk k g (by omega) (by omega)) (fun k g h1 h2 => hs k g (by omega) (by omega))
    refine ⟨ih.1, fun j x hj => ?_⟩
    show x ≤ tI (EN (wt_up step r (i + 1) (step i f)) j) ↔ _
    rw [ih.2 j x hj, hs i f (Nat.le_refl i) (by omega) hI j x hj]
    constructor
    · intro ⟨⟨q1, q2⟩, q3⟩
      refine ⟨q1, fun k h1 h2 => ?_⟩
      by_cases hki : k = i
      · subst hki; exact q2
      · exact q3 k (by omega) (by omega)
    · intro ⟨q1, q2⟩
      exact ⟨⟨q1, q2 i (Nat.le_refl i) (by omega)⟩, fun k h1 h2 => q2 k (by omega) (by omega)⟩
theorem go_spec (hd : dt_ok mn zs wd pn ph pa ch sz en kn co bo gc gb sc sh sl) {T t : Nat} (hT : T ≤ 15) (ht : t < 15) {x0 x : wt_N} (h0 : tri_all T mn zs x0) (hx : tri_all (T + 1) mn zs x) {i : Nat} (hi : i < 1800) (hal : 0 ≤ x0.1 i) :
    tri_all (T + 1) mn zs (wt_go pn wd zs mn kn co bo sh sl sc x0.1 x0.2.1 x0.2.2 t i x) ∧ ∀ j z, j < 1800 → (z ≤ tI (EN (wt_go pn wd zs mn kn co bo sh sl sc x0.1 x0.2.1 x0.2.2 t i x) j) ↔ z ≤ tI (EN x j) ∧ gives wd zs pn mn kn co bo sh sl sc t (EN x0) i j z) := by
  obtain ⟨hpl, htri⟩ := h0 i hi
  have hne : ¬ x0.1 i = -1 := fun q => by rw [q] at hal; exact absurd hal (by decide)
  obtain ⟨hk, hp⟩ := hpl.resolve_left hne
  obtain ⟨a, b, c, ea, eb, ec, ha, hb, hc⟩ := htri.resolve_left hne
  have hd' := hd
  obtain ⟨hm, hzw, htr, -, -, hgr, -, hsh, hsl⟩ := hd'
  have hz := (htr.1 _ hk).1
  have hz1 := (hzw _ hk).1
  have hw4 := (hzw _ hk).2
  have k1 := p4_le (show b ≤ 4 by omega)
  have e4 : (4 : Nat) ^ 4 = 256 := rfl
  have eE : EN x0 i = lN (a * 65536 + b * 1024 + c) := by
    show enc (x0.1 i) (x0.2.1 i) (x0.2.2 i) = _
    rw [ea, eb, ec, enc_n (by omega) (by omega) (by omega)]
  obtain ⟨h, hh, eh⟩ := hsh (i / 25 % 9 % 3) (by omega)
  obtain ⟨g, hg, eg⟩ := hsl (i / 25 % 9 % 3) (by omega)
  obtain ⟨g2, hg2, eg2⟩ := hsl 2 (by omega)
  -- holding
  have cH := come_spec hd (T := T + 1) (t := t) (by omega) ht hx hk hp (show i % 25 < 25 by omega) (a := a + h) (b := b) (c := c) (by omega) (by omega) hc
  have eH : wt_pc (lN ((a + h) * 65536 + b * 1024 + c)) (sc (12 * t + 3 * pn (3 * (i / 225) + i / 25 % 9 / 3) + i / 25 % 9 % 3)) = wt_pc (wt_pc (EN x0 i) (sh (i / 25 % 9 % 3))) (sc (12 * t + 3 * pn (3 * (i / 225) + i / 25 % 9 / 3) + i / 25 % 9 % 3)) := by
    rw [eE, eh, tk_pc (a := a * 65536 + b * 1024 + c) (by omega) (by omega), show a * 65536 + b * 1024 + c + h * 65536 = (a + h) * 65536 + b * 1024 + c by omega]
  rw [eH] at cH
  unfold wt_go gives
  rw [ea, eb, ec, eh, nI_add]
  rw [eh] at cH
  generalize hy : wt_come pn sc t (i / 225) (i / 25 % 9) (i % 25) (nI (a + h)) (nI b) (nI c) x = y at cH ⊢
  obtain ⟨cH1, cH2⟩ := cH
  unfold wt_goB
  by_cases hl : i / 25 % 9 + 1 < 3 * zs (i / 225)
  · rw [if_pos hl, ea, eb, ec, eg, nI_add]
    have cL := come_spec hd (T := T + 1) (t := t) (by omega) ht cH1 hk hl (show i % 25 < 25 by omega) (a := a + g) (b := b) (c := c) (by omega) (by omega) hc
    have eL : wt_pc (lN ((a + g) * 65536 + b * 1024 + c)) (sc (12 * t + 3 * pn (3 * (i / 225) + (i / 25 % 9 + 1) / 3) + (i / 25 % 9 + 1) % 3)) = wt_pc (wt_pc (EN x0 i) (nI g)) (sc (12 * t + 3 * pn (3 * (i / 225) + (i / 25 % 9 + 1) / 3) + (i / 25 % 9 + 1) % 3)) := by
      rw [eE, tk_pc (a := a * 65536 + b * 1024 + c) (by omega) (by omega), show a * 65536 + b * 1024 + c + g * 65536 = (a + g) * 65536 + b * 1024 + c by omega]
    rw [eL] at cL
    refine ⟨cL.1, fun j z hj => ?_⟩
    rw [cL.2 j z hj, cH2 j z hj]
    constructor
    · intro ⟨⟨q1, q2⟩, q3⟩; exact ⟨q1, q2, fun _ => q3, fun q => absurd hl q⟩
    · intro ⟨q1, q2, q3, _⟩; exact ⟨⟨q1, q2⟩, q3 hl⟩
  · rw [if_neg hl]
    obtain ⟨-, hA⟩ := gr_aft hgr (u := i / 5 % 5) (v := i % 5) (w := wd (i / 225)) (by omega) (by omega) (by omega)
    rcases hA with hA | ⟨A, hA, eA⟩
    · rw [hA, if_pos (by decide)]
      refine ⟨cH1, fun j z hj => ?_⟩
      rw [cH2 j z hj]
      have hle := tk_le (tri_EN (T := T + 1) (by omega) hx hj)
      constructor
      · intro ⟨q1, q2⟩
        refine ⟨q1, q2, fun q => absurd q hl, fun _ j' _ _ => ?_⟩
        rw [tk_pc_m1, tk_pw_dead, tk_pc_dead, tI_dead]
        omega
      · intro ⟨q1, q2, _, _⟩; exact ⟨q1, q2⟩
    · rw [eA, if_neg (nI_pos (by omega)), ea, eb, ec, eg2]
      have e1 : nI a + nI g2 + nI A = nI (a + g2 + A) := by rw [nI_add, nI_add]
      have e2 : nI 4 * nI c + nI (wd (i / 225)) = nI (4 * c + wd (i / 225)) := by rw [pk_mul, nI_add]
      have e3 : nI b + nI 1 = nI (b + 1) := by rw [nI_add]
      rw [e1, e2, e3]
      have p4 : 4 ^ (b + 1) = 4 ^ b * 4 := rfl
      have eW : ∀ j', wt_pc (lN ((a + g2 + A) * 65536 + (b + 1) * 1024 + (4 * c + wd (i / 225)))) (sc (12 * t + 3 * pn (3 * j' + 0 / 3) + 0 % 3)) = wt_pc (wt_pw (wt_pc (wt_pc (EN x0 i) (nI g2)) (nI A)) (nI (wd (i / 225)))) (sc (12 * t + 3 * pn (3 * j' + 0 / 3) + 0 % 3)) := by
        intro j'
        rw [eE, tk_pc (by omega) (by omega), tk_pc (by omega) (by omega)]
        rw [show a * 65536 + b * 1024 + c + g2 * 65536 + A * 65536 = (a + g2 + A) * 65536 + b * 1024 + c by omega, tk_pw (by omega) (by omega) (by omega) hw4, Nat.mul_comm 4 c]
      have loop := up_le3 (I := tri_all (T + 1) mn zs) (C := fun j' j z => j = 225 * j' + 25 * 0 + (5 * (i % 5) + wd (i / 225)) → z ≤ tI (wt_pc (wt_pw (wt_pc (wt_pc (EN x0 i) (nI g2)) (nI A)) (nI (wd (i / 225)))) (sc (12 * t + 3 * pn (3 * j' + 0 / 3) + 0 % 3)))) (n0 := 1800) (step := fun j x => wt_come pn sc t j 0 (5 * (i % 5) + wd (i / 225)) (nI (a + g2 + A)) (nI (b + 1)) (nI (4 * c + wd (i / 225))) x) mn 0 y cH1
        (fun j' g _ hj' hg => (come_spec hd (T := T + 1) (t := t) (by omega) ht hg (show j' < mn by omega) (by have := (hzw j' (by omega)).1; omega) (by omega) (by omega) (by omega) (by omega)).1)
        (fun j' g _ hj' hg j z hj => by
          have q := (come_spec hd (T := T + 1) (t := t) (by omega) ht hg (show j' < mn by omega) (p := 0) (by have := (hzw j' (by omega)).1; omega) (show 5 * (i % 5) + wd (i / 225) < 25 by omega) (a := a + g2 + A) (b := b + 1) (c := 4 * c + wd (i / 225)) (by omega) (by omega) (by omega)).2 j z hj
          rw [eW j'] at q
          exact q)
      refine ⟨loop.1, fun j z hj => ?_⟩
      rw [loop.2 j z hj, cH2 j z hj]
      constructor
      · intro ⟨⟨q1, q2⟩, q3⟩; exact ⟨q1, q2, fun q => absurd q hl, fun _ j' hj' => q3 j' (by omega) (by omega)⟩
      · intro ⟨q1, q2, _, q3⟩; exact ⟨⟨q1, q2⟩, fun j' _ hj' => q3 hl j' (by omega)⟩
end STEP
