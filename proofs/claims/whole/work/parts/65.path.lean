/-! the whole path of both -/
theorem up_le1 {σ : Type} {v : σ → Int64} {C : Nat → Int → Prop} {I : σ → Prop} {step : Nat → σ → σ} :
    ∀ (r i : Nat) (f : σ), I f → (∀ k g, i ≤ k → k < i + r → I g → I (step k g)) → (∀ k g, i ≤ k → k < i + r → I g → ∀ x : Int, (x ≤ tI (v (step k g)) ↔ x ≤ tI (v g) ∧ C k x)) →
      I (wt_up step r i f) ∧ ∀ x : Int, (x ≤ tI (v (wt_up step r i f)) ↔ x ≤ tI (v f) ∧ ∀ k, i ≤ k → k < i + r → C k x)
  | 0, i, f, hI, _, _ => ⟨hI, fun x => ⟨fun q => ⟨q, fun k h1 h2 => absurd h2 (by omega)⟩, fun q => q.1⟩⟩
  | r + 1, i, f, hI, hk, hs => by
    have ih := up_le1 (v := v) (C := C) (I := I) (step := step) r (i + 1) (step i f) (hk i f (Nat.le_refl i) (by omega) hI) (fun k g h1 h2 => hk k g (by omega) (by omega)) (fun k g h1 h2 => hs k g (by omega) (by omega))
    refine ⟨ih.1, fun x => ?_⟩
    show x ≤ tI (v (wt_up step r (i + 1) (step i f))) ↔ _
    rw [ih.2 x, hs i f (Nat.le_refl i) (by omega) hI x]
    constructor
    · intro ⟨⟨q1, q2⟩, q3⟩
      refine ⟨q1, fun k h1 h2 => ?_⟩
      by_cases hki : k = i
      · subst hki; exact q2
      · exact q3 k (by omega) (by omega)
    · intro ⟨q1, q2⟩
      exact ⟨⟨q1, q2 i (Nat.le_refl i) (by omega)⟩, fun k h1 h2 => q2 k (by omega) (by omega)⟩
def eT (y : Int32 × Int32 × Int32) : Int64 := enc y.1 y.2.1 y.2.2
def wok (y : Int32 × Int32 × Int32) : Prop := tri 17 0 y.1 y.2.1 y.2.2 ∧ (y.1 = -1 → y.2.1 = nI 0 ∧ y.2.2 = nI 0)
section PATH
variable {mn : Nat} {zs wd pn ph pa ch : Nat → Nat} {sz : Nat} {en : Nat → Bool} {kn : Nat → Bool} {co bo gc gb sc sh sl fp : Nat → Int32}
def endC (wd zs : Nat → Nat) (kn : Nat → Bool) (co bo sl : Nat → Int32) (E : Nat → Int64) (i : Nat) (z : Int) : Prop :=
  i / 25 % 9 = 3 * zs (i / 225) - 1 → z ≤ tI (wt_pc (wt_pw (wt_pc (wt_pc (E i) (sl 2)) (wt_afN kn co bo (i / 5 % 5) (i % 5) (wd (i / 225)))) (nI (wd (i / 225)))) (wt_afN kn co bo (i % 5) (wd (i / 225)) 4))
theorem wok_le {y : Int32 × Int32 × Int32} (h : wok y) : tI (eT y) ≤ 4611686018427387904 := tk_le (tri_ok (by omega) h.1)
theorem wh_step (hd : dt_ok mn zs wd pn ph pa ch sz en kn co bo gc gb sc sh sl) {T : Nat} (hT : T ≤ 15) {x : wt_N} (h0 : tri_all T mn zs x) {i : Nat} (hi : i < 225 * mn) {y : Int32 × Int32 × Int32} (hy : wok y) :
    wok (wt_wh1 wd zs kn co bo sl x.1 x.2.1 x.2.2 i y) ∧ ∀ z : Int, (z ≤ tI (eT (wt_wh1 wd zs kn co bo sl x.1 x.2.1 x.2.2 i y)) ↔ z ≤ tI (eT y) ∧ endC wd zs kn co bo sl (EN x) i z) := by
  obtain ⟨hm, hzw, htr, -, -, hgr, -, -, hsl⟩ := hd
  have hle := wok_le hy
  have hi2 : i < 1800 := by omega
  have hk : i / 225 < mn := by omega
  have hw4 := (hzw _ hk).2
  have hz1 := (hzw _ hk).1
  obtain ⟨g, hg, eg⟩ := hsl 2 (by omega)
  have keep : (∀ z : Int, z ≤ 4611686018427387904 → endC wd zs kn co bo sl (EN x) i z) → wt_wh1 wd zs kn co bo sl x.1 x.2.1 x.2.2 i y = y → wok (wt_wh1 wd zs kn co bo sl x.1 x.2.1 x.2.2 i y) ∧ ∀ z : Int, (z ≤ tI (eT (wt_wh1 wd zs kn co bo sl x.1 x.2.1 x.2.2 i y)) ↔ z ≤ tI (eT y) ∧ endC wd zs kn co bo sl (EN x) i z) := by
    intro h e
    rw [e]
    exact ⟨hy, fun z => ⟨fun q => ⟨q, h z (by omega)⟩, fun q => q.1⟩⟩
  by_cases hp : i / 25 % 9 = 3 * zs (i / 225) - 1
  · rcases (h0 i hi2).2 with hdead | ⟨a, b, c, ea, eb, ec, ha, hb, hc⟩
    · refine keep (fun z hz _ => ?_) (if_neg (fun q => by have := q.1; unfold wt_ends at this; rw [hdead] at this; exact absurd this (by rw [decide_eq_false (show ¬ (0 : Int32) ≤ -1 by decide), Bool.false_and]; decide)))
      have e : EN x i = wt_dead := by show enc (x.1 i) _ _ = _; rw [hdead, enc_m1]
      rw [e, tk_pc_dead, tk_pc_dead, tk_pw_dead, tk_pc_dead, tI_dead]; exact hz
    · have k1 := p4_le (show b ≤ 4 by omega)
      have e4 : (4 : Nat) ^ 4 = 256 := rfl
      obtain ⟨-, hA⟩ := gr_aft hgr (u := i / 5 % 5) (v := i % 5) (w := wd (i / 225)) (by omega) (by omega) (by omega)
      obtain ⟨-, hB⟩ := gr_aft hgr (u := i % 5) (v := wd (i / 225)) (w := 4) (by omega) (by omega) (by omega)
      rcases hA with hA | ⟨A, hA, eA⟩
      · refine keep (fun z hz _ => ?_) (if_neg (fun q => q.2.1 (by rw [hA]; decide)))
        rw [hA, tk_pc_m1, tk_pw_dead, tk_pc_dead, tI_dead]; exact hz
      · rcases hB with hB | ⟨B, hB, eB⟩
        · refine keep (fun z hz _ => ?_) (if_neg (fun q => q.2.2.1 (by rw [hB]; decide)))
          rw [hB, tk_pc_m1, tI_dead]; exact hz
        · have p4 : 4 ^ (b + 1) = 4 ^ b * 4 := rfl
          have eV : x.1 i + sl 2 + wt_afN kn co bo (i / 5 % 5) (i % 5) (wd (i / 225)) + wt_afN kn co bo (i % 5) (wd (i / 225)) 4 = nI (a + g + A + B) := by rw [ea, eg, eA, eB, nI_add, nI_add, nI_add]
          have eD : x.2.1 i + nI 1 = nI (b + 1) := by rw [eb, nI_add]
          have eC : nI 4 * x.2.2 i + nI (wd (i / 225)) = nI (4 * c + wd (i / 225)) := by rw [ec, pk_mul, nI_add]
          have hn : tri 17 0 (nI (a + g + A + B)) (nI (b + 1)) (nI (4 * c + wd (i / 225))) := Or.inr ⟨_, _, _, rfl, rfl, rfl, by omega, by omega, by omega⟩
          have hbt := bet_iff (T := 17) (p := 0) (q := 0) (by omega) (a := a + g + A + B) (b := b + 1) (c := 4 * c + wd (i / 225)) (by omega) (by omega) (by omega) hy.1
          have eE : wt_pc (wt_pw (wt_pc (wt_pc (EN x i) (sl 2)) (wt_afN kn co bo (i / 5 % 5) (i % 5) (wd (i / 225)))) (nI (wd (i / 225)))) (wt_afN kn co bo (i % 5) (wd (i / 225)) 4) = enc (nI (a + g + A + B)) (nI (b + 1)) (nI (4 * c + wd (i / 225))) := by
            rw [enc_n (by omega) (by omega) (by omega), eA, eB, eg]
            have e1 : EN x i = lN (a * 65536 + b * 1024 + c) := by show enc _ _ _ = _; rw [ea, eb, ec, enc_n (by omega) (by omega) (by omega)]
            rw [e1, tk_pc (by omega) (by omega), tk_pc (by omega) (by omega), show a * 65536 + b * 1024 + c + g * 65536 + A * 65536 = (a + g + A) * 65536 + b * 1024 + c by omega, tk_pw (by omega) (by omega) (by omega) hw4, tk_pc (by omega) (by omega)]
            exact congrArg lN (by omega)
          have hen : wt_ends zs x.1 i = true := by
            unfold wt_ends
            rw [decide_eq_true (show 0 ≤ x.1 i by rw [ea]; exact nI_pos' (by omega)), decide_eq_true hp]; rfl
          have eEC : ∀ z : Int, endC wd zs kn co bo sl (EN x) i z ↔ z ≤ tI (enc (nI (a + g + A + B)) (nI (b + 1)) (nI (4 * c + wd (i / 225)))) := by
            intro z
            unfold endC
            rw [eE]
            exact ⟨fun q => q hp, fun q _ => q⟩
          by_cases hq : wt_bet (nI (a + g + A + B)) (nI (b + 1)) (nI (4 * c + wd (i / 225))) y.1 y.2.1 y.2.2 = true
          · have e : wt_wh1 wd zs kn co bo sl x.1 x.2.1 x.2.2 i y = (nI (a + g + A + B), nI (b + 1), nI (4 * c + wd (i / 225))) := by
              unfold wt_wh1
              rw [eV, eD, eC]
              exact if_pos ⟨hen, by rw [eA]; exact nI_pos (by omega), by rw [eB]; exact nI_pos (by omega), hq⟩
            have hlt : tI (enc (nI (a + g + A + B)) (nI (b + 1)) (nI (4 * c + wd (i / 225)))) < tI (eT y) := Int64.lt_iff_toInt_lt.mp (hbt.mp hq)
            rw [e]
            refine ⟨⟨hn, fun q => absurd q (wt_nI_nem1 (by omega))⟩, fun z => ?_⟩
            rw [eEC z]
            constructor
            · intro q
              have q' : z ≤ tI (enc (nI (a + g + A + B)) (nI (b + 1)) (nI (4 * c + wd (i / 225)))) := q
              exact ⟨by omega, q'⟩
            · intro q; exact q.2
          · have e : wt_wh1 wd zs kn co bo sl x.1 x.2.1 x.2.2 i y = y := by
              unfold wt_wh1
              rw [eV, eD, eC]
              exact if_neg (fun q => hq q.2.2.2)
            have hge : ¬ tI (enc (nI (a + g + A + B)) (nI (b + 1)) (nI (4 * c + wd (i / 225)))) < tI (eT y) := fun q => hq (hbt.mpr (Int64.lt_iff_toInt_lt.mpr q))
            rw [e]
            refine ⟨hy, fun z => ?_⟩
            rw [eEC z]
            exact ⟨fun q => ⟨q, by omega⟩, fun q => q.1⟩
  · exact keep (fun z _ q => absurd q hp) (if_neg (fun q => by have := q.1; unfold wt_ends at this; rw [decide_eq_false hp, Bool.and_false] at this; exact absurd this (by decide)))
theorem wh_all (hd : dt_ok mn zs wd pn ph pa ch sz en kn co bo gc gb sc sh sl) {T : Nat} (hT : T ≤ 15) {x : wt_N} (h0 : tri_all T mn zs x) :
    wok (wt_wh wd zs mn kn co bo sl x.1 x.2.1 x.2.2) ∧ ∀ z : Int, (z ≤ tI (eT (wt_wh wd zs mn kn co bo sl x.1 x.2.1 x.2.2)) ↔ z ≤ 4611686018427387904 ∧ ∀ i, i < 225 * mn → endC wd zs kn co bo sl (EN x) i z) := by
  have loop := up_le1 (v := eT) (I := wok) (C := fun i z => endC wd zs kn co bo sl (EN x) i z) (step := fun i y => wt_wh1 wd zs kn co bo sl x.1 x.2.1 x.2.2 i y) (225 * mn) 0 (-1, nI 0, nI 0) ⟨Or.inl rfl, fun _ => ⟨rfl, rfl⟩⟩ (fun i y _ hi hy => (wh_step hd hT h0 (by omega) hy).1) (fun i y _ hi hy => (wh_step hd hT h0 (by omega) hy).2)
  refine ⟨loop.1, fun z => ?_⟩
  have e : z ≤ tI (eT (wt_wh wd zs mn kn co bo sl x.1 x.2.1 x.2.2)) ↔ _ := loop.2 z
  have e2 : tI (eT (-1, nI 0, nI 0)) = 4611686018427387904 := by show tI (enc (-1) _ _) = _; rw [enc_m1, tI_dead]
  rw [e, e2]
  constructor
  · intro ⟨q1, q2⟩; exact ⟨q1, fun i hi => q2 i (by omega) (by omega)⟩
  · intro ⟨q1, q2⟩; exact ⟨q1, fun i _ hi => q2 i (by omega)⟩
theorem ep_all (gc gb : Nat → Int32) (wt : Nat → Int64) : ∀ z : Int, (z ≤ tI (wt_ep gc gb wt) ↔ z ≤ 4611686018427387904 ∧ ∀ u, 0 ≤ u → u < 0 + 5 → ∀ v, 0 ≤ v → v < 0 + 4 → z ≤ tI (wt_pc (wt (wt_cx u v)) (wt_aft gc gb u v 4))) := by
  have inner : ∀ u (w : Int64), ∀ z : Int, (z ≤ tI (wt_up (fun v x => wt_ep1 gc gb wt u v x) 4 0 w) ↔ z ≤ tI w ∧ ∀ v, 0 ≤ v → v < 0 + 4 → z ≤ tI (wt_pc (wt (wt_cx u v)) (wt_aft gc gb u v 4))) := fun u w =>
    (up_le1 (v := fun x => x) (I := fun _ => True) (C := fun v z => z ≤ tI (wt_pc (wt (wt_cx u v)) (wt_aft gc gb u v 4))) (step := fun v x => wt_ep1 gc gb wt u v x) 4 0 w trivial (fun _ _ _ _ _ => trivial) (fun v g _ _ _ z => tI_lm _ _ z)).2
  have outer := (up_le1 (v := fun x => x) (I := fun _ => True) (C := fun u z => ∀ v, 0 ≤ v → v < 0 + 4 → z ≤ tI (wt_pc (wt (wt_cx u v)) (wt_aft gc gb u v 4))) (step := fun u x => wt_up (fun v x => wt_ep1 gc gb wt u v x) 4 0 x) 5 0 wt_dead trivial (fun _ _ _ _ _ => trivial) (fun u g _ _ _ z => inner u g z)).2
  intro z
  have e : z ≤ tI (wt_ep gc gb wt) ↔ _ := outer z
  rw [e, tI_dead]
theorem path_eq (hd : dt_ok mn zs wd pn ph pa ch sz en kn co bo gc gb sc sh sl) {T : Nat} (hT : T ≤ 15) {x : wt_N} (h0 : tri_all T mn zs x) {tok wt : Nat → Int64} (hs : same mn zs pn ch tok x) (hw : waits en sz gc gb sl tok wt) : wt_ep gc gb wt = eT (wt_wh wd zs mn kn co bo sl x.1 x.2.1 x.2.2) := by
  have hwh := (wh_all hd hT h0).2
  have hd' := hd
  obtain ⟨hm, hzw, htr, hsz, hen, hgr, hsc, hsh, hsl⟩ := hd'
  apply tI_ext
  intro z
  rw [ep_all, hwh]
  constructor
  · intro ⟨q0, q⟩
    refine ⟨q0, fun i hi hp => ?_⟩
    have hk : i / 225 < mn := by omega
    have hw4 := (hzw _ hk).2
    have hz1 := (hzw _ hk).1
    have hz3 := (htr.1 _ hk).1
    have q1 := q (i % 5) (by omega) (by omega) (wd (i / 225)) (by omega) (by omega)
    obtain ⟨eB, hB⟩ := gr_aft hgr (u := i % 5) (v := wd (i / 225)) (w := 4) (by omega) (by omega) (by omega)
    rw [eB] at q1
    rcases hB with hB | ⟨B, hB, eB2⟩
    · rw [hB, tk_pc_m1, tI_dead]; exact q0
    · have hcx : wt_cx (i % 5) (wd (i / 225)) < 25 := by unfold wt_cx; omega
      rw [eB2, tk_gal (tk_b_ok (hw.1 _ hcx) (by decide)) (by omega)] at q1
      obtain ⟨g1, g2, -, -⟩ := ((htr.1 _ hk).2 (zs (i / 225) - 1) (by omega)).2
      rw [show zs (i / 225) - 1 + 1 = zs (i / 225) by omega] at g1 g2
      have q2 := ((hw.2 _ _ hcx).mp q1.2).2 (i % 25) (tr_nd ch pn (i / 225) (zs (i / 225))) (wd (i / 225)) (by omega) g1 g2 hw4 ((hen _ _ g1 g2 hw4).mpr ⟨i / 225, hk, rfl, rfl⟩) (by rw [show i % 25 % 5 = i % 5 by omega])
      have eT := hs (i / 225) (i / 25 % 9) (i % 25) hk (by omega) (by omega)
      rw [show 225 * (i / 225) + 25 * (i / 25 % 9) + i % 25 = i by omega, hp, show (3 * zs (i / 225) - 1) / 3 + 1 = zs (i / 225) by omega, show (3 * zs (i / 225) - 1) % 3 = 2 by omega] at eT
      have ez : wa_z gc gb sl tok (i % 25) (tr_nd ch pn (i / 225) (zs (i / 225))) (wd (i / 225)) = wt_pw (wt_pc (wt_pc (EN x i) (sl 2)) (wt_afN kn co bo (i / 5 % 5) (i % 5) (wd (i / 225)))) (nI (wd (i / 225))) := by
        unfold wa_z wt_lv
        rw [eT, show i % 25 / 5 = i / 5 % 5 by omega, show i % 25 % 5 = i % 5 by omega, (gr_aft hgr (u := i / 5 % 5) (v := i % 5) (w := wd (i / 225)) (by omega) (by omega) (by omega)).1]
      rw [ez] at q2
      rw [eB2, tk_gal (ends_ok hd hT h0 (by omega) hk (by omega) hp) (by omega)]
      exact ⟨q0, q2⟩
  · intro ⟨q0, q⟩
    refine ⟨q0, fun u _ hu v _ hv => ?_⟩
    obtain ⟨eB, hB⟩ := gr_aft hgr (u := u) (v := v) (w := 4) (by omega) (by omega) (by omega)
    rw [eB]
    rcases hB with hB | ⟨B, hB, eB2⟩
    · rw [hB, tk_pc_m1, tI_dead]; exact q0
    · have hcx : wt_cx u v < 25 := by unfold wt_cx; omega
      rw [eB2, tk_gal (tk_b_ok (hw.1 _ hcx) (by decide)) (by omega), hw.2 _ _ hcx]
      refine ⟨q0, by omega, fun c n w hc h1 h2 hw4 hen' hj => ?_⟩
      obtain ⟨k, hk, rfl, rfl⟩ := (hen n w h1 h2 hw4).mp hen'
      have hz1 := (hzw k hk).1
      have hz3 := (htr.1 k hk).1
      have j1 : (225 * k + 25 * (3 * zs k - 1) + c) / 225 = k := by omega
      have j2 : (225 * k + 25 * (3 * zs k - 1) + c) / 25 % 9 = 3 * zs k - 1 := by omega
      have j3 : (225 * k + 25 * (3 * zs k - 1) + c) % 5 = c % 5 := by omega
      have j4 : (225 * k + 25 * (3 * zs k - 1) + c) / 5 % 5 = c / 5 := by omega
      have jl : 225 * k + 25 * (3 * zs k - 1) + c < 225 * mn := by omega
      have g := q (225 * k + 25 * (3 * zs k - 1) + c) jl
      have ok := ends_ok hd (T := T) hT h0 (i := 225 * k + 25 * (3 * zs k - 1) + c) (by omega) (by rw [j1]; exact hk) (by rw [j1, j2]; omega) (by rw [j1, j2])
      unfold endC at g
      rw [j1, j2, j3, j4] at g
      rw [j1, j3, j4] at ok
      have g2 := g rfl
      unfold wt_cx at hj
      have eu : c % 5 = u := by omega
      have ev : wd k = v := by omega
      rw [eu, ev, eB2] at g2
      rw [eu, ev] at ok
      rw [tk_gal ok (by omega)] at g2
      have eT := hs k (3 * zs k - 1) c hk (by omega) hc
      rw [show (3 * zs k - 1) / 3 + 1 = zs k by omega, show (3 * zs k - 1) % 3 = 2 by omega] at eT
      have ez : wa_z gc gb sl tok c (tr_nd ch pn k (zs k)) (wd k) = wt_pw (wt_pc (wt_pc (EN x (225 * k + 25 * (3 * zs k - 1) + c)) (sl 2)) (wt_afN kn co bo (c / 5) (c % 5) (wd k))) (nI (wd k)) := by
        unfold wa_z wt_lv
        rw [eT, (gr_aft hgr (u := c / 5) (v := c % 5) (w := wd k) (by omega) (by omega) (by omega)).1]
      rw [ez, eu, ev]
      exact g2.2
end PATH
/-! the answers out of the token -/
theorem sh64 : ∀ k, k < 64 → (((nI k).toInt64 &&& 63).toBitVec.smod 64).toNat = k := by decide +kernel
theorem sh32 : ∀ k, k < 32 → ((nI k &&& 31).toBitVec.smod 32).toNat = k := by decide +kernel
theorem and3 (n : Nat) : nI n &&& nI 3 = nI (n % 4) := by
  have e := pk_and (nI n) (m := nI 3) 2 (by decide)
  rw [e]
  have h : (nI n).toBitVec.toNat = n % 2 ^ 32 := rfl
  rw [h]
  exact congrArg nI (by omega)
theorem ans_tc {y : Int32 × Int32 × Int32} (h : wok y) : wt_tc (eT y) = y.1 := by
  obtain ⟨y1, y2, y3⟩ := y
  rcases h.1 with e | ⟨a, b, c, e1, e2, e3, ha, hb, hc⟩
  · have e : y1 = -1 := e
    subst e
    show wt_tc (enc _ _ _) = _
    rw [enc_m1, tk_tc_dead]
  · have e1 : y1 = nI a := e1
    have e2 : y2 = nI b := e2
    have e3 : y3 = nI c := e3
    subst e1 e2 e3
    have k1 := p4_le (show b ≤ 5 by omega)
    have e5 : (4 : Nat) ^ 5 = 1024 := rfl
    show wt_tc (enc _ _ _) = _
    rw [enc_n (by omega) (by omega) (by omega), tk_tc (by omega) (by omega) (by omega)]
theorem ans_tn {y : Int32 × Int32 × Int32} (h : wok y) : wt_tn (eT y) = y.2.1 := by
  obtain ⟨y1, y2, y3⟩ := y
  rcases h.1 with e | ⟨a, b, c, e1, e2, e3, ha, hb, hc⟩
  · have h2 := (h.2 e).1
    have e : y1 = -1 := e
    have h2 : y2 = nI 0 := h2
    subst e h2
    show wt_tn (enc _ _ _) = _
    rw [enc_m1, tk_tn_dead]
  · have e1 : y1 = nI a := e1
    have e2 : y2 = nI b := e2
    have e3 : y3 = nI c := e3
    subst e1 e2 e3
    have k1 := p4_le (show b ≤ 5 by omega)
    have e5 : (4 : Nat) ^ 5 = 1024 := rfl
    show wt_tn (enc _ _ _) = _
    rw [enc_n (by omega) (by omega) (by omega), tk_tn (by omega) (by omega) (by omega)]
theorem ans_tw {y : Int32 × Int32 × Int32} (h : wok y) (i : Int32) : wt_tw (eT y) i = wt_mw y.2.1 y.2.2 i := by
  have hn := ans_tn h
  unfold wt_tw wt_mw
  rw [hn]
  by_cases hc : i < 0 ∨ y.2.1 ≤ i
  · rw [if_pos hc, if_pos (hc.imp id (fun q => Int32.not_lt.mpr q))]
  · rw [if_neg hc, if_neg (fun q => hc (q.imp id (fun z => Int32.not_lt.mp z)))]
    obtain ⟨y1, y2, y3⟩ := y
    have hi0 : ¬ i < 0 := fun q => hc (Or.inl q)
    have hi1 : ¬ y2 ≤ i := fun q => hc (Or.inr q)
    obtain ⟨j, hj, rfl⟩ := nI_of hi0
    rcases h.1 with e | ⟨a, b, c, e1, e2, e3, ha, hb, hcc⟩
    · have h2 : y2 = nI 0 := (h.2 e).1
      subst h2
      exact absurd (nI_leI (by decide) hj |>.mpr (Nat.zero_le j)) hi1
    · have e1 : y1 = nI a := e1
      have e2 : y2 = nI b := e2
      have e3 : y3 = nI c := e3
      subst e1 e2 e3
      have k1 := p4_le (show b ≤ 5 by omega)
      have e5 : (4 : Nat) ^ 5 = 1024 := rfl
      have hjb : j < b := Nat.lt_of_not_le (fun q => hi1 ((nI_leI (by omega) hj).mpr q))
      show (enc _ _ _ >>> (((nI b - nI 1 - nI j) * nI 2).toInt64 &&& 63)).toInt32 &&& nI 3 = nI c >>> ((nI 2 * (nI b - nI 1 - nI j)) &&& 31) &&& nI 3
      rw [enc_n (by omega) (by omega) (by omega), pk_sub (show 1 ≤ b by omega), pk_sub (show j ≤ b - 1 by omega), pk_mul, pk_mul]
      rw [pf_shr (d := (b - 1 - j) * 2) (sh64 _ (by omega)) (by omega), lN_i, pk_shrN (by omega) _ (2 * (b - 1 - j)) (sh32 _ (by omega)), and3, and3]
      rcases (show b - 1 - j = 0 ∨ b - 1 - j = 1 ∨ b - 1 - j = 2 ∨ b - 1 - j = 3 ∨ b - 1 - j = 4 by omega) with q | q | q | q | q <;> rw [q] <;> exact congrArg nI (by omega)
