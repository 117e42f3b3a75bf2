/-! how many places are live, and the least cost there -/
theorem ms_up (tok : Nat → Int64) : ∀ (r i c : Nat) (l : Int64),
    (wt_up (fun k x => wt_ms1 tok k x) r i (c, l)).1 = c + sm (fun k => if tok (i + k) = wt_dead then 0 else 1) r ∧
    (∀ z : Int, z ≤ tI (wt_up (fun k x => wt_ms1 tok k x) r i (c, l)).2 ↔ z ≤ tI l ∧ ∀ k, i ≤ k → k < i + r → tok k ≠ wt_dead → z ≤ tI (tok k)) ∧
    ((wt_up (fun k x => wt_ms1 tok k x) r i (c, l)).2 = l ∨ ∃ k, i ≤ k ∧ k < i + r ∧ tok k ≠ wt_dead ∧ (wt_up (fun k x => wt_ms1 tok k x) r i (c, l)).2 = tok k)
  | 0, i, c, l => ⟨rfl, fun z => ⟨fun q => ⟨q, fun k h1 h2 => absurd h2 (by omega)⟩, fun q => q.1⟩, Or.inl rfl⟩
  | r + 1, i, c, l => by
    have e : wt_up (fun k x => wt_ms1 tok k x) (r + 1) i (c, l) = wt_up (fun k x => wt_ms1 tok k x) r (i + 1) (wt_ms1 tok i (c, l)) := rfl
    have es : sm (fun k => if tok (i + k) = wt_dead then 0 else 1) (r + 1) = (if tok i = wt_dead then 0 else 1) + sm (fun k => if tok (i + 1 + k) = wt_dead then 0 else 1) r := by
      rw [show r + 1 = 1 + r by omega, sm_app]
      show 0 + (if tok (i + 0) = wt_dead then 0 else 1) + sm (fun k => if tok (i + (1 + k)) = wt_dead then 0 else 1) r = _
      rw [Nat.zero_add, sm_congr (f := fun k => if tok (i + (1 + k)) = wt_dead then 0 else 1) (g := fun k => if tok (i + 1 + k) = wt_dead then 0 else 1) r (fun k _ => by rw [← Nat.add_assoc])]
      rfl
    by_cases h : tok i = wt_dead
    · have e1 : wt_ms1 tok i (c, l) = (c, l) := if_pos h
      obtain ⟨a1, a2, a3⟩ := ms_up tok r (i + 1) c l
      rw [e, e1, es, if_pos h]
      refine ⟨by rw [a1]; omega, fun z => ?_, ?_⟩
      · rw [a2 z]
        constructor
        · intro ⟨q1, q2⟩
          refine ⟨q1, fun k h1 h2 h3 => ?_⟩
          by_cases hk : k = i
          · subst hk; exact absurd h h3
          · exact q2 k (by omega) (by omega) h3
        · intro ⟨q1, q2⟩; exact ⟨q1, fun k h1 h2 h3 => q2 k (by omega) (by omega) h3⟩
      · rcases a3 with a3 | ⟨k, h1, h2, h3, h4⟩
        · exact Or.inl a3
        · exact Or.inr ⟨k, by omega, by omega, h3, h4⟩
    · have e1 : wt_ms1 tok i (c, l) = (c + 1, wt_lm l (tok i)) := if_neg h
      obtain ⟨a1, a2, a3⟩ := ms_up tok r (i + 1) (c + 1) (wt_lm l (tok i))
      rw [e, e1, es, if_neg h]
      refine ⟨by rw [a1]; omega, fun z => ?_, ?_⟩
      · rw [a2 z, tI_lm]
        constructor
        · intro ⟨⟨q1, q3⟩, q2⟩
          refine ⟨q1, fun k h1 h2 h3 => ?_⟩
          by_cases hk : k = i
          · subst hk; exact q3
          · exact q2 k (by omega) (by omega) h3
        · intro ⟨q1, q2⟩; exact ⟨⟨q1, q2 i (by omega) (by omega) h⟩, fun k h1 h2 h3 => q2 k (by omega) (by omega) h3⟩
      · rcases a3 with a3 | ⟨k, h1, h2, h3, h4⟩
        · rw [a3]
          unfold wt_lm
          split
          · exact Or.inr ⟨i, by omega, by omega, h, rfl⟩
          · exact Or.inl rfl
        · exact Or.inr ⟨k, by omega, by omega, h3, h4⟩
section LIVE
variable {mn : Nat} {zs wd pn ph pa ch : Nat → Nat} {sz : Nat} {en : Nat → Bool} {kn : Nat → Bool} {co bo gc gb sc sh sl fp : Nat → Int32}
theorem alive_iff {T p : Nat} (hT : T ≤ 17) {x d w : Int32} (h : tri T p x d w) : enc x d w = wt_dead ↔ ¬ 0 ≤ x := by
  rw [tri_dead hT h]
  rcases h with rfl | ⟨a, b, c, rfl, -, -, ha, -, -⟩
  · exact ⟨fun _ => by decide, fun _ => rfl⟩
  · exact ⟨fun q => absurd q (wt_nI_nem1 (by omega)), fun q => absurd (nI_pos' (by omega)) q⟩
theorem live_eq (htr : tr_ok mn zs pn ph pa ch sz) (hsz : sz ≤ 24) (hts : tr_sum mn zs pn ch sz) (hfp : ∀ k i, k < mn → i < zs k → fp (3 * k + i) = nI (pn (3 * k + i)) ∧ pn (3 * k + i) < 4) (hm : mn ≤ 8) {T : Nat} (hT : T ≤ 17) {x : wt_N} (hx : tri_all T mn zs x) {tok : Nat → Int64} (hs : same mn zs pn ch tok x) (hof : off sz tok) : (wt_ms tok).1 = wt_live zs mn fp x.1 := by
  -- the class: a sum over nodes
  have c1 : (wt_ms tok).1 = sm (fun k => if tok k = wt_dead then 0 else 1) 1875 := by
    have := (ms_up tok 1875 0 0 wt_dead).1
    rw [Nat.zero_add] at this
    show (wt_up (fun k x => wt_ms1 tok k x) 1875 0 (0, wt_dead)).1 = _
    rw [this]
    exact sm_congr 1875 (fun k _ => by rw [Nat.zero_add])
  have c2 : sm (fun k => if tok k = wt_dead then 0 else 1) 1875 = sm (fun n => sm (fun c => sm (fun s => if tok (wt_pl c n s) = wt_dead then 0 else 1) 3) 25) 25 := by
    have a := sm_mul (fun k => if tok k = wt_dead then 0 else 1) 3 625
    have b := sm_mul (fun a => sm (fun s => if tok (a * 3 + s) = wt_dead then 0 else 1) 3) 25 25
    have d := sm_comm (fun c n => sm (fun s => if tok ((c * 25 + n) * 3 + s) = wt_dead then 0 else 1) 3) 25 25
    exact a.trans (b.trans d)
  have c3 : sm (fun n => sm (fun c => sm (fun s => if tok (wt_pl c n s) = wt_dead then 0 else 1) 3) 25) 25 = sm (fun n => sm (fun c => sm (fun s => if tok (wt_pl c (n + 1) s) = wt_dead then 0 else 1) 3) 25) sz := by
    have z : ∀ n, n < 25 → (n = 0 ∨ sz < n) → sm (fun c => sm (fun s => if tok (wt_pl c n s) = wt_dead then 0 else 1) 3) 25 = 0 := fun n hn h => sm_zero 25 (fun c hc => sm_zero 3 (fun s hs3 => if_pos (hof c n s hc hn hs3 h)))
    rw [show (25 : Nat) = 1 + (sz + (24 - sz)) by omega, sm_app, sm_app]
    have z1 : sm (fun n => sm (fun c => sm (fun s => if tok (wt_pl c n s) = wt_dead then 0 else 1) 3) (1 + (sz + (24 - sz)))) 1 = 0 := by
      rw [show 1 + (sz + (24 - sz)) = 25 by omega]
      show 0 + sm (fun c => sm (fun s => if tok (wt_pl c 0 s) = wt_dead then 0 else 1) 3) 25 = 0
      rw [z 0 (by omega) (Or.inl rfl)]
    rw [z1, show 1 + (sz + (24 - sz)) = 25 by omega]
    rw [sm_zero (f := fun i => sm (fun c => sm (fun s => if tok (wt_pl c (1 + (sz + i)) s) = wt_dead then 0 else 1) 3) 25) (24 - sz) (fun i hi => z _ (by omega) (Or.inr (by omega)))]
    rw [Nat.zero_add, Nat.add_zero]
    exact sm_congr sz (fun n _ => by rw [Nat.add_comm 1 n])
  rw [c1, c2, c3, ← hts (fun n => sm (fun c => sm (fun s => if tok (wt_pl c n s) = wt_dead then 0 else 1) 3) 25)]
  -- the reference: the same sum
  have r1 : wt_live zs mn fp x.1 = sm (fun i => if 0 ≤ x.1 i ∧ wt_fre zs fp (i / 225) (i / 25 % 9 / 3 + 1) = true then 1 else 0) (mn * 225) := by
    have e : wt_live zs mn fp x.1 = wt_up (fun i n => n + (if 0 ≤ x.1 i ∧ wt_fre zs fp (i / 225) (i / 25 % 9 / 3 + 1) = true then 1 else 0)) (225 * mn) 0 0 := by
      unfold wt_live
      apply up_congr
      intro j y _ _
      show (if _ then y + 1 else y) = _
      split
      · rfl
      · rfl
    rw [e, up_sum, Nat.zero_add, Nat.mul_comm]
    exact sm_congr _ (fun k _ => by rw [Nat.zero_add])
  rw [r1, sm_mul]
  apply sm_congr
  intro k hk
  have hz3 := (htr.1 k hk).1
  have r2 : sm (fun j => if 0 ≤ x.1 (k * 225 + j) ∧ wt_fre zs fp ((k * 225 + j) / 225) ((k * 225 + j) / 25 % 9 / 3 + 1) = true then 1 else 0) 225 = sm (fun i => sm (fun s => sm (fun uv => if 0 ≤ x.1 (k * 225 + ((i * 3 + s) * 25 + uv)) ∧ wt_fre zs fp ((k * 225 + ((i * 3 + s) * 25 + uv)) / 225) ((k * 225 + ((i * 3 + s) * 25 + uv)) / 25 % 9 / 3 + 1) = true then 1 else 0) 25) 3) 3 := by
    have a := sm_mul (fun j => if 0 ≤ x.1 (k * 225 + j) ∧ wt_fre zs fp ((k * 225 + j) / 225) ((k * 225 + j) / 25 % 9 / 3 + 1) = true then 1 else 0) 25 9
    have b := sm_mul (fun p => sm (fun uv => if 0 ≤ x.1 (k * 225 + (p * 25 + uv)) ∧ wt_fre zs fp ((k * 225 + (p * 25 + uv)) / 225) ((k * 225 + (p * 25 + uv)) / 25 % 9 / 3 + 1) = true then 1 else 0) 25) 3 3
    exact a.trans b
  have r3 : ∀ i s uv, i < 3 → s < 3 → uv < 25 → (k * 225 + ((i * 3 + s) * 25 + uv)) / 225 = k ∧ (k * 225 + ((i * 3 + s) * 25 + uv)) / 25 % 9 = 3 * i + s := fun i s uv h1 h2 h3 => ⟨by omega, by omega⟩
  rw [r2, show (3 : Nat) = zs k + (3 - zs k) by omega, sm_app]
  rw [show zs k + (3 - zs k) = 3 by omega]
  rw [sm_zero (f := fun i => sm (fun s => sm (fun uv => if 0 ≤ x.1 (k * 225 + (((zs k + i) * 3 + s) * 25 + uv)) ∧ wt_fre zs fp ((k * 225 + (((zs k + i) * 3 + s) * 25 + uv)) / 225) ((k * 225 + (((zs k + i) * 3 + s) * 25 + uv)) / 25 % 9 / 3 + 1) = true then 1 else 0) 25) 3) (3 - zs k) (fun i hi => sm_zero 3 (fun s hs3 => sm_zero 25 (fun uv huv => if_neg (fun q => by
    obtain ⟨e1, e2⟩ := r3 (zs k + i) s uv (by omega) hs3 huv
    rcases (hx (k * 225 + (((zs k + i) * 3 + s) * 25 + uv)) (by omega)).1 with g | g
    · rw [g] at q; exact absurd q.1 (by decide)
    · rw [e1, e2] at g; omega)))), Nat.add_zero]
  apply sm_congr
  intro i hi
  have ef : wt_fre zs (fun j => nI (pn j)) k (i + 1) = wt_fre zs fp k (i + 1) := by
    apply fre_congr
    intro j hj
    constructor
    · intro ⟨q1, q2, q3⟩
      exact ⟨q1, q2, fun a ha => by rw [(hfp j a (by omega) (by omega)).1, (hfp k a hk (by omega)).1]; exact q3 a ha⟩
    · intro ⟨q1, q2, q3⟩
      exact ⟨q1, q2, fun a ha => by have := q3 a ha; rw [(hfp j a (by omega) (by omega)).1, (hfp k a hk (by omega)).1] at this; exact this⟩
  rw [ef, sm_comm]
  by_cases hf : wt_fre zs fp k (i + 1) = true
  · rw [if_pos hf]
    apply sm_congr
    intro s hs3
    apply sm_congr
    intro uv huv
    obtain ⟨e1, e2⟩ := r3 i s uv (by omega) hs3 huv
    have et := hs k (3 * i + s) uv hk (by omega) huv
    rw [show (3 * i + s) / 3 = i by omega, show (3 * i + s) % 3 = s by omega] at et
    have ei : 225 * k + 25 * (3 * i + s) + uv = k * 225 + ((i * 3 + s) * 25 + uv) := by omega
    rw [ei] at et
    have al : EN x (k * 225 + ((i * 3 + s) * 25 + uv)) = wt_dead ↔ ¬ 0 ≤ x.1 (k * 225 + ((i * 3 + s) * 25 + uv)) := alive_iff hT (hx (k * 225 + ((i * 3 + s) * 25 + uv)) (by omega)).2
    rw [et, e1, e2, show (3 * i + s) / 3 + 1 = i + 1 by omega]
    by_cases ha : 0 ≤ x.1 (k * 225 + ((i * 3 + s) * 25 + uv))
    · rw [if_neg (fun q => (al.mp q) ha), if_pos ⟨ha, hf⟩]
    · rw [if_pos (al.mpr ha), if_neg (fun q => ha q.1)]
  · rw [if_neg hf]
    refine (sm_zero 3 (fun s hs3 => sm_zero 25 (fun uv huv => ?_))).symm
    obtain ⟨e1, e2⟩ := r3 i s uv (by omega) hs3 huv
    rw [e1, e2, show (3 * i + s) / 3 + 1 = i + 1 by omega]
    exact if_neg (fun q => hf q.2)
end LIVE
