/-! how class and reference stand to each other between calls -/
def rel (ph pa ch : Nat → Nat) (en : Nat → Bool) (sz : Nat) (gc gb sc sh sl : Nat → Int32) (ct : Nat) (kn : Nat → Bool) (co bo : Nat → Int32) (mn : Nat) (wd zs : Nat → Nat) (fp : Nat → Int32) (pg : Nat → Nat) : Prop :=
  dt_ok mn zs wd pg ph pa ch sz en kn co bo gc gb sc sh sl ∧ ct ≤ 15 ∧ sz ≤ 3 * mn ∧ tr_sum mn zs pg ch sz ∧ (∀ k, zs k ≤ 3) ∧ (∀ k, wd k < 4) ∧ (∀ n, ph n < 4) ∧ (∀ n, pa n < 25) ∧ (∀ j, ch j ≤ 24) ∧ (∀ k i, k < mn → i < zs k → fp (3 * k + i) = nI (pg (3 * k + i)) ∧ pg (3 * k + i) < 4) ∧ (∀ n w, sz < n → w < 4 → en (n * 4 + w) = false)
def cache (ph pa : Nat → Nat) (en : Nat → Bool) (sz : Nat) (gc gb sc sh sl : Nat → Int32) (ct : Nat) (pn : Nat → Nat) (lt : Nat → Int64) (wp : Int64) : Prop :=
  (∀ n, 1 ≤ n → n ≤ ct → pn n = (wt_ms (cs ph pa en sz gc gb sc sh sl n).1).1 ∧ lt n = (wt_ms (cs ph pa en sz gc gb sc sh sl n).1).2) ∧ wp = wt_ep gc gb (cs ph pa en sz gc gb sc sh sl ct).2
section REL
variable {ph pa ch : Nat → Nat} {en : Nat → Bool} {sz : Nat} {gc gb sc sh sl : Nat → Int32} {ct : Nat} {kn : Nat → Bool} {co bo : Nat → Int32} {mn : Nat} {wd zs : Nat → Nat} {fp : Nat → Int32} {pg : Nat → Nat} {pn : Nat → Nat} {lt : Nat → Int64} {wp : Int64} {sd : Bool} {tok wt : Nat → Int64}
/-- behind a search: what is kept is right -/
theorem cache_run (h : sd = true → cache ph pa en sz gc gb sc sh sl ct pn lt wp) : cache ph pa en sz gc gb sc sh sl ct (if sd = true then pn else (wt_run ph pa en sz gc gb sc sh sl ct pn lt).2.2.1) (if sd = true then lt else (wt_run ph pa en sz gc gb sc sh sl ct pn lt).2.2.2) (if sd = true then wp else wt_ep gc gb (wt_run ph pa en sz gc gb sc sh sl ct pn lt).2.1) := by
  by_cases hs : sd = true
  · rw [if_pos hs, if_pos hs, if_pos hs]; exact h hs
  · rw [if_neg hs, if_neg hs, if_neg hs]
    obtain ⟨-, r2, r3⟩ := run_cs ph pa en sz gc gb sc sh sl pn lt ct
    exact ⟨r3, by rw [r2]⟩
theorem whole_eq (h : rel ph pa ch en sz gc gb sc sh sl ct kn co bo mn wd zs fp pg) (nd nc : Nat → Int32) :
    wt_ep gc gb (cs ph pa en sz gc gb sc sh sl ct).2 = eT (wt_wh wd zs mn kn co bo sl (wt_mrun pg wd zs mn kn co bo sh sl sc ct nd nc).1 (wt_mrun pg wd zs mn kn co bo sh sl sc ct nd nc).2.1 (wt_mrun pg wd zs mn kn co bo sh sl sc ct nd nc).2.2) ∧ wok (wt_wh wd zs mn kn co bo sl (wt_mrun pg wd zs mn kn co bo sh sl sc ct nd nc).1 (wt_mrun pg wd zs mn kn co bo sh sl sc ct nd nc).2.1 (wt_mrun pg wd zs mn kn co bo sh sl sc ct nd nc).2.2) := by
  obtain ⟨hd, hct, -⟩ := h
  rw [mrun_mx]
  cases ct with
  | zero =>
    have t0 : tri_all 0 mn zs (mx pg wd zs mn kn co bo sh sl sc nd nc 0) := fun j _ => ⟨Or.inl rfl, Or.inl rfl⟩
    obtain ⟨w1, w2⟩ := wh_all hd (T := 0) (by omega) t0
    refine ⟨?_, w1⟩
    apply tI_ext
    intro z
    rw [ep_all, w2]
    constructor
    · intro ⟨q0, q⟩
      refine ⟨q0, fun i _ _ => ?_⟩
      have e : EN (mx pg wd zs mn kn co bo sh sl sc nd nc 0) i = wt_dead := by show enc (-1) _ _ = _; rw [enc_m1]
      rw [e, tk_pc_dead, tk_pc_dead, tk_pw_dead, tk_pc_dead, tI_dead]; exact q0
    · intro ⟨q0, q⟩
      refine ⟨q0, fun u _ hu v _ hv => ?_⟩
      have e : (cs ph pa en sz gc gb sc sh sl 0).2 (wt_cx u v) = wt_dead := by
        show vp_updL (fun _ => wt_dead) (wt_cx 4 4) 0 (wt_cx u v) = wt_dead
        exact pk_uLn (fun q => by unfold wt_cx at q; omega)
      rw [e, tk_pc_dead, tI_dead]; exact q0
  | succ n =>
    obtain ⟨h1, h2, h3⟩ := frames_rel hd nd nc n hct
    exact ⟨path_eq hd hct h1 h2 h3, (wh_all hd hct h1).1⟩
theorem live_q (h : rel ph pa ch en sz gc gb sc sh sl ct kn co bo mn wd zs fp pg) {n : Nat} (h1 : 1 ≤ n) (h2 : n ≤ ct) (nd nc : Nat → Int32) : (wt_ms (cs ph pa en sz gc gb sc sh sl n).1).1 = wt_live zs mn fp (wt_mrun pg wd zs mn kn co bo sh sl sc n nd nc).1 := by
  obtain ⟨hd, hct, -, hts, -, -, -, -, -, hfp, -⟩ := h
  have hd' := hd
  obtain ⟨hm, -, htr, hsz, -⟩ := hd'
  rw [mrun_mx]
  obtain ⟨m, rfl⟩ : ∃ m, n = m + 1 := ⟨n - 1, by omega⟩
  obtain ⟨g1, g2, -⟩ := frames_rel hd nd nc m (by omega)
  exact live_eq htr hsz hts hfp hm (T := m + 1) (by omega) g1 g2 (off_cs hsz (fun n h1 h2 => (htr.2.1 n h1 h2).1) (m + 1))
theorem best_q (h : rel ph pa ch en sz gc gb sc sh sl ct kn co bo mn wd zs fp pg) {n : Nat} (h1 : 1 ≤ n) (h2 : n ≤ ct) (nd nc : Nat → Int32) : wt_tc (wt_ms (cs ph pa en sz gc gb sc sh sl n).1).2 = wt_best (wt_mrun pg wd zs mn kn co bo sh sl sc n nd nc).1 := by
  obtain ⟨hd, hct, -⟩ := h
  have hd' := hd
  obtain ⟨hm, -, htr, hsz, -⟩ := hd'
  rw [mrun_mx]
  obtain ⟨m, rfl⟩ : ∃ m, n = m + 1 := ⟨n - 1, by omega⟩
  obtain ⟨g1, g2, -⟩ := frames_rel hd nd nc m (by omega)
  exact best_eq htr hsz hm (T := m + 1) (by omega) g1 g2 (off_cs hsz (fun n h1 h2 => (htr.2.1 n h1 h2).1) (m + 1))
/-- the reference's nodes -/
theorem nod_eq {M : Nat} (hts : tr_sum M zs pg ch sz) (hfp : ∀ k i, k < M → i < zs k → fp (3 * k + i) = nI (pg (3 * k + i)) ∧ pg (3 * k + i) < 4) : wt_nod zs fp M = sz := by
  have s1 : ∀ n : Nat, sm (fun _ => 1) n = n := by
    intro n
    induction n with
    | zero => rfl
    | succ n ih => show sm (fun _ => 1) n + 1 = n + 1; rw [ih]
  have e := hts (fun _ => 1)
  rw [s1] at e
  rw [← e]
  have i1 : ∀ k n, wt_up (fun i n => if wt_fre zs fp k i = true then n + 1 else n) (zs k) 1 n = n + sm (fun i => if wt_fre zs fp k (1 + i) = true then 1 else 0) (zs k) := by
    intro k n
    rw [← up_sum (fun i => if wt_fre zs fp k i = true then 1 else 0)]
    apply up_congr
    intro j y _ _
    split
    · rfl
    · rfl
  have i2 : wt_nod zs fp M = wt_up (fun k n => n + sm (fun i => if wt_fre zs fp k (1 + i) = true then 1 else 0) (zs k)) M 0 0 := by
    unfold wt_nod
    apply up_congr
    intro j y _ _
    exact i1 j y
  rw [i2, up_sum, Nat.zero_add]
  apply sm_congr
  intro k hk
  rw [Nat.zero_add]
  apply sm_congr
  intro i hi
  have ef : wt_fre zs (fun j => nI (pg j)) k (i + 1) = wt_fre zs fp k (1 + i) := by
    rw [Nat.add_comm 1 i]
    apply fre_congr
    intro j hj
    constructor
    · intro ⟨q1, q2, q3⟩
      exact ⟨q1, q2, fun a ha => by rw [(hfp j a (by omega) (by omega)).1, (hfp k a hk (by omega)).1]; exact q3 a ha⟩
    · intro ⟨q1, q2, q3⟩
      exact ⟨q1, q2, fun a ha => by have := q3 a ha; rw [(hfp j a (by omega) (by omega)).1, (hfp k a hk (by omega)).1] at this; exact this⟩
  rw [ef]
/-- fewer frames, or one more; costs set -/
theorem rel_ct (h : rel ph pa ch en sz gc gb sc sh sl ct kn co bo mn wd zs fp pg) {c' : Nat} (hc : c' ≤ 15) : rel ph pa ch en sz gc gb sc sh sl c' kn co bo mn wd zs fp pg := ⟨h.1, hc, h.2.2⟩
theorem rng_of {x : Int32} (h : ¬ wt_rng x 10000 = 0) : ∃ a : Nat, a < 10000 ∧ x = nI a := wt_rng_of (by decide) h
theorem rel_sc (h : rel ph pa ch en sz gc gb sc sh sl ct kn co bo mn wd zs fp pg) {f : Nat → Int32} (hf : ∀ j, j < 180 → ∃ a : Nat, a < 10000 ∧ f j = nI a) : rel ph pa ch en sz gc gb f sh sl ct kn co bo mn wd zs fp pg := by
  obtain ⟨⟨a1, a2, a3, a4, a5, a6, -, a8, a9⟩, rest⟩ := h
  exact ⟨⟨a1, a2, a3, a4, a5, a6, hf, a8, a9⟩, rest⟩
theorem rel_hl (h : rel ph pa ch en sz gc gb sc sh sl ct kn co bo mn wd zs fp pg) {s : Nat} {x y : Int32} (hx : ¬ wt_rng x 10000 = 0) (hy : ¬ wt_rng y 10000 = 0) : rel ph pa ch en sz gc gb sc (upd sh s x) (upd sl s y) ct kn co bo mn wd zs fp pg := by
  obtain ⟨⟨a1, a2, a3, a4, a5, a6, a7, a8, a9⟩, rest⟩ := h
  refine ⟨⟨a1, a2, a3, a4, a5, a6, a7, fun j hj => ?_, fun j hj => ?_⟩, rest⟩
  · by_cases q : j = s
    · rw [q, pk_us]; exact rng_of hx
    · rw [pk_un q]; exact a8 j hj
  · by_cases q : j = s
    · rw [q, pk_us]; exact rng_of hy
    · rw [pk_un q]; exact a9 j hj
theorem upd_rng {f : Nat → Int32} {N k : Nat} {x : Int32} (hf : ∀ j, j < N → ∃ a : Nat, a < 10000 ∧ f j = nI a) (hx : ∃ a : Nat, a < 10000 ∧ x = nI a) : ∀ j, j < N → ∃ a : Nat, a < 10000 ∧ upd f k x j = nI a := by
  intro j hj
  by_cases q : j = k
  · rw [q, pk_us]; exact hx
  · rw [pk_un q]; exact hf j hj
theorem z12_rng {k N : Nat} : ∀ (r i : Nat) (f : Nat → Int32), (∀ j, j < N → ∃ a : Nat, a < 10000 ∧ f j = nI a) → ∀ j, j < N → ∃ a : Nat, a < 10000 ∧ wt_up (fun i f => upd f (k + i) (nI 0)) r i f j = nI a
  | 0, _, _, h => h
  | r + 1, i, f, h => z12_rng r (i + 1) (upd f (k + i) (nI 0)) (upd_rng h ⟨0, by omega, rfl⟩)
/-! grams: two places of one gram -/
def gpl (f : Nat) (u v w : Nat) : Nat × Nat := if f = 1 then (w, wt_sl 0 0 (w + 1)) else if f = 2 then (5 + 5 * v + w, wt_sl 0 (v + 1) (w + 1)) else (30 + 25 * u + 5 * v + w, wt_sl (u + 1) (v + 1) (w + 1))
def gfo (f u v w : Nat) : Prop := (f = 1 ∧ w < 5) ∨ (f = 2 ∧ v < 5 ∧ w < 5) ∨ (f = 3 ∧ u < 5 ∧ v < 4 ∧ w < 5)
theorem gpl_one {f u v w f' u' v' w' : Nat} (h : gfo f u v w) (h' : gfo f' u' v' w') : ((gpl f u v w).1 = (gpl f' u' v' w').1 ↔ (gpl f u v w).2 = (gpl f' u' v' w').2) := by
  rcases h with ⟨rfl, h⟩ | ⟨rfl, h1, h2⟩ | ⟨rfl, h1, h2, h3⟩ <;> rcases h' with ⟨rfl, g⟩ | ⟨rfl, g1, g2⟩ | ⟨rfl, g1, g2, g3⟩ <;> simp only [gpl, wt_sl] <;> constructor <;> intro q <;> simp at q ⊢ <;> omega
theorem gr_all : gr_rel kn co bo gc gb ↔ ∀ f u v w, gfo f u v w → gr_at kn co bo gc gb (gpl f u v w).1 (gpl f u v w).2 := by
  constructor
  · intro ⟨h1, h2, h3⟩ f u v w hf
    rcases hf with ⟨rfl, h⟩ | ⟨rfl, g1, g2⟩ | ⟨rfl, g1, g2, g3⟩
    · exact h1 w h
    · exact h2 v w g1 g2
    · exact h3 u v w g1 g2 g3
  · intro h
    exact ⟨fun w hw => h 1 0 0 w (Or.inl ⟨rfl, hw⟩), fun v w hv hw => h 2 0 v w (Or.inr (Or.inl ⟨rfl, hv, hw⟩)), fun u v w hu hv hw => h 3 u v w (Or.inr (Or.inr ⟨rfl, hu, hv, hw⟩))⟩
theorem gr_set (h : gr_rel kn co bo gc gb) {f u v w : Nat} (hf : gfo f u v w) {x y : Int32} (hx : ¬ wt_rng x 10000 = 0) (hy : ¬ wt_rng y 10000 = 0) : gr_rel (va_up kn (gpl f u v w).1 true) (upd co (gpl f u v w).1 x) (upd bo (gpl f u v w).1 y) (upd gc (gpl f u v w).2 x) (upd gb (gpl f u v w).2 y) := by
  rw [gr_all] at h ⊢
  intro f' u' v' w' hf'
  have one := gpl_one hf' hf
  by_cases q : (gpl f' u' v' w').1 = (gpl f u v w).1
  · have q2 := one.mp q
    unfold gr_at
    rw [q, q2, va_up_self, pk_us, pk_us, pk_us, pk_us, if_pos rfl, if_pos rfl]
    obtain ⟨a, ha, ea⟩ := rng_of hx
    obtain ⟨b, hb, eb⟩ := rng_of hy
    exact ⟨rfl, rfl, fun _ => ⟨a, b, ha, hb, ea, eb⟩⟩
  · have q2 : ¬ (gpl f' u' v' w').2 = (gpl f u v w).2 := fun z => q (one.mpr z)
    unfold gr_at
    rw [va_up_ne kn true q, pk_un q, pk_un q, pk_un q2, pk_un q2]
    exact h f' u' v' w' hf'
theorem gr_del (h : gr_rel kn co bo gc gb) {f u v w : Nat} (hf : gfo f u v w) : gr_rel (va_up kn (gpl f u v w).1 false) co bo (upd gc (gpl f u v w).2 (-1)) (upd gb (gpl f u v w).2 (nI 0)) := by
  rw [gr_all] at h ⊢
  intro f' u' v' w' hf'
  have one := gpl_one hf' hf
  by_cases q : (gpl f' u' v' w').1 = (gpl f u v w).1
  · have q2 := one.mp q
    unfold gr_at
    rw [q, q2, va_up_self, pk_us, pk_us, if_neg (by decide), if_neg (by decide)]
    exact ⟨rfl, rfl, fun z => absurd z (by decide)⟩
  · have q2 : ¬ (gpl f' u' v' w').2 = (gpl f u v w).2 := fun z => q (one.mpr z)
    unfold gr_at
    rw [va_up_ne kn false q, pk_un q2, pk_un q2]
    exact h f' u' v' w' hf'
theorem rel_gr (h : rel ph pa ch en sz gc gb sc sh sl ct kn co bo mn wd zs fp pg) {kn' : Nat → Bool} {co' bo' gc' gb' : Nat → Int32} (hg : gr_rel kn' co' bo' gc' gb') : rel ph pa ch en sz gc' gb' sc sh sl ct kn' co' bo' mn wd zs fp pg := by
  obtain ⟨⟨a1, a2, a3, a4, a5, -, a7, a8, a9⟩, rest⟩ := h
  exact ⟨⟨a1, a2, a3, a4, a5, hg, a7, a8, a9⟩, rest⟩
end REL
