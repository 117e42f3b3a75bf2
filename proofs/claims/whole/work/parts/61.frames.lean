/-! n frames in both -/
theorem up_snoc {σ : Type} (f : Nat → σ → σ) : ∀ (r i : Nat) (x : σ), wt_up f (r + 1) i x = f (i + r) (wt_up f r i x)
  | 0, _, _ => rfl
  | r + 1, i, x => by
    show wt_up f (r + 1) (i + 1) (f i x) = f (i + (r + 1)) (wt_up f r (i + 1) (f i x))
    rw [up_snoc f r (i + 1) (f i x), show i + 1 + r = i + (r + 1) by omega]
def cs (ph pa : Nat → Nat) (en : Nat → Bool) (sz : Nat) (gc gb sc sh sl : Nat → Int32) : Nat → (Nat → Int64) × (Nat → Int64)
  | 0 => ((fun _ => wt_dead), vp_updL (fun _ => wt_dead) (wt_cx 4 4) 0)
  | n + 1 => (wt_ha ph pa sz sc sh sl (cs ph pa en sz gc gb sc sh sl n).2 n (cs ph pa en sz gc gb sc sh sl n).1, wt_ea en sz gc gb sl (wt_ha ph pa sz sc sh sl (cs ph pa en sz gc gb sc sh sl n).2 n (cs ph pa en sz gc gb sc sh sl n).1))
theorem run_cs (ph pa : Nat → Nat) (en : Nat → Bool) (sz : Nat) (gc gb sc sh sl : Nat → Int32) (pn : Nat → Nat) (lt : Nat → Int64) : ∀ ct : Nat,
    (wt_run ph pa en sz gc gb sc sh sl ct pn lt).1 = (cs ph pa en sz gc gb sc sh sl ct).1 ∧ (wt_run ph pa en sz gc gb sc sh sl ct pn lt).2.1 = (cs ph pa en sz gc gb sc sh sl ct).2 ∧
    ∀ n, 1 ≤ n → n ≤ ct → (wt_run ph pa en sz gc gb sc sh sl ct pn lt).2.2.1 n = (wt_ms (cs ph pa en sz gc gb sc sh sl n).1).1 ∧ (wt_run ph pa en sz gc gb sc sh sl ct pn lt).2.2.2 n = (wt_ms (cs ph pa en sz gc gb sc sh sl n).1).2 := by
  intro ct
  induction ct with
  | zero => exact ⟨rfl, rfl, fun n h1 h2 => absurd h2 (by omega)⟩
  | succ ct ih =>
    obtain ⟨i1, i2, i3⟩ := ih
    have e : wt_run ph pa en sz gc gb sc sh sl (ct + 1) pn lt = wt_fr ph pa en sz gc gb sc sh sl (0 + ct) (wt_run ph pa en sz gc gb sc sh sl ct pn lt) := up_snoc _ ct 0 _
    rw [Nat.zero_add] at e
    rw [e]
    have e1 : wt_ha ph pa sz sc sh sl (wt_run ph pa en sz gc gb sc sh sl ct pn lt).2.1 ct (wt_run ph pa en sz gc gb sc sh sl ct pn lt).1 = (cs ph pa en sz gc gb sc sh sl (ct + 1)).1 := by rw [i1, i2]; rfl
    refine ⟨e1, ?_, fun n h1 h2 => ?_⟩
    · show wt_ea en sz gc gb sl (wt_ha ph pa sz sc sh sl (wt_run ph pa en sz gc gb sc sh sl ct pn lt).2.1 ct (wt_run ph pa en sz gc gb sc sh sl ct pn lt).1) = _
      rw [e1]; rfl
    · show va_up (wt_run ph pa en sz gc gb sc sh sl ct pn lt).2.2.1 (ct + 1) (wt_ms (wt_ha ph pa sz sc sh sl (wt_run ph pa en sz gc gb sc sh sl ct pn lt).2.1 ct (wt_run ph pa en sz gc gb sc sh sl ct pn lt).1)).1 n = _ ∧ vp_updL (wt_run ph pa en sz gc gb sc sh sl ct pn lt).2.2.2 (ct + 1) (wt_ms (wt_ha ph pa sz sc sh sl (wt_run ph pa en sz gc gb sc sh sl ct pn lt).2.1 ct (wt_run ph pa en sz gc gb sc sh sl ct pn lt).1)).2 n = _
      rw [e1]
      by_cases hn : n = ct + 1
      · subst hn
        rw [va_up_self, pk_uLs]
        exact ⟨rfl, rfl⟩
      · rw [va_up_ne _ _ hn, pk_uLn hn]
        exact i3 n h1 (by omega)
def mx (pn wd zs : Nat → Nat) (mn : Nat) (kn : Nat → Bool) (co bo ho le so nd nc : Nat → Int32) : Nat → wt_N
  | 0 => ((fun _ => -1), nd, nc)
  | n + 1 => if n = 0 then wt_up (fun k x => wt_come pn so 0 k 0 24 (nI 0) (nI 0) (nI 0) x) mn 0 ((fun _ => -1), nd, nc) else wt_st pn wd zs mn kn co bo ho le so n (mx pn wd zs mn kn co bo ho le so nd nc n)
section FRAMES
variable {mn : Nat} {zs wd pn ph pa ch : Nat → Nat} {sz : Nat} {en : Nat → Bool} {kn : Nat → Bool} {co bo gc gb sc sh sl : Nat → Int32}
/-- the first frame, in the reference -/
theorem first_spec (hd : dt_ok mn zs wd pn ph pa ch sz en kn co bo gc gb sc sh sl) (nd nc : Nat → Int32) :
    tri_all 1 mn zs (mx pn wd zs mn kn co bo sh sl sc nd nc 1) ∧ ∀ j z, j < 1800 → (z ≤ tI (EN (mx pn wd zs mn kn co bo sh sl sc nd nc 1) j) ↔ z ≤ 4611686018427387904 ∧ ∀ k, k < mn → j = 225 * k + 25 * 0 + 24 → z ≤ tI (wt_pc (lN (0 * 65536 + 0 * 1024 + 0)) (sc (12 * 0 + 3 * pn (3 * k + 0 / 3) + 0 % 3)))) := by
  have hd' := hd
  obtain ⟨hm, hzw, htr, -, -, -, -, -, -⟩ := hd'
  have hz : ∀ k, k < mn → 0 < 3 * zs k := fun k hk => by have := (hzw k hk).1; omega
  have loop := up_le3 (I := tri_all 1 mn zs) (C := fun k j z => j = 225 * k + 25 * 0 + 24 → z ≤ tI (wt_pc (lN (0 * 65536 + 0 * 1024 + 0)) (sc (12 * 0 + 3 * pn (3 * k + 0 / 3) + 0 % 3)))) (n0 := 1800) (step := fun k x => wt_come pn sc 0 k 0 24 (nI 0) (nI 0) (nI 0) x) mn 0 ((fun _ => -1), nd, nc) (fun j _ => ⟨Or.inl rfl, Or.inl rfl⟩)
    (fun k g _ hk hg => (come_spec hd (T := 1) (t := 0) (by omega) (by omega) hg (show k < mn by omega) (p := 0) (hz k (by omega)) (uv := 24) (by omega) (a := 0) (b := 0) (c := 0) (by omega) (by omega) (by decide)).1)
    (fun k g _ hk hg j z hj => (come_spec hd (T := 1) (t := 0) (by omega) (by omega) hg (show k < mn by omega) (p := 0) (hz k (by omega)) (uv := 24) (by omega) (a := 0) (b := 0) (c := 0) (by omega) (by omega) (by decide)).2 j z hj)
  refine ⟨loop.1, fun j z hj => ?_⟩
  have e : z ≤ tI (EN (mx pn wd zs mn kn co bo sh sl sc nd nc 1) j) ↔ _ := loop.2 j z hj
  have e2 : tI (EN ((fun _ => -1), nd, nc) j) = 4611686018427387904 := by
    show tI (enc (-1) _ _) = _
    rw [enc_m1, tI_dead]
  rw [e, e2]
  constructor
  · intro ⟨q1, q2⟩; exact ⟨q1, fun k hk => q2 k (by omega) (by omega)⟩
  · intro ⟨q1, q2⟩; exact ⟨q1, fun k _ hk => q2 k (by omega)⟩
theorem lm_dead {x : Int64} (h : tk_ok x) : wt_lm wt_dead x = x := by
  apply tI_ext
  intro z
  rw [tI_lm, tI_dead]
  have := tk_le h
  constructor
  · intro q; exact q.2
  · intro q; exact ⟨by omega, q⟩
theorem first_same (hd : dt_ok mn zs wd pn ph pa ch sz en kn co bo gc gb sc sh sl) (nd nc : Nat → Int32) : same mn zs pn ch (cs ph pa en sz gc gb sc sh sl 1).1 (mx pn wd zs mn kn co bo sh sl sc nd nc 1) := by
  intro K P UV hK hP hUV
  obtain ⟨-, hst⟩ := first_spec hd nd nc
  obtain ⟨hm, hzw, htr, hsz, hen, hgr, hsc, hsh, hsl⟩ := hd
  have hz := (htr.1 K hK).1
  obtain ⟨hpn, hn1, hn2, hph, hpa⟩ := (htr.1 K hK).2 (P / 3) (by omega)
  have hall := (hr_all (ph := ph) (pa := pa) (sc := sc) (sh := sh) (sl := sl) (wt := vp_updL (fun _ => wt_dead) (wt_cx 4 4) 0) (t := 0) (sz := sz) (by omega) (fun n h1 h2 => (htr.2.1 n h1 h2).1) 25 0 (fun _ => wt_dead)).1 UV (tr_nd ch pn K (P / 3 + 1)) (P % 3) (by omega) (by omega) hn1 hn2 (by omega)
  show wt_up (fun c tok => wt_hear ph pa sz sc sh sl (vp_updL (fun _ => wt_dead) (wt_cx 4 4) 0) 0 c tok) 25 0 (fun _ => wt_dead) _ = _
  rw [hall]
  obtain ⟨S, hS, eS⟩ := hsc (12 * 0 + 3 * pn (3 * K + P / 3) + P % 3) (by omega)
  have eix : 0 * 12 + ph (tr_nd ch pn K (P / 3 + 1)) * 3 + P % 3 = 12 * 0 + 3 * pn (3 * K + P / 3) + P % 3 := by rw [hph]; omega
  unfold hr_F
  rw [eix, eS, tk_pc_dead]
  apply tI_ext
  intro x
  rw [hst _ x (by omega)]
  by_cases h0 : P = 0 ∧ UV = 24
  · obtain ⟨rfl, rfl⟩ := h0
    have ecm : wt_cm pa sl (fun _ => wt_dead) (vp_updL (fun _ => wt_dead) (wt_cx 4 4) 0) 24 (tr_nd ch pn K (0 / 3 + 1)) (0 % 3) = lN 0 := by
      unfold wt_cm
      rw [if_neg (by decide), if_pos (by rw [hpa]; rfl)]
      exact pk_uLs
    rw [ecm, lm_dead (Or.inr ⟨0, by omega, rfl⟩)]
    constructor
    · intro q
      refine ⟨?_, fun k hk hj => ?_⟩
      · rw [tk_gal (Or.inr ⟨0, by omega, rfl⟩) (by omega)] at q; exact q.1
      · have : k = K := by omega
        subst this
        show x ≤ tI (wt_pc (lN 0) (sc (12 * 0 + 3 * pn (3 * k + 0 / 3) + 0 % 3)))
        rw [eS]; exact q
    · intro q
      have := q.2 K hK rfl
      have e9 : tI (wt_pc (lN (0 * 65536 + 0 * 1024 + 0)) (sc (12 * 0 + 3 * pn (3 * K + 0 / 3) + 0 % 3))) = tI (wt_pc (lN 0) (nI S)) := by rw [eS]
      rw [e9] at this
      exact this
  · have ecm : wt_cm pa sl (fun _ => wt_dead) (vp_updL (fun _ => wt_dead) (wt_cx 4 4) 0) UV (tr_nd ch pn K (P / 3 + 1)) (P % 3) = wt_dead := by
      unfold wt_cm wt_lv
      by_cases hs0 : 0 < P % 3
      · rw [if_pos hs0, tk_pc_dead]
      · rw [if_neg hs0]
        by_cases hp0 : pa (tr_nd ch pn K (P / 3 + 1)) = 0
        · rw [if_pos hp0]
          have hP0 : P = 0 := by
            rw [hpa] at hp0
            by_cases hP3 : P / 3 = 0
            · omega
            · have := ((htr.1 K hK).2 (P / 3 - 1) (by omega)).2.1
              rw [show P / 3 - 1 + 1 = P / 3 by omega] at this
              omega
          exact pk_uLn (fun q => h0 ⟨hP0, by rw [q]; rfl⟩)
        · rw [if_neg hp0, tk_pc_dead]
    rw [ecm, lm_dead tk_ok_dead, tk_pc_dead, tI_dead]
    constructor
    · intro q; exact ⟨q, fun k hk hj => absurd ⟨by omega, by omega⟩ h0⟩
    · intro q; exact q.1
/-- tokens live at nodes alone -/
def off (sz : Nat) (tok : Nat → Int64) : Prop := ∀ c n s, c < 25 → n < 25 → s < 3 → (n = 0 ∨ sz < n) → tok (wt_pl c n s) = wt_dead
theorem off_cs (hsz : sz ≤ 24) (hpa : ∀ n, 1 ≤ n → n ≤ sz → pa n < n) : ∀ n, off sz (cs ph pa en sz gc gb sc sh sl n).1
  | 0 => fun _ _ _ _ _ _ _ => rfl
  | n + 1 => by
    intro c m s hc hm hs h
    have e := (hr_all (ph := ph) (pa := pa) (sc := sc) (sh := sh) (sl := sl) (wt := (cs ph pa en sz gc gb sc sh sl n).2) (t := n) (sz := sz) (by omega) hpa 25 0 (cs ph pa en sz gc gb sc sh sl n).1).2 (wt_pl c m s) (fun c' n' s' _ _ g3 g4 g5 q => absurd (pl_inj hm hs (by omega) g5 q).2.1 (by omega))
    show wt_up (fun c tok => wt_hear ph pa sz sc sh sl (cs ph pa en sz gc gb sc sh sl n).2 n c tok) 25 0 _ _ = _
    rw [e]
    exact off_cs hsz hpa n c m s hc hm hs h
/-- every node's token is the reference's -/
theorem same_tok (htr : tr_ok mn zs pn ph pa ch sz) {tok : Nat → Int64} {x : wt_N} (hs : same mn zs pn ch tok x) {c n s : Nat} (hc : c < 25) (h1 : 1 ≤ n) (h2 : n ≤ sz) (hs3 : s < 3) : ∃ k i, k < mn ∧ i < zs k ∧ tr_nd ch pn k (i + 1) = n ∧ tok (wt_pl c n s) = EN x (225 * k + 25 * (3 * i + s) + c) := by
  obtain ⟨-, -, k, i, hk, hi, e⟩ := htr.2.1 n h1 h2
  refine ⟨k, i, hk, hi, e, ?_⟩
  have := hs k (3 * i + s) c hk (by omega) hc
  rw [show (3 * i + s) / 3 = i by omega, show (3 * i + s) % 3 = s by omega, e] at this
  exact this
theorem waits_of (hd : dt_ok mn zs wd pn ph pa ch sz en kn co bo gc gb sc sh sl) {T : Nat} (hT : T ≤ 15) {x : wt_N} (h0 : tri_all T mn zs x) {tok : Nat → Int64} (hs : same mn zs pn ch tok x) : waits en sz gc gb sl tok (wt_ea en sz gc gb sl tok) := by
  have hd' := hd
  obtain ⟨hm, hzw, htr, hsz, hen, hgr, hsc, hsh, hsl⟩ := hd'
  have zb : ∀ c n w, c < 25 → 1 ≤ n → n ≤ sz → w < 4 → en (n * 4 + w) = true → tk_b (2 ^ 42) (wa_z gc gb sl tok c n w) := by
    intro c n w hc h1 h2 hw he
    obtain ⟨k, hk, rfl, rfl⟩ := (hen n w h1 h2 hw).mp he
    have hz1 := (hzw k hk).1
    have hz3 := (htr.1 k hk).1
    have j1 : (225 * k + 25 * (3 * zs k - 1) + c) / 225 = k := by omega
    have j2 : (225 * k + 25 * (3 * zs k - 1) + c) / 25 % 9 = 3 * zs k - 1 := by omega
    have j3 : (225 * k + 25 * (3 * zs k - 1) + c) % 5 = c % 5 := by omega
    have j4 : (225 * k + 25 * (3 * zs k - 1) + c) / 5 % 5 = c / 5 := by omega
    have ok := ends_b hd (T := T) hT h0 (i := 225 * k + 25 * (3 * zs k - 1) + c) (by omega) (by rw [j1]; exact hk) (by rw [j1, j2]; omega) (by rw [j1, j2])
    rw [j1, j3, j4] at ok
    have eT := hs k (3 * zs k - 1) c hk (by omega) hc
    rw [show (3 * zs k - 1) / 3 + 1 = zs k by omega, show (3 * zs k - 1) % 3 = 2 by omega] at eT
    unfold wa_z wt_lv
    rw [eT, (gr_aft hgr (u := c / 5) (v := c % 5) (w := wd k) (by omega) (by omega) (by omega)).1]
    exact ok
  obtain ⟨a1, a2⟩ := wa_all zb
  exact ⟨fun j _ => a1 j, a2⟩
/-- after n frames the class's tokens are the reference's -/
theorem frames_rel (hd : dt_ok mn zs wd pn ph pa ch sz en kn co bo gc gb sc sh sl) (nd nc : Nat → Int32) : ∀ n, n + 1 ≤ 15 →
    tri_all (n + 1) mn zs (mx pn wd zs mn kn co bo sh sl sc nd nc (n + 1)) ∧ same mn zs pn ch (cs ph pa en sz gc gb sc sh sl (n + 1)).1 (mx pn wd zs mn kn co bo sh sl sc nd nc (n + 1)) ∧ waits en sz gc gb sl (cs ph pa en sz gc gb sc sh sl (n + 1)).1 (cs ph pa en sz gc gb sc sh sl (n + 1)).2 := by
  intro n
  induction n with
  | zero =>
    intro _
    have h1 := (first_spec hd nd nc).1
    have h2 := first_same hd nd nc
    have h3 := waits_of hd (T := 1) (by omega) h1 h2
    exact ⟨h1, h2, h3⟩
  | succ n ih =>
    intro hn
    obtain ⟨h1, h2, h3⟩ := ih (by omega)
    have e : mx pn wd zs mn kn co bo sh sl sc nd nc (n + 1 + 1) = wt_st pn wd zs mn kn co bo sh sl sc (n + 1) (mx pn wd zs mn kn co bo sh sl sc nd nc (n + 1)) := if_neg (by omega)
    have g1 := (st_spec hd (T := n + 1) (t := n + 1) (by omega) (by omega) h1).1
    have g2 := main_step hd (T := n + 1) (t := n + 1) (by omega) (by omega) h1 h2 h3
    have g3 := waits_of hd (T := n + 1 + 1) (by omega) g1 g2
    have e3 : cs ph pa en sz gc gb sc sh sl (n + 1 + 1) = (wt_ha ph pa sz sc sh sl (cs ph pa en sz gc gb sc sh sl (n + 1)).2 (n + 1) (cs ph pa en sz gc gb sc sh sl (n + 1)).1, wt_ea en sz gc gb sl (wt_ha ph pa sz sc sh sl (cs ph pa en sz gc gb sc sh sl (n + 1)).2 (n + 1) (cs ph pa en sz gc gb sc sh sl (n + 1)).1)) := rfl
    rw [e, e3]
    generalize wt_ha ph pa sz sc sh sl (cs ph pa en sz gc gb sc sh sl (n + 1)).2 (n + 1) (cs ph pa en sz gc gb sc sh sl (n + 1)).1 = tk at g2 g3 ⊢
    generalize wt_ea en sz gc gb sl tk = wk at g3 ⊢
    exact ⟨g1, g2, g3⟩
end FRAMES
