/-! the class, as it computes: tokens -/
def wt_dead : Int64 := 4611686018427387904
def wt_lm (x y : Int64) : Int64 := if y < x then y else x
def wt_pc (t : Int64) (k : Int32) : Int64 := if t = wt_dead ∨ k = -1 then wt_dead else t + k.toInt64 <<< ((nI 16).toInt64 &&& 63)
def wt_pw (t : Int64) (w : Int32) : Int64 := if t = wt_dead then wt_dead else (t &&& (-1024)) + 1024 + ((t &&& 1023) <<< ((nI 2).toInt64 &&& 63) ||| w.toInt64)
def wt_tc (t : Int64) : Int32 := if t = wt_dead then -1 else (t >>> ((nI 16).toInt64 &&& 63)).toInt32
def wt_tn (t : Int64) : Int32 := if t = wt_dead then nI 0 else (t >>> ((nI 10).toInt64 &&& 63) &&& 63).toInt32
def wt_tw (t : Int64) (i : Int32) : Int32 := if i < 0 ∨ wt_tn t ≤ i then -1 else (t >>> (((wt_tn t - nI 1 - i) * nI 2).toInt64 &&& 63)).toInt32 &&& nI 3
/-! places, contexts, grams -/
def wt_pl (c n s : Nat) : Nat := (c * 25 + n) * 3 + s
def wt_cx (u v : Nat) : Nat := u * 5 + v
def wt_sl (a b c : Nat) : Nat := (a * 6 + b) * 6 + c
def wt_two (gc gb : Nat → Int32) (v w : Nat) : Int32 :=
  if gc (wt_sl 0 (v + 1) (w + 1)) = -1 then (if gc (wt_sl 0 0 (w + 1)) = -1 then -1 else gb (wt_sl 0 0 (v + 1)) + gc (wt_sl 0 0 (w + 1))) else gc (wt_sl 0 (v + 1) (w + 1))
def wt_aft (gc gb : Nat → Int32) (u v w : Nat) : Int32 :=
  if v = 4 then wt_two gc gb v w else if gc (wt_sl (u + 1) (v + 1) (w + 1)) = -1 then (if wt_two gc gb v w = -1 then -1 else gb (wt_sl 0 (u + 1) (v + 1)) + wt_two gc gb v w) else gc (wt_sl (u + 1) (v + 1) (w + 1))
/-- words of two before, and one: a gram's form -/
def wt_isG (u v w : Int32) : Bool := decide (¬ wt_rng w 5 = 0) && (if u = -1 then (decide (v = -1) || decide (¬ wt_rng v 5 = 0)) else (decide (¬ wt_rng u 5 = 0) && decide (¬ wt_rng v 4 = 0)))
def wt_gx (u v w : Int32) : Nat := wt_sl (u + 1).toNatClampNeg (v + 1).toNatClampNeg (w + 1).toNatClampNeg
/-! the tree: phones, parents, children, size, a node -/
abbrev wt_T : Type := (Nat → Nat) × (Nat → Nat) × (Nat → Nat) × Nat × Nat
def wt_gr (ph pa ch : Nat → Nat) (sz n p : Nat) : wt_T := if ch (n * 4 + p) = 0 then (va_up ph (sz + 1) p, va_up pa (sz + 1) n, va_up ch (n * 4 + p) (sz + 1), sz + 1, sz + 1) else (ph, pa, ch, sz, ch (n * 4 + p))
def wt_gq (x : wt_T) (q : Int32) : wt_T := if q = -1 then x else wt_gr x.1 x.2.1 x.2.2.1 x.2.2.2.1 x.2.2.2.2 q.toNatClampNeg
def wt_add (ph pa ch : Nat → Nat) (sz p : Nat) (q r : Int32) : wt_T := wt_gq (wt_gq (wt_gr ph pa ch sz 0 p) q) r
def wt_dq (ch : Nat → Nat) (n : Nat) (q : Int32) : Nat := if n = 0 ∨ q = -1 then n else ch (n * 4 + q.toNatClampNeg)
def wt_has (ch : Nat → Nat) (en : Nat → Bool) (w p : Nat) (q r : Int32) : Bool := decide (¬ wt_dq ch (wt_dq ch (ch (0 * 4 + p)) q) r = 0) && en (wt_dq ch (wt_dq ch (ch (0 * 4 + p)) q) r * 4 + w)
def wt_isP (p q r : Int32) : Bool := decide (¬ wt_rng p 4 = 0) && (if q = -1 then decide (r = -1) else (decide (¬ wt_rng q 4 = 0) && (decide (r = -1) || decide (¬ wt_rng r 4 = 0))))
/-! the search -/
def wt_lv (sl : Nat → Int32) (tok : Nat → Int64) (c n s : Nat) : Int64 := wt_pc (tok (wt_pl c n s)) (sl s)
def wt_cm (pa : Nat → Nat) (sl : Nat → Int32) (tok wt : Nat → Int64) (c n s : Nat) : Int64 := if 0 < s then wt_lv sl tok c n (s - 1) else if pa n = 0 then wt c else wt_lv sl tok c (pa n) 2
def wt_h1 (ph pa : Nat → Nat) (sc sh sl : Nat → Int32) (wt : Nat → Int64) (t c n s : Nat) (tok : Nat → Int64) : Nat → Int64 := vp_updL tok (wt_pl c n s) (wt_pc (wt_lm (wt_pc (tok (wt_pl c n s)) (sh s)) (wt_cm pa sl tok wt c n s)) (sc (t * 12 + ph n * 3 + s)))
def wt_hn (ph pa : Nat → Nat) (sc sh sl : Nat → Int32) (wt : Nat → Int64) (t c n : Nat) (tok : Nat → Int64) : Nat → Int64 := wt_dn (fun s tok => wt_h1 ph pa sc sh sl wt t c n s tok) 3 tok
def wt_hear (ph pa : Nat → Nat) (sz : Nat) (sc sh sl : Nat → Int32) (wt : Nat → Int64) (t c : Nat) (tok : Nat → Int64) : Nat → Int64 := wt_dn (fun n tok => wt_hn ph pa sc sh sl wt t c (n + 1) tok) sz tok
def wt_e1 (en : Nat → Bool) (gc gb : Nat → Int32) (c n : Nat) (token : Int64) (w : Nat) (wt : Nat → Int64) : Nat → Int64 := if ¬ token = wt_dead ∧ en (n * 4 + w) = true then vp_updL wt (wt_cx (c % 5) w) (wt_lm (wt (wt_cx (c % 5) w)) (wt_pw (wt_pc token (wt_aft gc gb (c / 5) (c % 5) w)) (nI w))) else wt
def wt_en (en : Nat → Bool) (gc gb sl : Nat → Int32) (tok : Nat → Int64) (c n : Nat) (wt : Nat → Int64) : Nat → Int64 := wt_up (fun w wt => wt_e1 en gc gb c n (wt_lv sl tok c n 2) w wt) 4 0 wt
def wt_end (en : Nat → Bool) (sz : Nat) (gc gb sl : Nat → Int32) (tok : Nat → Int64) (c : Nat) (wt : Nat → Int64) : Nat → Int64 := wt_up (fun n wt => wt_en en gc gb sl tok c n wt) sz 1 wt
def wt_ms1 (tok : Nat → Int64) (k : Nat) (x : Nat × Int64) : Nat × Int64 := if tok k = wt_dead then x else (x.1 + 1, wt_lm x.2 (tok k))
def wt_ms (tok : Nat → Int64) : Nat × Int64 := wt_up (fun k x => wt_ms1 tok k x) 1875 0 (0, wt_dead)
def wt_ep1 (gc gb : Nat → Int32) (wt : Nat → Int64) (u v : Nat) (wp : Int64) : Int64 := wt_lm wp (wt_pc (wt (wt_cx u v)) (wt_aft gc gb u v 4))
def wt_ep (gc gb : Nat → Int32) (wt : Nat → Int64) : Int64 := wt_up (fun u wp => wt_up (fun v wp => wt_ep1 gc gb wt u v wp) 4 0 wp) 5 0 wt_dead
def wt_ha (ph pa : Nat → Nat) (sz : Nat) (sc sh sl : Nat → Int32) (wt : Nat → Int64) (t : Nat) (tok : Nat → Int64) : Nat → Int64 := wt_up (fun c tok => wt_hear ph pa sz sc sh sl wt t c tok) 25 0 tok
def wt_ea (en : Nat → Bool) (sz : Nat) (gc gb sl : Nat → Int32) (tok : Nat → Int64) : Nat → Int64 := wt_up (fun c wt => wt_end en sz gc gb sl tok c wt) 25 0 (fun _ => wt_dead)
/-- tokens, waiting, counts, least ones -/
abbrev wt_F : Type := (Nat → Int64) × (Nat → Int64) × (Nat → Nat) × (Nat → Int64)
def wt_fr (ph pa : Nat → Nat) (en : Nat → Bool) (sz : Nat) (gc gb sc sh sl : Nat → Int32) (t : Nat) (x : wt_F) : wt_F :=
  (wt_ha ph pa sz sc sh sl x.2.1 t x.1, wt_ea en sz gc gb sl (wt_ha ph pa sz sc sh sl x.2.1 t x.1), va_up x.2.2.1 (t + 1) (wt_ms (wt_ha ph pa sz sc sh sl x.2.1 t x.1)).1, vp_updL x.2.2.2 (t + 1) (wt_ms (wt_ha ph pa sz sc sh sl x.2.1 t x.1)).2)
def wt_run (ph pa : Nat → Nat) (en : Nat → Bool) (sz : Nat) (gc gb sc sh sl : Nat → Int32) (ct : Nat) (pn : Nat → Nat) (lt : Nat → Int64) : wt_F :=
  wt_up (fun t x => wt_fr ph pa en sz gc gb sc sh sl t x) ct 0 (fun _ => wt_dead, vp_updL (fun _ => wt_dead) (wt_cx 4 4) 0, pn, lt)
/-! the reference, as it computes -/
def wt_bg (fp : Nat → Int32) (j k : Nat) : Nat → Nat → Bool → Bool
  | 0, _, b => b
  | r + 1, i, b => if b = true then wt_bg fp j k r (i + 1) (decide (fp (3 * j + i) = fp (3 * k + i))) else b
def wt_beg (zs : Nat → Nat) (fp : Nat → Int32) (j k n : Nat) : Bool := wt_bg fp j k n 0 (decide (n ≤ zs j) && decide (n ≤ zs k))
def wt_fre (zs : Nat → Nat) (fp : Nat → Int32) (k n : Nat) : Bool := wt_up (fun j b => b && !(wt_beg zs fp j k n)) k 0 true
def wt_nod (zs : Nat → Nat) (fp : Nat → Int32) (mn : Nat) : Nat := wt_up (fun k n => wt_up (fun i n => if wt_fre zs fp k i = true then n + 1 else n) (zs k) 1 n) mn 0 0
def wt_gd (w p q r : Int32) : Bool := decide (¬ wt_rng w 4 = 0) && (decide (¬ wt_rng p 4 = 0) && ((decide (q = -1) || decide (¬ wt_rng q 4 = 0)) && (decide (r = -1) || (decide (¬ wt_rng r 4 = 0) && decide (¬ q = -1)))))
def wt_any (f : Nat → Bool) : Nat → Nat → Bool
  | 0, _ => false
  | r + 1, i => f i || wt_any f r (i + 1)
def wt_dup1 (wd zs : Nat → Nat) (fp : Nat → Int32) (mn k : Nat) : Bool := decide (wd k = wd mn) && (decide (zs k = zs mn) && wt_beg zs fp k mn (zs k))
def wt_dup (wd zs : Nat → Nat) (fp : Nat → Int32) (mn : Nat) : Bool := wt_any (fun k => wt_dup1 wd zs fp mn k) mn 0
def wt_sR (u v w : Int32) : Int32 :=
  if wt_rng w 5 = 0 ∨ (¬ v = -1 ∧ wt_rng v 5 = 0) ∨ (¬ u = -1 ∧ wt_rng u 5 = 0) ∨ (¬ u = -1 ∧ wt_rng v 4 = 0) then -1
  else if v = -1 then w else if u = -1 then nI 5 + nI 5 * v + w else nI 30 + nI 25 * u + nI 5 * v + w
def wt_bk (kn : Nat → Bool) (bo : Nat → Int32) (k : Nat) : Int32 := if kn k = true then bo k else nI 0
def wt_af1 (kn : Nat → Bool) (co bo : Nat → Int32) (v w : Nat) : Int32 :=
  if kn (5 + 5 * v + w) = true then co (5 + 5 * v + w) else if kn w = true then wt_bk kn bo v + co w else -1
def wt_afN (kn : Nat → Bool) (co bo : Nat → Int32) (u v w : Nat) : Int32 :=
  if ¬ v = 4 ∧ kn (30 + 25 * u + 5 * v + w) = true then co (30 + 25 * u + 5 * v + w)
  else if wt_af1 kn co bo v w < 0 ∨ v = 4 then wt_af1 kn co bo v w else wt_af1 kn co bo v w + wt_bk kn bo (5 + 5 * u + v)
/-- what 'after' is asked of: words or the edge -/
def wt_okA (u v w : Int32) : Bool := decide (¬ wt_rng w 5 = 0) && (decide (¬ wt_rng v 5 = 0) && (decide (¬ wt_rng u 5 = 0) && !(decide (v = nI 4) && !(decide (u = nI 4)))))
def wt_bet (v d w nx nd nc : Int32) : Bool := decide (nx < 0) || (decide (v < nx) || (decide (v = nx) && (decide (d < nd) || (decide (d = nd) && decide (w < nc)))))
abbrev wt_N : Type := (Nat → Int32) × (Nat → Int32) × (Nat → Int32)
def wt_put (x : wt_N) (to : Nat) (v d w : Int32) : wt_N := if wt_bet v d w (x.1 to) (x.2.1 to) (x.2.2 to) = true then (upd x.1 to v, upd x.2.1 to d, upd x.2.2 to w) else x
def wt_come (pn : Nat → Nat) (so : Nat → Int32) (t k p uv : Nat) (c d w : Int32) (x : wt_N) : wt_N := wt_put x (225 * k + 25 * p + uv) (c + so (12 * t + 3 * pn (3 * k + p / 3) + p % 3)) d w
def wt_goB (pn wd zs : Nat → Nat) (mn : Nat) (kn : Nat → Bool) (co bo le so ea dn cd : Nat → Int32) (t i : Nat) (y : wt_N) : wt_N :=
  if i / 25 % 9 + 1 < 3 * zs (i / 225) then wt_come pn so t (i / 225) (i / 25 % 9 + 1) (i % 25) (ea i + le (i / 25 % 9 % 3)) (dn i) (cd i) y
  else if wt_afN kn co bo (i / 5 % 5) (i % 5) (wd (i / 225)) < 0 then y
  else wt_up (fun j x => wt_come pn so t j 0 (5 * (i % 5) + wd (i / 225)) (ea i + le 2 + wt_afN kn co bo (i / 5 % 5) (i % 5) (wd (i / 225))) (dn i + nI 1) (nI 4 * cd i + nI (wd (i / 225))) x) mn 0 y
def wt_go (pn wd zs : Nat → Nat) (mn : Nat) (kn : Nat → Bool) (co bo ho le so ea dn cd : Nat → Int32) (t i : Nat) (x : wt_N) : wt_N :=
  wt_goB pn wd zs mn kn co bo le so ea dn cd t i (wt_come pn so t (i / 225) (i / 25 % 9) (i % 25) (ea i + ho (i / 25 % 9 % 3)) (dn i) (cd i) x)
/-- one frame more, and the first -/
def wt_st (pn wd zs : Nat → Nat) (mn : Nat) (kn : Nat → Bool) (co bo ho le so : Nat → Int32) (t : Nat) (x : wt_N) : wt_N :=
  wt_up (fun i y => if 0 ≤ x.1 i then wt_go pn wd zs mn kn co bo ho le so x.1 x.2.1 x.2.2 t i y else y) 1800 0 ((fun _ => -1), x.2.1, x.2.2)
