/-! the reference's frames, whole path, counts, as it computes -/
def wt_first (pn : Nat → Nat) (so : Nat → Int32) (mn : Nat) (x : wt_N) : wt_N := wt_up (fun k x => wt_come pn so 0 k 0 24 (nI 0) (nI 0) (nI 0) x) mn 0 x
def wt_mrun (pn wd zs : Nat → Nat) (mn : Nat) (kn : Nat → Bool) (co bo ho le so : Nat → Int32) (n : Nat) (nd nc : Nat → Int32) : wt_N :=
  wt_up (fun t x => wt_st pn wd zs mn kn co bo ho le so t x) (n - 1) 1 (if n = 0 then ((fun _ => -1), nd, nc) else wt_first pn so mn ((fun _ => -1), nd, nc))
def wt_ends (zs : Nat → Nat) (ea : Nat → Int32) (i : Nat) : Bool := decide (0 ≤ ea i) && decide (i / 25 % 9 = 3 * zs (i / 225) - 1)
def wt_wh1 (wd zs : Nat → Nat) (kn : Nat → Bool) (co bo le ea dn cd : Nat → Int32) (i : Nat) (x : Int32 × Int32 × Int32) : Int32 × Int32 × Int32 :=
  if wt_ends zs ea i = true ∧ ¬ wt_afN kn co bo (i / 5 % 5) (i % 5) (wd (i / 225)) < 0 ∧ ¬ wt_afN kn co bo (i % 5) (wd (i / 225)) 4 < 0 ∧ wt_bet (ea i + le 2 + wt_afN kn co bo (i / 5 % 5) (i % 5) (wd (i / 225)) + wt_afN kn co bo (i % 5) (wd (i / 225)) 4) (dn i + nI 1) (nI 4 * cd i + nI (wd (i / 225))) x.1 x.2.1 x.2.2 = true
  then (ea i + le 2 + wt_afN kn co bo (i / 5 % 5) (i % 5) (wd (i / 225)) + wt_afN kn co bo (i % 5) (wd (i / 225)) 4, dn i + nI 1, nI 4 * cd i + nI (wd (i / 225))) else x
def wt_wh (wd zs : Nat → Nat) (mn : Nat) (kn : Nat → Bool) (co bo le ea dn cd : Nat → Int32) : Int32 × Int32 × Int32 := wt_up (fun i x => wt_wh1 wd zs kn co bo le ea dn cd i x) (225 * mn) 0 (-1, nI 0, nI 0)
def wt_lv1 (zs : Nat → Nat) (fp ea : Nat → Int32) (i n : Nat) : Nat := if 0 ≤ ea i ∧ wt_fre zs fp (i / 225) (i / 25 % 9 / 3 + 1) = true then n + 1 else n
def wt_live (zs : Nat → Nat) (mn : Nat) (fp ea : Nat → Int32) : Nat := wt_up (fun i n => wt_lv1 zs fp ea i n) (225 * mn) 0 0
def wt_be1 (ea : Nat → Int32) (i : Nat) (c : Int32) : Int32 := if 0 ≤ ea i ∧ (c < 0 ∨ ea i < c) then ea i else c
def wt_best (ea : Nat → Int32) : Int32 := wt_up (fun i c => wt_be1 ea i c) 1800 0 (-1)
def wt_mw (wo wh ix : Int32) : Int32 := if ix < 0 ∨ ¬ ix < wo then -1 else wh >>> ((nI 2 * (wo - nI 1 - ix)) &&& 31) &&& nI 3
theorem mrun_mx (pn wd zs : Nat → Nat) (mn : Nat) (kn : Nat → Bool) (co bo ho le so nd nc : Nat → Int32) : ∀ n, wt_mrun pn wd zs mn kn co bo ho le so n nd nc = mx pn wd zs mn kn co bo ho le so nd nc n
  | 0 => rfl
  | 1 => rfl
  | n + 2 => by
    have e : wt_mrun pn wd zs mn kn co bo ho le so (n + 2) nd nc = wt_st pn wd zs mn kn co bo ho le so (1 + n) (wt_mrun pn wd zs mn kn co bo ho le so (n + 1) nd nc) := by
      unfold wt_mrun
      rw [if_neg (by omega), if_neg (by omega), show n + 2 - 1 = n + 1 by omega, show n + 1 - 1 = n by omega]
      exact up_snoc _ n 1 _
    have e2 : mx pn wd zs mn kn co bo ho le so nd nc (n + 2) = wt_st pn wd zs mn kn co bo ho le so (n + 1) (mx pn wd zs mn kn co bo ho le so nd nc (n + 1)) := if_neg (by omega)
    rw [e, e2, mrun_mx pn wd zs mn kn co bo ho le so nd nc (n + 1), Nat.add_comm 1 n]
