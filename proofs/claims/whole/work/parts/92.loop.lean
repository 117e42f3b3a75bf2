/-! the law's loop -/
set_option maxHeartbeats 4000000 in
set_option maxRecDepth 100000 in
theorem law_loop {p : Program} {l : Launch} {e : Env} {s : State} {m : MethodId} {below : List Frame} {meth : Method} {c : Code} {dC : Nat → ClassId} {dI : Nat → Nat → Nat} {cI cZ cL : ClassId} {b L : Nat} {xs : Nat → Int32} {q qm : Nat → Nat} (hL : L ≤ 3072) (C0 : lw_At p s m meth c b L xs) (hK : va_K (dC, dI) vwCl [(cI, .int), (cZ, .boolean), (cL, .long)] s) (hN : wt_nest s) : ∀ (n i : Nat), L < i + n → i ≤ L → ∀ (H : Heap) (locs : List Loc) (ls : Array Slot), wtInv s dC dI cI cZ cL q qm H locs → lv_has ls 4 [(0, .ref b), (1, .ref (q 0)), (2, .ref (qm 0)), (3, .int (nI i))] → W p l e room_1 s m #[Value.ref b] below meth c H locs 34 14336 (lw_Z below #[Value.ref b] s) (F0 m 18 ls []) := by
  obtain ⟨hx, hb, hr, hml, hown0, hts, hX, hbl, hlocks, hgv⟩ := id C0
  have hown : s.vm.findClass RL = some m.cls := hown0
  have ht : ∀ w ∈ tb, w.before _ s = true := fun w h => hts w (tb_in w h)
  have hA : ∀ a : Nat, s.heap.size ≤ a → (fun a : Nat => s.heap.size ≤ a) a := fun _ h => h
  have hbA : ¬ (fun a : Nat => s.heap.size ≤ a) b := Nat.not_le.mpr hbl
  intro n
  induction n with
  | zero => intro i h1 h2; omega
  | succ n ih =>
    intro i h1 h2 H locs ls inv hl
    have hS : va_S (fun a : Nat => s.heap.size ≤ a) s.heap H locs := by
      obtain ⟨ph, pa, ch, en, sz, pr, gc, gb, sc, sh, sl, ct, tok, wt, pn, lt, wp, sd, kn, co, bo, wd, zs, fp, ea, dn, cd, nx, nd, nc, al, wo, wh, pg, hP, hD, hS, hrel, hca⟩ := inv
      exact hS
    refine lv_iload_n hx hb dL_law_18 rfl (lv_at hl 3 rfl) ?_
    refine lv_aload_n hx hb dL_law_19 rfl (lv_at hl 0 rfl) ?_
    refine va_slen hx hb hX hbl hbA hS dL_law_20 ?_
    refine lv_bipush (v := nI 6) hx hb dL_law_21 (by decide) ?_
    refine lv_isub hx hb dL_law_23 ?_
    refine lv_icmp_gt (tgt := 559) hx hb dL_law_24 (by decide) (fun _ => ?_) (fun hgt => ?_)
    · refine lv_iconst (v := 1) hx hb dL_law_559 (by decide) ?_
      refine va_forget (fun q hq => hS.2.2 q hq) ?_
      exact lw_ret hx hb hr hlocks dL_law_560
    have hi6 : i + 6 ≤ L := len6 (by omega) (by omega) hgt
    have K : ∀ (H : Heap) (locs : List Loc) (ls : Array Slot), wtInv s dC dI cI cZ cL q qm H locs → lv_has ls 4 [(0, .ref b), (1, .ref (q 0)), (2, .ref (qm 0)), (3, .int (nI i))] → W p l e room_1 s m #[Value.ref b] below meth c H locs 34 14336 (lw_Z below #[Value.ref b] s) (F0 m 553 ls []) := by
      intro H locs ls inv hl
      refine lv_iinc (v := nI (i + 6)) (lv' := [(3, .int (nI (i + 6))), (0, .ref b), (1, .ref (q 0)), (2, .ref (qm 0))]) hx hb dL_law_553 hl (k := 3) rfl (wt_inc6 i) (by decide) rfl (fun ls hl => ?_)
      refine lv_goto (tgt := 18) hx hb dL_law_556 (by decide) ?_
      exact ih (i + 6) (by omega) hi6 H locs ls inv (lv_sub hl [1, 2, 3, 0] rfl)
    refine lv_aload_n hx hb dL_law_27 rfl (lv_at hl 0 rfl) ?_
    refine lv_iload_n hx hb dL_law_28 rfl (lv_at hl 3 rfl) ?_
    refine wt_sld hx hb hX hbl hbA hS (k := i) (by omega) (by omega) (v := xs i) rfl dL_law_29 ?_
    refine lv_bipush (v := nI 15) hx hb dL_law_30 (by decide) ?_
    refine lv_iand hx hb dL_law_32 ?_
    obtain ⟨j, hj, ej⟩ := pk_andE (xs i) (m := nI 15) 4 (by decide)
    rw [ej]
    rcases (show j = 0 ∨ j = 1 ∨ j = 2 ∨ j = 3 ∨ j = 4 ∨ j = 5 ∨ j = 6 ∨ j = 7 ∨ j = 8 ∨ j = 9 ∨ j = 10 ∨ j = 11 ∨ j = 12 ∨ j = 13 ∨ j = 14 ∨ j = 15 by omega) with rfl | rfl | rfl | rfl | rfl | rfl | rfl | rfl | rfl | rfl | rfl | rfl | rfl | rfl | rfl | rfl
    · refine lv_tableIn (tgt := 108) (off := 75) hx hb dL_law_33 (by decide) (by decide) (by decide) (by decide) ?_
      exact law_say hL C0 hK hN hi6 K H locs ls inv hl
    · refine lv_tableIn (tgt := 161) (off := 128) hx hb dL_law_33 (by decide) (by decide) (by decide) (by decide) ?_
      exact law_gram hL C0 hK hN hi6 K H locs ls inv hl
    · refine lv_tableIn (tgt := 224) (off := 191) hx hb dL_law_33 (by decide) (by decide) (by decide) (by decide) ?_
      exact law_ungram hL C0 hK hN hi6 K H locs ls inv hl
    · refine lv_tableIn (tgt := 267) (off := 234) hx hb dL_law_33 (by decide) (by decide) (by decide) (by decide) ?_
      exact law_after hL C0 hK hN hi6 K H locs ls inv hl
    · refine lv_tableIn (tgt := 310) (off := 277) hx hb dL_law_33 (by decide) (by decide) (by decide) (by decide) ?_
      exact law_topology hL C0 hK hN hi6 K H locs ls inv hl
    · refine lv_tableIn (tgt := 353) (off := 320) hx hb dL_law_33 (by decide) (by decide) (by decide) (by decide) ?_
      exact law_frame hL C0 hK hN hi6 K H locs ls inv hl
    · refine lv_tableIn (tgt := 366) (off := 333) hx hb dL_law_33 (by decide) (by decide) (by decide) (by decide) ?_
      exact law_drop hL C0 hK hN hi6 K H locs ls inv hl
    · refine lv_tableIn (tgt := 379) (off := 346) hx hb dL_law_33 (by decide) (by decide) (by decide) (by decide) ?_
      exact law_sound hL C0 hK hN hi6 K H locs ls inv hl
    · refine lv_tableIn (tgt := 432) (off := 399) hx hb dL_law_33 (by decide) (by decide) (by decide) (by decide) ?_
      exact law_frames hL C0 hK hN hi6 K H locs ls inv hl
    · refine lv_tableIn (tgt := 445) (off := 412) hx hb dL_law_33 (by decide) (by decide) (by decide) (by decide) ?_
      exact law_nodes hL C0 hK hN hi6 K H locs ls inv hl
    · refine lv_tableIn (tgt := 458) (off := 425) hx hb dL_law_33 (by decide) (by decide) (by decide) (by decide) ?_
      exact law_total hL C0 hK hN hi6 K H locs ls inv hl
    · refine lv_tableIn (tgt := 471) (off := 438) hx hb dL_law_33 (by decide) (by decide) (by decide) (by decide) ?_
      exact law_length hL C0 hK hN hi6 K H locs ls inv hl
    · refine lv_tableIn (tgt := 484) (off := 451) hx hb dL_law_33 (by decide) (by decide) (by decide) (by decide) ?_
      exact law_wordAt hL C0 hK hN hi6 K H locs ls inv hl
    · refine lv_tableIn (tgt := 507) (off := 474) hx hb dL_law_33 (by decide) (by decide) (by decide) (by decide) ?_
      exact law_live hL C0 hK hN hi6 K H locs ls inv hl
    · refine lv_tableIn (tgt := 530) (off := 497) hx hb dL_law_33 (by decide) (by decide) (by decide) (by decide) ?_
      exact law_best hL C0 hK hN hi6 K H locs ls inv hl
    · refine lv_tableOut (tgt := 553) hx hb dL_law_33 (by decide) (by decide) ?_
      exact K H locs ls inv hl
