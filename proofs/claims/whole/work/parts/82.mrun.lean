/-! the reference: its frames, its whole path -/
theorem ends_t {zs : Nat → Nat} {ea : Nat → Int32} {i : Nat} (h1 : ¬ ea i < 0) (h2 : i / 25 % 9 = 3 * zs (i / 225) - 1) : wt_ends zs ea i = true := by
  unfold wt_ends; rw [decide_eq_true (Int32.not_lt.mp h1), decide_eq_true h2]; rfl
theorem ends_f1 {zs : Nat → Nat} {ea : Nat → Int32} {i : Nat} (h1 : ea i < 0) : ¬ wt_ends zs ea i = true := by
  unfold wt_ends; rw [decide_eq_false (Int32.not_le.mpr h1), Bool.false_and]; decide
theorem ends_f2 {zs : Nat → Nat} {ea : Nat → Int32} {i : Nat} (h2 : ¬ i / 25 % 9 = 3 * zs (i / 225) - 1) : ¬ wt_ends zs ea i = true := by
  unfold wt_ends; rw [decide_eq_false h2, Bool.and_false]; decide
section WH
variable {wd zs : Nat → Nat} {kn : Nat → Bool} {co bo le ea dn cd : Nat → Int32} {i : Nat} {x : Int32 × Int32 × Int32}
theorem wh_no1 (h : ea i < 0) : wt_wh1 wd zs kn co bo le ea dn cd i x = x := if_neg (fun q => ends_f1 h q.1)
theorem wh_no2 (h : ¬ i / 25 % 9 = 3 * zs (i / 225) - 1) : wt_wh1 wd zs kn co bo le ea dn cd i x = x := if_neg (fun q => ends_f2 h q.1)
theorem wh_no3 (h : wt_afN kn co bo (i / 5 % 5) (i % 5) (wd (i / 225)) < 0) : wt_wh1 wd zs kn co bo le ea dn cd i x = x := if_neg (fun q => q.2.1 h)
theorem wh_no4 (h : wt_afN kn co bo (i % 5) (wd (i / 225)) 4 < 0) : wt_wh1 wd zs kn co bo le ea dn cd i x = x := if_neg (fun q => q.2.2.1 h)
theorem wh_no5 (h : wt_bet (ea i + le 2 + wt_afN kn co bo (i / 5 % 5) (i % 5) (wd (i / 225)) + wt_afN kn co bo (i % 5) (wd (i / 225)) 4) (dn i + nI 1) (nI 4 * cd i + nI (wd (i / 225))) x.1 x.2.1 x.2.2 = false) : wt_wh1 wd zs kn co bo le ea dn cd i x = x := if_neg (fun q => by rw [h] at q; exact absurd q.2.2.2 (by decide))
theorem wh_yes (h1 : ¬ ea i < 0) (h2 : i / 25 % 9 = 3 * zs (i / 225) - 1) (h3 : ¬ wt_afN kn co bo (i / 5 % 5) (i % 5) (wd (i / 225)) < 0) (h4 : ¬ wt_afN kn co bo (i % 5) (wd (i / 225)) 4 < 0) (h : wt_bet (ea i + le 2 + wt_afN kn co bo (i / 5 % 5) (i % 5) (wd (i / 225)) + wt_afN kn co bo (i % 5) (wd (i / 225)) 4) (dn i + nI 1) (nI 4 * cd i + nI (wd (i / 225))) x.1 x.2.1 x.2.2 = true) : wt_wh1 wd zs kn co bo le ea dn cd i x = (ea i + le 2 + wt_afN kn co bo (i / 5 % 5) (i % 5) (wd (i / 225)) + wt_afN kn co bo (i % 5) (wd (i / 225)) 4, dn i + nI 1, nI 4 * cd i + nI (wd (i / 225))) := if_pos ⟨ends_t h1 h2, h3, h4, h⟩
end WH
theorem be_1 {ea : Nat → Int32} {i : Nat} {c : Int32} (h : ea i < 0) : wt_be1 ea i c = c := if_neg (fun q => absurd q.1 (Int32.not_le.mpr h))
theorem be_2 {ea : Nat → Int32} {i : Nat} {c : Int32} (h : ¬ ea i < 0) (h2 : c < 0) : wt_be1 ea i c = ea i := if_pos ⟨Int32.not_lt.mp h, Or.inl h2⟩
theorem be_3 {ea : Nat → Int32} {i : Nat} {c : Int32} (h2 : ¬ c < 0) (h3 : c ≤ ea i) : wt_be1 ea i c = c := if_neg (fun q => q.2.elim h2 (fun z => absurd h3 (Int32.not_le.mpr z)))
theorem be_4 {ea : Nat → Int32} {i : Nat} {c : Int32} (h : ¬ ea i < 0) (h3 : ¬ c ≤ ea i) : wt_be1 ea i c = ea i := if_pos ⟨Int32.not_lt.mp h, Or.inr (Int32.not_le.mp h3)⟩
theorem pv_24 {mn k : Nat} {zs : Nat → Nat} (hk : k < mn) (h : 1 ≤ zs k) : pv mn zs (225 * k + 25 * 0 + 24) := pv_of hk (by omega) (by omega) (by omega) (fun _ => by omega)
theorem pvs_m1 {mn : Nat} {zs : Nat → Nat} : pvs mn zs (fun _ => -1) := fun _ _ h => absurd h m1_neg
theorem pvs_mrun {mn : Nat} {zs wd pn : Nat → Nat} {kn : Nat → Bool} {co bo ho lv so : Nat → Int32} (hmn : mn ≤ 8) (hz1 : ∀ k, k < mn → 1 ≤ zs k) (hzs : ∀ k, zs k ≤ 3) (hwd : ∀ k, wd k < 4) (n : Nat) (nd nc : Nat → Int32) : pvs mn zs (wt_mrun pn wd zs mn kn co bo ho lv so n nd nc).1 := by
  unfold wt_mrun
  apply pvs_up
  · split
    · exact pvs_m1
    · exact pvs_up mn 0 _ pvs_m1 (fun j y _ hj hy => pvs_put hy (pv_24 (by omega) (hz1 j (by omega))))
  · intro t x _ _ hx
    exact pvs_up 1800 0 _ pvs_m1 (fun i y _ hi hy => by
      show pvs mn zs (if 0 ≤ x.1 i then _ else y).1
      split
      · exact pvs_go hmn hz1 hzs hwd (by omega) (hx i (by omega) (by assumption)) hy
      · exact hy)

set_option maxHeartbeats 4000000 in
set_option maxRecDepth 100000 in
theorem c_M_run (l : Launch) (dC : Nat → ClassId) (dI : Nat → Nat → Nat) (cI cZ cL : ClassId) (q : Nat → Nat) (sz0 : Nat) (kn : Nat → Bool) (co : Nat → Int32) (bo : Nat → Int32) (mn : Nat) (wd : Nat → Nat) (zs : Nat → Nat) (fp : Nat → Int32) (ho : Nat → Int32) (lv : Nat → Int32) (fr : Nat) (so : Nat → Int32) (ea : Nat → Int32) (dn : Nat → Int32) (cd : Nat → Int32) (nx : Nat → Int32) (nd : Nat → Int32) (nc : Nat → Int32) (al : Int32) (wo : Int32) (wh : Int32) (pn : Nat → Nat) (nn : Nat) (hnn : nn ≤ 15) (hmn : mn ≤ 8) (hzs : ∀ k, zs k ≤ 3) (hwd : ∀ k, wd k < 4) (hz1 : ∀ k, k < mn → 1 ≤ zs k) (hfp : ∀ k i, k < mn → i < zs k → fp (3 * k + i) = nI (pn (3 * k + i)) ∧ pn (3 * k + i) < 4) : Met l yM_run (Cond.code yM_run cM_run 4 none :: tb) ({ frames := 4, cells := 0, slots := 0, locals := 97 }) (va_Pc [.ref (q 0), .int (nI nn)] (wt_rw (dC, dI) vwCl [(cI, .int), (cZ, .boolean), (cL, .long)] (wM cI cZ cL q kn co bo mn wd zs fp ho lv fr so ea dn cd nx nd nc al wo wh) sz0)) (va_Qv (fun _ : Unit => True) (wt_B (dC, dI) vwCl (va_A (wM cI cZ cL q kn co bo mn wd zs fp ho lv fr so ea dn cd nx nd nc al wo wh) sz0) (wM cI cZ cL q kn co bo mn wd zs fp ho lv fr so ((wt_mrun pn wd zs mn kn co bo ho lv so nn nd nc).1) ((wt_mrun pn wd zs mn kn co bo ho lv so nn nd nc).2.1) ((wt_mrun pn wd zs mn kn co bo ho lv so nn nd nc).2.2) ((wt_mrun pn wd zs mn kn co bo ho lv so nn nd nc).1) ((wt_mrun pn wd zs mn kn co bo ho lv so nn nd nc).2.1) ((wt_mrun pn wd zs mn kn co bo ho lv so nn nd nc).2.2) al wo wh)) (va_A (wM cI cZ cL q kn co bo mn wd zs fp ho lv fr so ea dn cd nx nd nc al wo wh) sz0)) 0 0 (va_A (wM cI cZ cL q kn co bo mn wd zs fp ho lv fr so ea dn cd nx nd nc al wo wh) sz0) := by
  refine Met.ofW (cc := cM_run) (maxL := 4) (ret := none) (by decide) rfl ?_
  intro p e s m args below meth c s₁ B hml hv
  obtain ⟨rfl, hsz, hP, hK, hN, hD0⟩ := hv
  have hx := B.exec
  have hb := B.bytes
  have hr := B.returns
  have hts := atoms_spec (ws := (Cond.code yM_run cM_run 4 none :: tb)) B.pre
  have ht : ∀ w ∈ tb, w.before _ s = true := fun w h => hts w (List.mem_cons_of_mem _ h)
  have hown : s.vm.findClass RM = some m.cls := findClass_of_methodNamed B.named
  have hlocks := B.notSynchronized
  subst hsz
  have hD := hD0.self (sz := s.heap.size)
  generalize hAe : va_A (wM cI cZ cL q kn co bo mn wd zs fp ho lv fr so ea dn cd nx nd nc al wo wh) s.heap.size = A at hD ⊢
  have hA : ∀ q : Nat, s.heap.size ≤ q → A q := fun q h => by rw [← hAe]; exact Or.inr h
  clear hAe hD0
  have hS : va_S A s.heap s.heap [] := va_S.rf
  have hl := lv_entry ([.ref (q 0), .int (nI nn)]) (n := 4) (Nat.le_of_ble_eq_true rfl)
  rw [lg_entry_eq]
  generalize (lg_sl ([.ref (q 0), .int (nI nn)]) ++ List.replicate (4 - (lg_sl ([.ref (q 0), .int (nI nn)])).length) Slot.unset).toArray = ls at hl ⊢
  have hl : lv_has ls 4 [(0, .ref (q 0)), (1, .int (nI nn))] := hl
  refine lv_aload_n hx hb dM_run_0 rfl (lv_at hl 0 rfl) ?_
  refine wt_rwv (va_runV (As := []) (rest := []) ⟨hx, hb, hml, hown, ht⟩ (c_M_clear l dC dI cI cZ cL q s.heap.size kn co bo mn wd zs fp ho lv fr so ea dn cd nx nd nc al wo wh) (cwV 0 ht (good_V m_530 m_532 ms_17 m_7 m_533) rfl rfl rfl (by decide +kernel) ⟨Nat.le_of_ble_eq_true rfl, Nat.le_of_ble_eq_true rfl⟩) (wt_preVw hK hN hP hD (va_recv hK hP (ci := 5) (q0 := 0) rfl rfl)) rfl rfl hl.1 rfl (lv_room (Nat.le_of_ble_eq_true rfl)) dM_run_1 ⟨Nat.le_of_ble_eq_true rfl, Nat.le_of_ble_eq_true rfl⟩) hD hS hA (fun H locs hP hD hS => ?_)
  have hP : va_P (dC, dI) vwCl (wM cI cZ cL q kn co bo mn wd zs fp ho lv fr so ea dn cd (fun _ => -1) nd nc al wo wh) H := hP
  have hD : va_D A (wM cI cZ cL q kn co bo mn wd zs fp ho lv fr so ea dn cd (fun _ => -1) nd nc al wo wh) := hD
  refine lv_iconst (v := nI 0) hx hb dM_run_4 (by decide) ?_
  refine lv_istore_n (lv' := [(2, .int (nI 0)), (0, .ref (q 0)), (1, .int (nI nn))]) hx hb dM_run_5 rfl hl (by decide) rfl (fun ls hl => ?_)
  have LP6 : ∀ (r : Nat) (k : Nat) (nxx : Nat → Int32) (ndx : Nat → Int32) (ncx : Nat → Int32) (hk : k + r = mn) (hE1 : wt_up (fun k x => wt_come pn so 0 k 0 24 (nI 0) (nI 0) (nI 0) x) r k (nxx, ndx, ncx) = wt_first pn so mn ((fun _ => -1), nd, nc)) (hz : nn = 0 → ((nxx, ndx, ncx) : wt_N) = ((fun _ => -1), nd, nc)) (hpk : pvs mn zs nxx) (H : Heap) (locs : List Loc) (hP : va_P (dC, dI) vwCl (wM cI cZ cL q kn co bo mn wd zs fp ho lv fr so ea dn cd nxx ndx ncx al wo wh) H) (hD : va_D A (wM cI cZ cL q kn co bo mn wd zs fp ho lv fr so ea dn cd nxx ndx ncx al wo wh)) (hS : va_S A s.heap H locs) (ls : Array Slot) (hl : lv_has ls 4 [(0, .ref (q 0)), (1, .int (nI nn)), (2, .int (nI k))]), W p l e (headSpec (Cond.code yM_run cM_run 4 none :: tb) ({ frames := 4, cells := 0, slots := 0, locals := 97 })).room s m ([.ref (q 0), .int (nI nn)] : List Value).toArray below meth c H locs 0 0 (MQ below (va_Qv (fun _ : Unit => True) (wt_B (dC, dI) vwCl A (wM cI cZ cL q kn co bo mn wd zs fp ho lv fr so ((wt_mrun pn wd zs mn kn co bo ho lv so nn nd nc).1) ((wt_mrun pn wd zs mn kn co bo ho lv so nn nd nc).2.1) ((wt_mrun pn wd zs mn kn co bo ho lv so nn nd nc).2.2) ((wt_mrun pn wd zs mn kn co bo ho lv so nn nd nc).1) ((wt_mrun pn wd zs mn kn co bo ho lv so nn nd nc).2.1) ((wt_mrun pn wd zs mn kn co bo ho lv so nn nd nc).2.2) al wo wh)) A) ([.ref (q 0), .int (nI nn)] : List Value).toArray s 0 0 A) (F0 m 6 ls []) := by
    intro r
    induction r with
    | zero =>
      intro k nxx ndx ncx hk hE1 hz hpk H locs hP hD hS ls hl
      have hl : lv_has ls 4 [(0, .ref (q 0)), (1, .int (nI nn)), (2, .int (nI k))] := hl
      refine lv_iload_n hx hb dM_run_6 rfl (lv_at hl 2 rfl) ?_
      refine lv_aload_n hx hb dM_run_7 rfl (lv_at hl 0 rfl) ?_
      refine va_get (D := (dC, dI)) (ci := 5) (v := .int (nI mn)) (C := RM) (T := TM) (N := 20) hx hb ht inM hown hK hP 0 rfl rfl 3 (by decide) (ht _ m_397) (fun _ h9 => h9) rfl dM_run_8 ?_
      refine wt_icmp_ge (tgt := 36) hx hb dM_run_11 (by decide) (by omega) (by omega) (fun c_1 => ?_) (fun c_1 => ?_)
      · skip
        have hS0 : ((nxx, ndx, ncx) : wt_N) = (if nn = 0 then ((fun _ => -1), nd, nc) else wt_first pn so mn ((fun _ => -1), nd, nc)) := by
          by_cases h0 : nn = 0
          · rw [if_pos h0]; exact hz h0
          · rw [if_neg h0]; first | exact hE1 | exact absurd c_1 h0
        have hp36 := hpk
        refine lv_aload_n hx hb dM_run_36 rfl (lv_at hl 0 rfl) ?_
        refine wt_rwv (va_runV (As := []) (rest := []) ⟨hx, hb, hml, hown, ht⟩ (c_M_take l dC dI cI cZ cL q H.size kn co bo mn wd zs fp ho lv fr so ea dn cd nxx ndx ncx al wo wh) (cwV 0 ht (good_V m_538 m_540 ms_19 m_7 m_541) rfl rfl rfl (by decide +kernel) ⟨Nat.le_of_ble_eq_true rfl, Nat.le_of_ble_eq_true rfl⟩) (wt_preVw hK hN hP hD (va_recv hK hP (ci := 5) (q0 := 0) rfl rfl)) rfl rfl hl.1 rfl (lv_room (Nat.le_of_ble_eq_true rfl)) dM_run_37 ⟨Nat.le_of_ble_eq_true rfl, Nat.le_of_ble_eq_true rfl⟩) hD hS hA (fun H locs hP hD hS => ?_)
        have hP : va_P (dC, dI) vwCl (wM cI cZ cL q kn co bo mn wd zs fp ho lv fr so nxx ndx ncx nxx ndx ncx al wo wh) H := hP
        have hD : va_D A (wM cI cZ cL q kn co bo mn wd zs fp ho lv fr so nxx ndx ncx nxx ndx ncx al wo wh) := hD
        refine lv_iconst (v := nI 1) hx hb dM_run_40 (by decide) ?_
        refine lv_istore_n (lv' := [(2, .int (nI 1)), (0, .ref (q 0)), (1, .int (nI nn))]) hx hb dM_run_41 rfl hl (by decide) rfl (fun ls hl => ?_)
        have LP42 : ∀ (rt : Nat) (tx : Nat) (eax : Nat → Int32) (dnx : Nat → Int32) (cdx : Nat → Int32) (htx : rt = nn - tx) (htb : tx ≤ 16) (hE : wt_up (fun t x => wt_st pn wd zs mn kn co bo ho lv so t x) rt tx (eax, dnx, cdx) = wt_mrun pn wd zs mn kn co bo ho lv so nn nd nc) (hpv : pvs mn zs eax) (H : Heap) (locs : List Loc) (hP : va_P (dC, dI) vwCl (wM cI cZ cL q kn co bo mn wd zs fp ho lv fr so eax dnx cdx eax dnx cdx al wo wh) H) (hD : va_D A (wM cI cZ cL q kn co bo mn wd zs fp ho lv fr so eax dnx cdx eax dnx cdx al wo wh)) (hS : va_S A s.heap H locs) (ls : Array Slot) (hl : lv_has ls 4 [(0, .ref (q 0)), (1, .int (nI nn)), (2, .int (nI tx))]), W p l e (headSpec (Cond.code yM_run cM_run 4 none :: tb) ({ frames := 4, cells := 0, slots := 0, locals := 97 })).room s m ([.ref (q 0), .int (nI nn)] : List Value).toArray below meth c H locs 0 0 (MQ below (va_Qv (fun _ : Unit => True) (wt_B (dC, dI) vwCl A (wM cI cZ cL q kn co bo mn wd zs fp ho lv fr so ((wt_mrun pn wd zs mn kn co bo ho lv so nn nd nc).1) ((wt_mrun pn wd zs mn kn co bo ho lv so nn nd nc).2.1) ((wt_mrun pn wd zs mn kn co bo ho lv so nn nd nc).2.2) ((wt_mrun pn wd zs mn kn co bo ho lv so nn nd nc).1) ((wt_mrun pn wd zs mn kn co bo ho lv so nn nd nc).2.1) ((wt_mrun pn wd zs mn kn co bo ho lv so nn nd nc).2.2) al wo wh)) A) ([.ref (q 0), .int (nI nn)] : List Value).toArray s 0 0 A) (F0 m 42 ls []) := by
          intro rt
          induction rt with
          | zero =>
            intro tx eax dnx cdx htx htb hE hpv H locs hP hD hS ls hl
            have hl : lv_has ls 4 [(0, .ref (q 0)), (1, .int (nI nn)), (2, .int (nI tx))] := hl
            refine lv_iload_n hx hb dM_run_42 rfl (lv_at hl 2 rfl) ?_
            refine lv_iload_n hx hb dM_run_43 rfl (lv_at hl 1 rfl) ?_
            refine wt_icmp_ge (tgt := 91) hx hb dM_run_44 (by decide) (by omega) (by omega) (fun c_2 => ?_) (fun c_2 => ?_)
            · skip
              have hP9 : va_P (dC, dI) vwCl (wM cI cZ cL q kn co bo mn wd zs fp ho lv fr so ((wt_mrun pn wd zs mn kn co bo ho lv so nn nd nc).1) ((wt_mrun pn wd zs mn kn co bo ho lv so nn nd nc).2.1) ((wt_mrun pn wd zs mn kn co bo ho lv so nn nd nc).2.2) ((wt_mrun pn wd zs mn kn co bo ho lv so nn nd nc).1) ((wt_mrun pn wd zs mn kn co bo ho lv so nn nd nc).2.1) ((wt_mrun pn wd zs mn kn co bo ho lv so nn nd nc).2.2) al wo wh) H := by rw [show ((wt_mrun pn wd zs mn kn co bo ho lv so nn nd nc).1) = eax from (by rw [show wt_mrun pn wd zs mn kn co bo ho lv so nn nd nc = (eax, dnx, cdx) from hE.symm]), show ((wt_mrun pn wd zs mn kn co bo ho lv so nn nd nc).2.1) = dnx from (by rw [show wt_mrun pn wd zs mn kn co bo ho lv so nn nd nc = (eax, dnx, cdx) from hE.symm]), show ((wt_mrun pn wd zs mn kn co bo ho lv so nn nd nc).2.2) = cdx from (by rw [show wt_mrun pn wd zs mn kn co bo ho lv so nn nd nc = (eax, dnx, cdx) from hE.symm])]; exact hP
              have hD9 : va_D A (wM cI cZ cL q kn co bo mn wd zs fp ho lv fr so ((wt_mrun pn wd zs mn kn co bo ho lv so nn nd nc).1) ((wt_mrun pn wd zs mn kn co bo ho lv so nn nd nc).2.1) ((wt_mrun pn wd zs mn kn co bo ho lv so nn nd nc).2.2) ((wt_mrun pn wd zs mn kn co bo ho lv so nn nd nc).1) ((wt_mrun pn wd zs mn kn co bo ho lv so nn nd nc).2.1) ((wt_mrun pn wd zs mn kn co bo ho lv so nn nd nc).2.2) al wo wh) := by rw [show ((wt_mrun pn wd zs mn kn co bo ho lv so nn nd nc).1) = eax from (by rw [show wt_mrun pn wd zs mn kn co bo ho lv so nn nd nc = (eax, dnx, cdx) from hE.symm]), show ((wt_mrun pn wd zs mn kn co bo ho lv so nn nd nc).2.1) = dnx from (by rw [show wt_mrun pn wd zs mn kn co bo ho lv so nn nd nc = (eax, dnx, cdx) from hE.symm]), show ((wt_mrun pn wd zs mn kn co bo ho lv so nn nd nc).2.2) = cdx from (by rw [show wt_mrun pn wd zs mn kn co bo ho lv so nn nd nc = (eax, dnx, cdx) from hE.symm])]; exact hD
              exact W.vret hx hb hr (fun t ht hW => ⟨⟨(), rfl, trivial, by rw [ht]; exact hP9, hD9⟩, hS.F ht⟩) hS.2.2 dM_run_91
            · first | exact absurd c_2 (by omega) | exact absurd c_2 (by decide) | exact absurd (by decide) c_2
          | succ rt ih42 =>
            intro tx eax dnx cdx htx htb hE hpv H locs hP hD hS ls hl
            have hl : lv_has ls 4 [(0, .ref (q 0)), (1, .int (nI nn)), (2, .int (nI tx))] := hl
            refine lv_iload_n hx hb dM_run_42 rfl (lv_at hl 2 rfl) ?_
            refine lv_iload_n hx hb dM_run_43 rfl (lv_at hl 1 rfl) ?_
            refine wt_icmp_ge (tgt := 91) hx hb dM_run_44 (by decide) (by omega) (by omega) (fun c_3 => ?_) (fun c_3 => ?_)
            · first | exact absurd c_3 (by omega) | exact absurd c_3 (by decide) | exact absurd (by decide) c_3
            · skip
              refine lv_aload_n hx hb dM_run_47 rfl (lv_at hl 0 rfl) ?_
              refine wt_rwv (va_runV (As := []) (rest := []) ⟨hx, hb, hml, hown, ht⟩ (c_M_clear l dC dI cI cZ cL q H.size kn co bo mn wd zs fp ho lv fr so eax dnx cdx eax dnx cdx al wo wh) (cwV 0 ht (good_V m_530 m_532 ms_17 m_7 m_533) rfl rfl rfl (by decide +kernel) ⟨Nat.le_of_ble_eq_true rfl, Nat.le_of_ble_eq_true rfl⟩) (wt_preVw hK hN hP hD (va_recv hK hP (ci := 5) (q0 := 0) rfl rfl)) rfl rfl hl.1 rfl (lv_room (Nat.le_of_ble_eq_true rfl)) dM_run_48 ⟨Nat.le_of_ble_eq_true rfl, Nat.le_of_ble_eq_true rfl⟩) hD hS hA (fun H locs hP hD hS => ?_)
              have hP : va_P (dC, dI) vwCl (wM cI cZ cL q kn co bo mn wd zs fp ho lv fr so eax dnx cdx (fun _ => -1) dnx cdx al wo wh) H := hP
              have hD : va_D A (wM cI cZ cL q kn co bo mn wd zs fp ho lv fr so eax dnx cdx (fun _ => -1) dnx cdx al wo wh) := hD
              refine lv_iconst (v := nI 0) hx hb dM_run_51 (by decide) ?_
              refine lv_istore_n (lv' := [(3, .int (nI 0)), (0, .ref (q 0)), (1, .int (nI nn)), (2, .int (nI tx))]) hx hb dM_run_52 rfl hl (by decide) rfl (fun ls hl => ?_)
              have LP53 : ∀ (r2 : Nat) (i : Nat) (nxy : Nat → Int32) (ndy : Nat → Int32) (ncy : Nat → Int32) (hi : i + r2 = 1800) (hE2 : wt_up (fun i y => if 0 ≤ eax i then wt_go pn wd zs mn kn co bo ho lv so eax dnx cdx tx i y else y) r2 i (nxy, ndy, ncy) = wt_st pn wd zs mn kn co bo ho lv so tx (eax, dnx, cdx)) (hpy : pvs mn zs nxy) (H : Heap) (locs : List Loc) (hP : va_P (dC, dI) vwCl (wM cI cZ cL q kn co bo mn wd zs fp ho lv fr so eax dnx cdx nxy ndy ncy al wo wh) H) (hD : va_D A (wM cI cZ cL q kn co bo mn wd zs fp ho lv fr so eax dnx cdx nxy ndy ncy al wo wh)) (hS : va_S A s.heap H locs) (ls : Array Slot) (hl : lv_has ls 4 [(0, .ref (q 0)), (1, .int (nI nn)), (2, .int (nI tx)), (3, .int (nI i))]), W p l e (headSpec (Cond.code yM_run cM_run 4 none :: tb) ({ frames := 4, cells := 0, slots := 0, locals := 97 })).room s m ([.ref (q 0), .int (nI nn)] : List Value).toArray below meth c H locs 0 0 (MQ below (va_Qv (fun _ : Unit => True) (wt_B (dC, dI) vwCl A (wM cI cZ cL q kn co bo mn wd zs fp ho lv fr so ((wt_mrun pn wd zs mn kn co bo ho lv so nn nd nc).1) ((wt_mrun pn wd zs mn kn co bo ho lv so nn nd nc).2.1) ((wt_mrun pn wd zs mn kn co bo ho lv so nn nd nc).2.2) ((wt_mrun pn wd zs mn kn co bo ho lv so nn nd nc).1) ((wt_mrun pn wd zs mn kn co bo ho lv so nn nd nc).2.1) ((wt_mrun pn wd zs mn kn co bo ho lv so nn nd nc).2.2) al wo wh)) A) ([.ref (q 0), .int (nI nn)] : List Value).toArray s 0 0 A) (F0 m 53 ls []) := by
                intro r2
                induction r2 with
                | zero =>
                  intro i nxy ndy ncy hi hE2 hpy H locs hP hD hS ls hl
                  have hl : lv_has ls 4 [(0, .ref (q 0)), (1, .int (nI nn)), (2, .int (nI tx)), (3, .int (nI i))] := hl
                  refine lv_iload_n hx hb dM_run_53 rfl (lv_at hl 3 rfl) ?_
                  refine lv_sipush (v := nI 1800) hx hb dM_run_54 (by decide) ?_
                  refine wt_icmp_ge (tgt := 81) hx hb dM_run_57 (by decide) (by omega) (by omega) (fun c_4 => ?_) (fun c_4 => ?_)
                  · skip
                    refine lv_aload_n hx hb dM_run_81 rfl (lv_at hl 0 rfl) ?_
                    refine wt_rwv (va_runV (As := []) (rest := []) ⟨hx, hb, hml, hown, ht⟩ (c_M_take l dC dI cI cZ cL q H.size kn co bo mn wd zs fp ho lv fr so eax dnx cdx nxy ndy ncy al wo wh) (cwV 0 ht (good_V m_538 m_540 ms_19 m_7 m_541) rfl rfl rfl (by decide +kernel) ⟨Nat.le_of_ble_eq_true rfl, Nat.le_of_ble_eq_true rfl⟩) (wt_preVw hK hN hP hD (va_recv hK hP (ci := 5) (q0 := 0) rfl rfl)) rfl rfl hl.1 rfl (lv_room (Nat.le_of_ble_eq_true rfl)) dM_run_82 ⟨Nat.le_of_ble_eq_true rfl, Nat.le_of_ble_eq_true rfl⟩) hD hS hA (fun H locs hP hD hS => ?_)
                    have hP : va_P (dC, dI) vwCl (wM cI cZ cL q kn co bo mn wd zs fp ho lv fr so nxy ndy ncy nxy ndy ncy al wo wh) H := hP
                    have hD : va_D A (wM cI cZ cL q kn co bo mn wd zs fp ho lv fr so nxy ndy ncy nxy ndy ncy al wo wh) := hD
                    refine lv_iinc (v := nI (tx + 1)) (lv' := [(2, .int (nI (tx + 1))), (0, .ref (q 0)), (1, .int (nI nn)), (3, .int (nI i))]) hx hb dM_run_85 hl (k := 2) rfl (wt_inc1 tx) (by decide) rfl (fun ls hl => ?_)
                    refine lv_goto (tgt := 42) hx hb dM_run_88 (by decide) ?_
                    exact ih42 (tx + 1) nxy ndy ncy (by omega) (by omega) (by rw [show ((nxy, ndy, ncy) : wt_N) = wt_st pn wd zs mn kn co bo ho lv so tx (eax, dnx, cdx) from hE2]; exact hE) hpy _ _ hP hD hS ls (lv_sub hl [1, 2, 0] rfl)
                  · first | exact absurd c_4 (by omega) | exact absurd c_4 (by decide) | exact absurd (by decide) c_4
                | succ r2 ih53 =>
                  intro i nxy ndy ncy hi hE2 hpy H locs hP hD hS ls hl
                  have hl : lv_has ls 4 [(0, .ref (q 0)), (1, .int (nI nn)), (2, .int (nI tx)), (3, .int (nI i))] := hl
                  refine lv_iload_n hx hb dM_run_53 rfl (lv_at hl 3 rfl) ?_
                  refine lv_sipush (v := nI 1800) hx hb dM_run_54 (by decide) ?_
                  refine wt_icmp_ge (tgt := 81) hx hb dM_run_57 (by decide) (by omega) (by omega) (fun c_5 => ?_) (fun c_5 => ?_)
                  · first | exact absurd c_5 (by omega) | exact absurd c_5 (by decide) | exact absurd (by decide) c_5
                  · skip
                    refine lv_aload_n hx hb dM_run_60 rfl (lv_at hl 0 rfl) ?_
                    refine va_get (D := (dC, dI)) (ci := 5) (v := .ref (q 10)) (C := RM) (T := TM) (N := 20) hx hb ht inM hown hK hP 0 rfl rfl 11 (by decide) (ht _ m_405) (fun _ h9 => h9) rfl dM_run_61 ?_
                    refine lv_iload_n hx hb dM_run_64 rfl (lv_at hl 3 rfl) ?_
                    refine wt_iald hx hb hK hP 10 0 rfl rfl (k := i) (by omega) (by decide) dM_run_65 ?_
                    refine lv_if_lt (tgt := 75) hx hb dM_run_66 (by decide) (fun c_6 => ?_) (fun c_6 => ?_)
                    · skip
                      refine lv_iinc (v := nI (i + 1)) (lv' := [(3, .int (nI (i + 1))), (0, .ref (q 0)), (1, .int (nI nn)), (2, .int (nI tx))]) hx hb dM_run_75 hl (k := 3) rfl (wt_inc1 i) (by decide) rfl (fun ls hl => ?_)
                      refine lv_goto (tgt := 53) hx hb dM_run_78 (by decide) ?_
                      exact ih53 (i + 1) nxy ndy ncy (by omega) (by first | exact (congrArg (fun y => wt_up (fun i y => if 0 ≤ eax i then wt_go pn wd zs mn kn co bo ho lv so eax dnx cdx tx i y else y) r2 (i + 1) y) (if_pos (Int32.not_lt.mp c_6))).symm.trans hE2 | exact (congrArg (fun y => wt_up (fun i y => if 0 ≤ eax i then wt_go pn wd zs mn kn co bo ho lv so eax dnx cdx tx i y else y) r2 (i + 1) y) (if_neg (Int32.not_le.mpr c_6))).symm.trans hE2) (by first | exact hpy | exact pvs_go (x := (nxy, ndy, ncy)) hmn hz1 hzs hwd (by omega) (hpv i (by omega) (Int32.not_lt.mp c_6)) hpy) _ _ hP hD hS ls (lv_sub hl [1, 2, 3, 0] rfl)
                    · skip
                      refine lv_aload_n hx hb dM_run_69 rfl (lv_at hl 0 rfl) ?_
                      refine lv_iload_n hx hb dM_run_70 rfl (lv_at hl 3 rfl) ?_
                      refine lv_iload_n hx hb dM_run_71 rfl (lv_at hl 2 rfl) ?_
                      refine wt_rwv (va_runV (As := [.int (nI i), .int (nI tx)]) (rest := []) ⟨hx, hb, hml, hown, ht⟩ (c_M_go l dC dI cI cZ cL q H.size kn co bo mn wd zs fp ho lv fr so eax dnx cdx nxy ndy ncy al wo wh pn i tx (by omega) (by omega) ((hpv i (by omega) (Int32.not_lt.mp c_6)).1) ((hpv i (by omega) (Int32.not_lt.mp c_6)).2.1) ((hpv i (by omega) (Int32.not_lt.mp c_6)).2.2) hmn hzs hwd hz1 hfp) (cwV 2 ht (good_V m_542 m_544 ms_20 m_7 m_545) rfl rfl rfl (by decide +kernel) ⟨Nat.le_of_ble_eq_true rfl, Nat.le_of_ble_eq_true rfl⟩) (wt_preVw hK hN hP hD (va_recv hK hP (ci := 5) (q0 := 0) rfl rfl)) rfl rfl hl.1 rfl (lv_room (Nat.le_of_ble_eq_true rfl)) dM_run_72 ⟨Nat.le_of_ble_eq_true rfl, Nat.le_of_ble_eq_true rfl⟩) hD hS hA (fun H locs hP hD hS => ?_)
                      have hP : va_P (dC, dI) vwCl (wM cI cZ cL q kn co bo mn wd zs fp ho lv fr so eax dnx cdx ((wt_go pn wd zs mn kn co bo ho lv so eax dnx cdx tx i (nxy, ndy, ncy)).1) ((wt_go pn wd zs mn kn co bo ho lv so eax dnx cdx tx i (nxy, ndy, ncy)).2.1) ((wt_go pn wd zs mn kn co bo ho lv so eax dnx cdx tx i (nxy, ndy, ncy)).2.2) al wo wh) H := hP
                      have hD : va_D A (wM cI cZ cL q kn co bo mn wd zs fp ho lv fr so eax dnx cdx ((wt_go pn wd zs mn kn co bo ho lv so eax dnx cdx tx i (nxy, ndy, ncy)).1) ((wt_go pn wd zs mn kn co bo ho lv so eax dnx cdx tx i (nxy, ndy, ncy)).2.1) ((wt_go pn wd zs mn kn co bo ho lv so eax dnx cdx tx i (nxy, ndy, ncy)).2.2) al wo wh) := hD
                      refine lv_iinc (v := nI (i + 1)) (lv' := [(3, .int (nI (i + 1))), (0, .ref (q 0)), (1, .int (nI nn)), (2, .int (nI tx))]) hx hb dM_run_75 hl (k := 3) rfl (wt_inc1 i) (by decide) rfl (fun ls hl => ?_)
                      refine lv_goto (tgt := 53) hx hb dM_run_78 (by decide) ?_
                      exact ih53 (i + 1) ((wt_go pn wd zs mn kn co bo ho lv so eax dnx cdx tx i (nxy, ndy, ncy)).1) ((wt_go pn wd zs mn kn co bo ho lv so eax dnx cdx tx i (nxy, ndy, ncy)).2.1) ((wt_go pn wd zs mn kn co bo ho lv so eax dnx cdx tx i (nxy, ndy, ncy)).2.2) (by omega) (by first | exact (congrArg (fun y => wt_up (fun i y => if 0 ≤ eax i then wt_go pn wd zs mn kn co bo ho lv so eax dnx cdx tx i y else y) r2 (i + 1) y) (if_pos (Int32.not_lt.mp c_6))).symm.trans hE2 | exact (congrArg (fun y => wt_up (fun i y => if 0 ≤ eax i then wt_go pn wd zs mn kn co bo ho lv so eax dnx cdx tx i y else y) r2 (i + 1) y) (if_neg (Int32.not_le.mpr c_6))).symm.trans hE2) (by first | exact hpy | exact pvs_go (x := (nxy, ndy, ncy)) hmn hz1 hzs hwd (by omega) (hpv i (by omega) (Int32.not_lt.mp c_6)) hpy) _ _ hP hD hS ls (lv_sub hl [1, 2, 3, 0] rfl)
              exact LP53 1800 0 (fun _ => -1) dnx cdx rfl rfl pvs_m1 _ _ hP hD hS ls (lv_sub hl [1, 2, 3, 0] rfl)
        exact LP42 (nn - 1) 1 nxx ndx ncx rfl (by decide) (by unfold wt_mrun; rw [← hS0]) hp36 _ _ hP hD hS ls (lv_sub hl [1, 2, 0] rfl)
      · first | exact absurd c_1 (by omega) | exact absurd c_1 (by decide) | exact absurd (by decide) c_1
    | succ r ih6 =>
      intro k nxx ndx ncx hk hE1 hz hpk H locs hP hD hS ls hl
      have hl : lv_has ls 4 [(0, .ref (q 0)), (1, .int (nI nn)), (2, .int (nI k))] := hl
      refine lv_iload_n hx hb dM_run_6 rfl (lv_at hl 2 rfl) ?_
      refine lv_aload_n hx hb dM_run_7 rfl (lv_at hl 0 rfl) ?_
      refine va_get (D := (dC, dI)) (ci := 5) (v := .int (nI mn)) (C := RM) (T := TM) (N := 20) hx hb ht inM hown hK hP 0 rfl rfl 3 (by decide) (ht _ m_397) (fun _ h9 => h9) rfl dM_run_8 ?_
      refine wt_icmp_ge (tgt := 36) hx hb dM_run_11 (by decide) (by omega) (by omega) (fun c_7 => ?_) (fun c_7 => ?_)
      · first | exact absurd c_7 (by omega) | exact absurd c_7 (by decide) | exact absurd (by decide) c_7
      · skip
        refine lv_iload_n hx hb dM_run_14 rfl (lv_at hl 1 rfl) ?_
        refine wt_if_le (tgt := 36) hx hb dM_run_15 (by decide) (by omega) (fun c_8 => ?_) (fun c_8 => ?_)
        · skip
          have hS0 : ((nxx, ndx, ncx) : wt_N) = (if nn = 0 then ((fun _ => -1), nd, nc) else wt_first pn so mn ((fun _ => -1), nd, nc)) := by
            by_cases h0 : nn = 0
            · rw [if_pos h0]; exact hz h0
            · rw [if_neg h0]; first | exact hE1 | exact absurd c_8 h0
          have hp36 := hpk
          refine lv_aload_n hx hb dM_run_36 rfl (lv_at hl 0 rfl) ?_
          refine wt_rwv (va_runV (As := []) (rest := []) ⟨hx, hb, hml, hown, ht⟩ (c_M_take l dC dI cI cZ cL q H.size kn co bo mn wd zs fp ho lv fr so ea dn cd nxx ndx ncx al wo wh) (cwV 0 ht (good_V m_538 m_540 ms_19 m_7 m_541) rfl rfl rfl (by decide +kernel) ⟨Nat.le_of_ble_eq_true rfl, Nat.le_of_ble_eq_true rfl⟩) (wt_preVw hK hN hP hD (va_recv hK hP (ci := 5) (q0 := 0) rfl rfl)) rfl rfl hl.1 rfl (lv_room (Nat.le_of_ble_eq_true rfl)) dM_run_37 ⟨Nat.le_of_ble_eq_true rfl, Nat.le_of_ble_eq_true rfl⟩) hD hS hA (fun H locs hP hD hS => ?_)
          have hP : va_P (dC, dI) vwCl (wM cI cZ cL q kn co bo mn wd zs fp ho lv fr so nxx ndx ncx nxx ndx ncx al wo wh) H := hP
          have hD : va_D A (wM cI cZ cL q kn co bo mn wd zs fp ho lv fr so nxx ndx ncx nxx ndx ncx al wo wh) := hD
          refine lv_iconst (v := nI 1) hx hb dM_run_40 (by decide) ?_
          refine lv_istore_n (lv' := [(2, .int (nI 1)), (0, .ref (q 0)), (1, .int (nI nn))]) hx hb dM_run_41 rfl hl (by decide) rfl (fun ls hl => ?_)
          have LP42 : ∀ (rt : Nat) (tx : Nat) (eax : Nat → Int32) (dnx : Nat → Int32) (cdx : Nat → Int32) (htx : rt = nn - tx) (htb : tx ≤ 16) (hE : wt_up (fun t x => wt_st pn wd zs mn kn co bo ho lv so t x) rt tx (eax, dnx, cdx) = wt_mrun pn wd zs mn kn co bo ho lv so nn nd nc) (hpv : pvs mn zs eax) (H : Heap) (locs : List Loc) (hP : va_P (dC, dI) vwCl (wM cI cZ cL q kn co bo mn wd zs fp ho lv fr so eax dnx cdx eax dnx cdx al wo wh) H) (hD : va_D A (wM cI cZ cL q kn co bo mn wd zs fp ho lv fr so eax dnx cdx eax dnx cdx al wo wh)) (hS : va_S A s.heap H locs) (ls : Array Slot) (hl : lv_has ls 4 [(0, .ref (q 0)), (1, .int (nI nn)), (2, .int (nI tx))]), W p l e (headSpec (Cond.code yM_run cM_run 4 none :: tb) ({ frames := 4, cells := 0, slots := 0, locals := 97 })).room s m ([.ref (q 0), .int (nI nn)] : List Value).toArray below meth c H locs 0 0 (MQ below (va_Qv (fun _ : Unit => True) (wt_B (dC, dI) vwCl A (wM cI cZ cL q kn co bo mn wd zs fp ho lv fr so ((wt_mrun pn wd zs mn kn co bo ho lv so nn nd nc).1) ((wt_mrun pn wd zs mn kn co bo ho lv so nn nd nc).2.1) ((wt_mrun pn wd zs mn kn co bo ho lv so nn nd nc).2.2) ((wt_mrun pn wd zs mn kn co bo ho lv so nn nd nc).1) ((wt_mrun pn wd zs mn kn co bo ho lv so nn nd nc).2.1) ((wt_mrun pn wd zs mn kn co bo ho lv so nn nd nc).2.2) al wo wh)) A) ([.ref (q 0), .int (nI nn)] : List Value).toArray s 0 0 A) (F0 m 42 ls []) := by
            intro rt
            induction rt with
            | zero =>
              intro tx eax dnx cdx htx htb hE hpv H locs hP hD hS ls hl
              have hl : lv_has ls 4 [(0, .ref (q 0)), (1, .int (nI nn)), (2, .int (nI tx))] := hl
              refine lv_iload_n hx hb dM_run_42 rfl (lv_at hl 2 rfl) ?_
              refine lv_iload_n hx hb dM_run_43 rfl (lv_at hl 1 rfl) ?_
              refine wt_icmp_ge (tgt := 91) hx hb dM_run_44 (by decide) (by omega) (by omega) (fun c_9 => ?_) (fun c_9 => ?_)
              · skip
                have hP9 : va_P (dC, dI) vwCl (wM cI cZ cL q kn co bo mn wd zs fp ho lv fr so ((wt_mrun pn wd zs mn kn co bo ho lv so nn nd nc).1) ((wt_mrun pn wd zs mn kn co bo ho lv so nn nd nc).2.1) ((wt_mrun pn wd zs mn kn co bo ho lv so nn nd nc).2.2) ((wt_mrun pn wd zs mn kn co bo ho lv so nn nd nc).1) ((wt_mrun pn wd zs mn kn co bo ho lv so nn nd nc).2.1) ((wt_mrun pn wd zs mn kn co bo ho lv so nn nd nc).2.2) al wo wh) H := by rw [show ((wt_mrun pn wd zs mn kn co bo ho lv so nn nd nc).1) = eax from (by rw [show wt_mrun pn wd zs mn kn co bo ho lv so nn nd nc = (eax, dnx, cdx) from hE.symm]), show ((wt_mrun pn wd zs mn kn co bo ho lv so nn nd nc).2.1) = dnx from (by rw [show wt_mrun pn wd zs mn kn co bo ho lv so nn nd nc = (eax, dnx, cdx) from hE.symm]), show ((wt_mrun pn wd zs mn kn co bo ho lv so nn nd nc).2.2) = cdx from (by rw [show wt_mrun pn wd zs mn kn co bo ho lv so nn nd nc = (eax, dnx, cdx) from hE.symm])]; exact hP
                have hD9 : va_D A (wM cI cZ cL q kn co bo mn wd zs fp ho lv fr so ((wt_mrun pn wd zs mn kn co bo ho lv so nn nd nc).1) ((wt_mrun pn wd zs mn kn co bo ho lv so nn nd nc).2.1) ((wt_mrun pn wd zs mn kn co bo ho lv so nn nd nc).2.2) ((wt_mrun pn wd zs mn kn co bo ho lv so nn nd nc).1) ((wt_mrun pn wd zs mn kn co bo ho lv so nn nd nc).2.1) ((wt_mrun pn wd zs mn kn co bo ho lv so nn nd nc).2.2) al wo wh) := by rw [show ((wt_mrun pn wd zs mn kn co bo ho lv so nn nd nc).1) = eax from (by rw [show wt_mrun pn wd zs mn kn co bo ho lv so nn nd nc = (eax, dnx, cdx) from hE.symm]), show ((wt_mrun pn wd zs mn kn co bo ho lv so nn nd nc).2.1) = dnx from (by rw [show wt_mrun pn wd zs mn kn co bo ho lv so nn nd nc = (eax, dnx, cdx) from hE.symm]), show ((wt_mrun pn wd zs mn kn co bo ho lv so nn nd nc).2.2) = cdx from (by rw [show wt_mrun pn wd zs mn kn co bo ho lv so nn nd nc = (eax, dnx, cdx) from hE.symm])]; exact hD
                exact W.vret hx hb hr (fun t ht hW => ⟨⟨(), rfl, trivial, by rw [ht]; exact hP9, hD9⟩, hS.F ht⟩) hS.2.2 dM_run_91
              · first | exact absurd c_9 (by omega) | exact absurd c_9 (by decide) | exact absurd (by decide) c_9
            | succ rt ih42 =>
              intro tx eax dnx cdx htx htb hE hpv H locs hP hD hS ls hl
              have hl : lv_has ls 4 [(0, .ref (q 0)), (1, .int (nI nn)), (2, .int (nI tx))] := hl
              refine lv_iload_n hx hb dM_run_42 rfl (lv_at hl 2 rfl) ?_
              refine lv_iload_n hx hb dM_run_43 rfl (lv_at hl 1 rfl) ?_
              refine wt_icmp_ge (tgt := 91) hx hb dM_run_44 (by decide) (by omega) (by omega) (fun c_10 => ?_) (fun c_10 => ?_)
              · first | exact absurd c_10 (by omega) | exact absurd c_10 (by decide) | exact absurd (by decide) c_10
              · skip
                refine lv_aload_n hx hb dM_run_47 rfl (lv_at hl 0 rfl) ?_
                refine wt_rwv (va_runV (As := []) (rest := []) ⟨hx, hb, hml, hown, ht⟩ (c_M_clear l dC dI cI cZ cL q H.size kn co bo mn wd zs fp ho lv fr so eax dnx cdx eax dnx cdx al wo wh) (cwV 0 ht (good_V m_530 m_532 ms_17 m_7 m_533) rfl rfl rfl (by decide +kernel) ⟨Nat.le_of_ble_eq_true rfl, Nat.le_of_ble_eq_true rfl⟩) (wt_preVw hK hN hP hD (va_recv hK hP (ci := 5) (q0 := 0) rfl rfl)) rfl rfl hl.1 rfl (lv_room (Nat.le_of_ble_eq_true rfl)) dM_run_48 ⟨Nat.le_of_ble_eq_true rfl, Nat.le_of_ble_eq_true rfl⟩) hD hS hA (fun H locs hP hD hS => ?_)
                have hP : va_P (dC, dI) vwCl (wM cI cZ cL q kn co bo mn wd zs fp ho lv fr so eax dnx cdx (fun _ => -1) dnx cdx al wo wh) H := hP
                have hD : va_D A (wM cI cZ cL q kn co bo mn wd zs fp ho lv fr so eax dnx cdx (fun _ => -1) dnx cdx al wo wh) := hD
                refine lv_iconst (v := nI 0) hx hb dM_run_51 (by decide) ?_
                refine lv_istore_n (lv' := [(3, .int (nI 0)), (0, .ref (q 0)), (1, .int (nI nn)), (2, .int (nI tx))]) hx hb dM_run_52 rfl hl (by decide) rfl (fun ls hl => ?_)
                have LP53 : ∀ (r2 : Nat) (i : Nat) (nxy : Nat → Int32) (ndy : Nat → Int32) (ncy : Nat → Int32) (hi : i + r2 = 1800) (hE2 : wt_up (fun i y => if 0 ≤ eax i then wt_go pn wd zs mn kn co bo ho lv so eax dnx cdx tx i y else y) r2 i (nxy, ndy, ncy) = wt_st pn wd zs mn kn co bo ho lv so tx (eax, dnx, cdx)) (hpy : pvs mn zs nxy) (H : Heap) (locs : List Loc) (hP : va_P (dC, dI) vwCl (wM cI cZ cL q kn co bo mn wd zs fp ho lv fr so eax dnx cdx nxy ndy ncy al wo wh) H) (hD : va_D A (wM cI cZ cL q kn co bo mn wd zs fp ho lv fr so eax dnx cdx nxy ndy ncy al wo wh)) (hS : va_S A s.heap H locs) (ls : Array Slot) (hl : lv_has ls 4 [(0, .ref (q 0)), (1, .int (nI nn)), (2, .int (nI tx)), (3, .int (nI i))]), W p l e (headSpec (Cond.code yM_run cM_run 4 none :: tb) ({ frames := 4, cells := 0, slots := 0, locals := 97 })).room s m ([.ref (q 0), .int (nI nn)] : List Value).toArray below meth c H locs 0 0 (MQ below (va_Qv (fun _ : Unit => True) (wt_B (dC, dI) vwCl A (wM cI cZ cL q kn co bo mn wd zs fp ho lv fr so ((wt_mrun pn wd zs mn kn co bo ho lv so nn nd nc).1) ((wt_mrun pn wd zs mn kn co bo ho lv so nn nd nc).2.1) ((wt_mrun pn wd zs mn kn co bo ho lv so nn nd nc).2.2) ((wt_mrun pn wd zs mn kn co bo ho lv so nn nd nc).1) ((wt_mrun pn wd zs mn kn co bo ho lv so nn nd nc).2.1) ((wt_mrun pn wd zs mn kn co bo ho lv so nn nd nc).2.2) al wo wh)) A) ([.ref (q 0), .int (nI nn)] : List Value).toArray s 0 0 A) (F0 m 53 ls []) := by
                  intro r2
                  induction r2 with
                  | zero =>
                    intro i nxy ndy ncy hi hE2 hpy H locs hP hD hS ls hl
                    have hl : lv_has ls 4 [(0, .ref (q 0)), (1, .int (nI nn)), (2, .int (nI tx)), (3, .int (nI i))] := hl
                    refine lv_iload_n hx hb dM_run_53 rfl (lv_at hl 3 rfl) ?_
                    refine lv_sipush (v := nI 1800) hx hb dM_run_54 (by decide) ?_
                    refine wt_icmp_ge (tgt := 81) hx hb dM_run_57 (by decide) (by omega) (by omega) (fun c_11 => ?_) (fun c_11 => ?_)
                    · skip
                      refine lv_aload_n hx hb dM_run_81 rfl (lv_at hl 0 rfl) ?_
                      refine wt_rwv (va_runV (As := []) (rest := []) ⟨hx, hb, hml, hown, ht⟩ (c_M_take l dC dI cI cZ cL q H.size kn co bo mn wd zs fp ho lv fr so eax dnx cdx nxy ndy ncy al wo wh) (cwV 0 ht (good_V m_538 m_540 ms_19 m_7 m_541) rfl rfl rfl (by decide +kernel) ⟨Nat.le_of_ble_eq_true rfl, Nat.le_of_ble_eq_true rfl⟩) (wt_preVw hK hN hP hD (va_recv hK hP (ci := 5) (q0 := 0) rfl rfl)) rfl rfl hl.1 rfl (lv_room (Nat.le_of_ble_eq_true rfl)) dM_run_82 ⟨Nat.le_of_ble_eq_true rfl, Nat.le_of_ble_eq_true rfl⟩) hD hS hA (fun H locs hP hD hS => ?_)
                      have hP : va_P (dC, dI) vwCl (wM cI cZ cL q kn co bo mn wd zs fp ho lv fr so nxy ndy ncy nxy ndy ncy al wo wh) H := hP
                      have hD : va_D A (wM cI cZ cL q kn co bo mn wd zs fp ho lv fr so nxy ndy ncy nxy ndy ncy al wo wh) := hD
                      refine lv_iinc (v := nI (tx + 1)) (lv' := [(2, .int (nI (tx + 1))), (0, .ref (q 0)), (1, .int (nI nn)), (3, .int (nI i))]) hx hb dM_run_85 hl (k := 2) rfl (wt_inc1 tx) (by decide) rfl (fun ls hl => ?_)
                      refine lv_goto (tgt := 42) hx hb dM_run_88 (by decide) ?_
                      exact ih42 (tx + 1) nxy ndy ncy (by omega) (by omega) (by rw [show ((nxy, ndy, ncy) : wt_N) = wt_st pn wd zs mn kn co bo ho lv so tx (eax, dnx, cdx) from hE2]; exact hE) hpy _ _ hP hD hS ls (lv_sub hl [1, 2, 0] rfl)
                    · first | exact absurd c_11 (by omega) | exact absurd c_11 (by decide) | exact absurd (by decide) c_11
                  | succ r2 ih53 =>
                    intro i nxy ndy ncy hi hE2 hpy H locs hP hD hS ls hl
                    have hl : lv_has ls 4 [(0, .ref (q 0)), (1, .int (nI nn)), (2, .int (nI tx)), (3, .int (nI i))] := hl
                    refine lv_iload_n hx hb dM_run_53 rfl (lv_at hl 3 rfl) ?_
                    refine lv_sipush (v := nI 1800) hx hb dM_run_54 (by decide) ?_
                    refine wt_icmp_ge (tgt := 81) hx hb dM_run_57 (by decide) (by omega) (by omega) (fun c_12 => ?_) (fun c_12 => ?_)
                    · first | exact absurd c_12 (by omega) | exact absurd c_12 (by decide) | exact absurd (by decide) c_12
                    · skip
                      refine lv_aload_n hx hb dM_run_60 rfl (lv_at hl 0 rfl) ?_
                      refine va_get (D := (dC, dI)) (ci := 5) (v := .ref (q 10)) (C := RM) (T := TM) (N := 20) hx hb ht inM hown hK hP 0 rfl rfl 11 (by decide) (ht _ m_405) (fun _ h9 => h9) rfl dM_run_61 ?_
                      refine lv_iload_n hx hb dM_run_64 rfl (lv_at hl 3 rfl) ?_
                      refine wt_iald hx hb hK hP 10 0 rfl rfl (k := i) (by omega) (by decide) dM_run_65 ?_
                      refine lv_if_lt (tgt := 75) hx hb dM_run_66 (by decide) (fun c_13 => ?_) (fun c_13 => ?_)
                      · skip
                        refine lv_iinc (v := nI (i + 1)) (lv' := [(3, .int (nI (i + 1))), (0, .ref (q 0)), (1, .int (nI nn)), (2, .int (nI tx))]) hx hb dM_run_75 hl (k := 3) rfl (wt_inc1 i) (by decide) rfl (fun ls hl => ?_)
                        refine lv_goto (tgt := 53) hx hb dM_run_78 (by decide) ?_
                        exact ih53 (i + 1) nxy ndy ncy (by omega) (by first | exact (congrArg (fun y => wt_up (fun i y => if 0 ≤ eax i then wt_go pn wd zs mn kn co bo ho lv so eax dnx cdx tx i y else y) r2 (i + 1) y) (if_pos (Int32.not_lt.mp c_13))).symm.trans hE2 | exact (congrArg (fun y => wt_up (fun i y => if 0 ≤ eax i then wt_go pn wd zs mn kn co bo ho lv so eax dnx cdx tx i y else y) r2 (i + 1) y) (if_neg (Int32.not_le.mpr c_13))).symm.trans hE2) (by first | exact hpy | exact pvs_go (x := (nxy, ndy, ncy)) hmn hz1 hzs hwd (by omega) (hpv i (by omega) (Int32.not_lt.mp c_13)) hpy) _ _ hP hD hS ls (lv_sub hl [1, 2, 3, 0] rfl)
                      · skip
                        refine lv_aload_n hx hb dM_run_69 rfl (lv_at hl 0 rfl) ?_
                        refine lv_iload_n hx hb dM_run_70 rfl (lv_at hl 3 rfl) ?_
                        refine lv_iload_n hx hb dM_run_71 rfl (lv_at hl 2 rfl) ?_
                        refine wt_rwv (va_runV (As := [.int (nI i), .int (nI tx)]) (rest := []) ⟨hx, hb, hml, hown, ht⟩ (c_M_go l dC dI cI cZ cL q H.size kn co bo mn wd zs fp ho lv fr so eax dnx cdx nxy ndy ncy al wo wh pn i tx (by omega) (by omega) ((hpv i (by omega) (Int32.not_lt.mp c_13)).1) ((hpv i (by omega) (Int32.not_lt.mp c_13)).2.1) ((hpv i (by omega) (Int32.not_lt.mp c_13)).2.2) hmn hzs hwd hz1 hfp) (cwV 2 ht (good_V m_542 m_544 ms_20 m_7 m_545) rfl rfl rfl (by decide +kernel) ⟨Nat.le_of_ble_eq_true rfl, Nat.le_of_ble_eq_true rfl⟩) (wt_preVw hK hN hP hD (va_recv hK hP (ci := 5) (q0 := 0) rfl rfl)) rfl rfl hl.1 rfl (lv_room (Nat.le_of_ble_eq_true rfl)) dM_run_72 ⟨Nat.le_of_ble_eq_true rfl, Nat.le_of_ble_eq_true rfl⟩) hD hS hA (fun H locs hP hD hS => ?_)
                        have hP : va_P (dC, dI) vwCl (wM cI cZ cL q kn co bo mn wd zs fp ho lv fr so eax dnx cdx ((wt_go pn wd zs mn kn co bo ho lv so eax dnx cdx tx i (nxy, ndy, ncy)).1) ((wt_go pn wd zs mn kn co bo ho lv so eax dnx cdx tx i (nxy, ndy, ncy)).2.1) ((wt_go pn wd zs mn kn co bo ho lv so eax dnx cdx tx i (nxy, ndy, ncy)).2.2) al wo wh) H := hP
                        have hD : va_D A (wM cI cZ cL q kn co bo mn wd zs fp ho lv fr so eax dnx cdx ((wt_go pn wd zs mn kn co bo ho lv so eax dnx cdx tx i (nxy, ndy, ncy)).1) ((wt_go pn wd zs mn kn co bo ho lv so eax dnx cdx tx i (nxy, ndy, ncy)).2.1) ((wt_go pn wd zs mn kn co bo ho lv so eax dnx cdx tx i (nxy, ndy, ncy)).2.2) al wo wh) := hD
                        refine lv_iinc (v := nI (i + 1)) (lv' := [(3, .int (nI (i + 1))), (0, .ref (q 0)), (1, .int (nI nn)), (2, .int (nI tx))]) hx hb dM_run_75 hl (k := 3) rfl (wt_inc1 i) (by decide) rfl (fun ls hl => ?_)
                        refine lv_goto (tgt := 53) hx hb dM_run_78 (by decide) ?_
                        exact ih53 (i + 1) ((wt_go pn wd zs mn kn co bo ho lv so eax dnx cdx tx i (nxy, ndy, ncy)).1) ((wt_go pn wd zs mn kn co bo ho lv so eax dnx cdx tx i (nxy, ndy, ncy)).2.1) ((wt_go pn wd zs mn kn co bo ho lv so eax dnx cdx tx i (nxy, ndy, ncy)).2.2) (by omega) (by first | exact (congrArg (fun y => wt_up (fun i y => if 0 ≤ eax i then wt_go pn wd zs mn kn co bo ho lv so eax dnx cdx tx i y else y) r2 (i + 1) y) (if_pos (Int32.not_lt.mp c_13))).symm.trans hE2 | exact (congrArg (fun y => wt_up (fun i y => if 0 ≤ eax i then wt_go pn wd zs mn kn co bo ho lv so eax dnx cdx tx i y else y) r2 (i + 1) y) (if_neg (Int32.not_le.mpr c_13))).symm.trans hE2) (by first | exact hpy | exact pvs_go (x := (nxy, ndy, ncy)) hmn hz1 hzs hwd (by omega) (hpv i (by omega) (Int32.not_lt.mp c_13)) hpy) _ _ hP hD hS ls (lv_sub hl [1, 2, 3, 0] rfl)
                exact LP53 1800 0 (fun _ => -1) dnx cdx rfl rfl pvs_m1 _ _ hP hD hS ls (lv_sub hl [1, 2, 3, 0] rfl)
          exact LP42 (nn - 1) 1 nxx ndx ncx rfl (by decide) (by unfold wt_mrun; rw [← hS0]) hp36 _ _ hP hD hS ls (lv_sub hl [1, 2, 0] rfl)
        · skip
          refine lv_aload_n hx hb dM_run_18 rfl (lv_at hl 0 rfl) ?_
          refine lv_iconst (v := nI 0) hx hb dM_run_19 (by decide) ?_
          refine lv_iload_n hx hb dM_run_20 rfl (lv_at hl 2 rfl) ?_
          refine lv_iconst (v := nI 0) hx hb dM_run_21 (by decide) ?_
          refine lv_bipush (v := nI 24) hx hb dM_run_22 (by decide) ?_
          refine lv_iconst (v := nI 0) hx hb dM_run_24 (by decide) ?_
          refine lv_iconst (v := nI 0) hx hb dM_run_25 (by decide) ?_
          refine lv_iconst (v := nI 0) hx hb dM_run_26 (by decide) ?_
          refine wt_rwv (va_runV (As := [.int (nI 0), .int (nI k), .int (nI 0), .int (nI 24), .int (nI 0), .int (nI 0), .int (nI 0)]) (rest := []) ⟨hx, hb, hml, hown, ht⟩ (c_M_come l dC dI cI cZ cL q H.size kn co bo mn wd zs fp ho lv fr so ea dn cd nxx ndx ncx al wo wh pn 0 k 0 24 (nI 0) (nI 0) (nI 0) (by omega) (by omega) (by omega) (by omega) ((hfp k 0 (by omega) (by have := hz1 k (by omega); omega)).1) ((hfp k 0 (by omega) (by have := hz1 k (by omega); omega)).2)) (cwV 7 ht (good_V m_534 m_536 ms_18 m_7 m_537) rfl rfl rfl (by decide +kernel) ⟨Nat.le_of_ble_eq_true rfl, Nat.le_of_ble_eq_true rfl⟩) (wt_preVw hK hN hP hD (va_recv hK hP (ci := 5) (q0 := 0) rfl rfl)) rfl rfl hl.1 rfl (lv_room (Nat.le_of_ble_eq_true rfl)) dM_run_27 ⟨Nat.le_of_ble_eq_true rfl, Nat.le_of_ble_eq_true rfl⟩) hD hS hA (fun H locs hP hD hS => ?_)
          have hP : va_P (dC, dI) vwCl (wM cI cZ cL q kn co bo mn wd zs fp ho lv fr so ea dn cd ((wt_come pn so 0 k 0 24 (nI 0) (nI 0) (nI 0) (nxx, ndx, ncx)).1) ((wt_come pn so 0 k 0 24 (nI 0) (nI 0) (nI 0) (nxx, ndx, ncx)).2.1) ((wt_come pn so 0 k 0 24 (nI 0) (nI 0) (nI 0) (nxx, ndx, ncx)).2.2) al wo wh) H := hP
          have hD : va_D A (wM cI cZ cL q kn co bo mn wd zs fp ho lv fr so ea dn cd ((wt_come pn so 0 k 0 24 (nI 0) (nI 0) (nI 0) (nxx, ndx, ncx)).1) ((wt_come pn so 0 k 0 24 (nI 0) (nI 0) (nI 0) (nxx, ndx, ncx)).2.1) ((wt_come pn so 0 k 0 24 (nI 0) (nI 0) (nI 0) (nxx, ndx, ncx)).2.2) al wo wh) := hD
          refine lv_iinc (v := nI (k + 1)) (lv' := [(2, .int (nI (k + 1))), (0, .ref (q 0)), (1, .int (nI nn))]) hx hb dM_run_30 hl (k := 2) rfl (wt_inc1 k) (by decide) rfl (fun ls hl => ?_)
          refine lv_goto (tgt := 6) hx hb dM_run_33 (by decide) ?_
          exact ih6 (k + 1) ((wt_come pn so 0 k 0 24 (nI 0) (nI 0) (nI 0) (nxx, ndx, ncx)).1) ((wt_come pn so 0 k 0 24 (nI 0) (nI 0) (nI 0) (nxx, ndx, ncx)).2.1) ((wt_come pn so 0 k 0 24 (nI 0) (nI 0) (nI 0) (nxx, ndx, ncx)).2.2) (by omega) hE1 (fun h => absurd h (Nat.ne_of_gt c_8)) (pvs_put (x := (nxx, ndx, ncx)) hpk (pv_24 (by omega) (hz1 k (by omega)))) _ _ hP hD hS ls (lv_sub hl [1, 2, 0] rfl)
  exact LP6 mn 0 (fun _ => -1) nd nc (Nat.zero_add mn) rfl (fun _ => rfl) pvs_m1 _ _ hP hD hS ls (lv_sub hl [1, 2, 0] rfl)

set_option maxHeartbeats 4000000 in
set_option maxRecDepth 100000 in
theorem c_M_whole (l : Launch) (dC : Nat → ClassId) (dI : Nat → Nat → Nat) (cI cZ cL : ClassId) (q : Nat → Nat) (sz0 : Nat) (kn : Nat → Bool) (co : Nat → Int32) (bo : Nat → Int32) (mn : Nat) (wd : Nat → Nat) (zs : Nat → Nat) (fp : Nat → Int32) (ho : Nat → Int32) (lv : Nat → Int32) (fr : Nat) (so : Nat → Int32) (ea : Nat → Int32) (dn : Nat → Int32) (cd : Nat → Int32) (nx : Nat → Int32) (nd : Nat → Int32) (nc : Nat → Int32) (al : Int32) (wo : Int32) (wh : Int32) (pn : Nat → Nat) (hfr : fr ≤ 15) (hmn : mn ≤ 8) (hzs : ∀ k, zs k ≤ 3) (hwd : ∀ k, wd k < 4) (hz1 : ∀ k, k < mn → 1 ≤ zs k) (hfp : ∀ k i, k < mn → i < zs k → fp (3 * k + i) = nI (pn (3 * k + i)) ∧ pn (3 * k + i) < 4) : Met l yM_whole (Cond.code yM_whole cM_whole 10 none :: tb) ({ frames := 5, cells := 0, slots := 0, locals := 120 }) (va_Pc [.ref (q 0)] (wt_rw (dC, dI) vwCl [(cI, .int), (cZ, .boolean), (cL, .long)] (wM cI cZ cL q kn co bo mn wd zs fp ho lv fr so ea dn cd nx nd nc al wo wh) sz0)) (va_Qv (fun _ : Unit => True) (wt_B (dC, dI) vwCl (va_A (wM cI cZ cL q kn co bo mn wd zs fp ho lv fr so ea dn cd nx nd nc al wo wh) sz0) (wM cI cZ cL q kn co bo mn wd zs fp ho lv fr so ((wt_mrun pn wd zs mn kn co bo ho lv so fr nd nc).1) ((wt_mrun pn wd zs mn kn co bo ho lv so fr nd nc).2.1) ((wt_mrun pn wd zs mn kn co bo ho lv so fr nd nc).2.2) ((wt_mrun pn wd zs mn kn co bo ho lv so fr nd nc).1) ((wt_mrun pn wd zs mn kn co bo ho lv so fr nd nc).2.1) ((wt_mrun pn wd zs mn kn co bo ho lv so fr nd nc).2.2) ((wt_wh wd zs mn kn co bo lv ((wt_mrun pn wd zs mn kn co bo ho lv so fr nd nc).1) ((wt_mrun pn wd zs mn kn co bo ho lv so fr nd nc).2.1) ((wt_mrun pn wd zs mn kn co bo ho lv so fr nd nc).2.2)).1) ((wt_wh wd zs mn kn co bo lv ((wt_mrun pn wd zs mn kn co bo ho lv so fr nd nc).1) ((wt_mrun pn wd zs mn kn co bo ho lv so fr nd nc).2.1) ((wt_mrun pn wd zs mn kn co bo ho lv so fr nd nc).2.2)).2.1) ((wt_wh wd zs mn kn co bo lv ((wt_mrun pn wd zs mn kn co bo ho lv so fr nd nc).1) ((wt_mrun pn wd zs mn kn co bo ho lv so fr nd nc).2.1) ((wt_mrun pn wd zs mn kn co bo ho lv so fr nd nc).2.2)).2.2))) (va_A (wM cI cZ cL q kn co bo mn wd zs fp ho lv fr so ea dn cd nx nd nc al wo wh) sz0)) 0 0 (va_A (wM cI cZ cL q kn co bo mn wd zs fp ho lv fr so ea dn cd nx nd nc al wo wh) sz0) := by
  refine Met.ofW (cc := cM_whole) (maxL := 10) (ret := none) (by decide) rfl ?_
  intro p e s m args below meth c s₁ B hml hv
  obtain ⟨rfl, hsz, hP, hK, hN, hD0⟩ := hv
  have hx := B.exec
  have hb := B.bytes
  have hr := B.returns
  have hts := atoms_spec (ws := (Cond.code yM_whole cM_whole 10 none :: tb)) B.pre
  have ht : ∀ w ∈ tb, w.before _ s = true := fun w h => hts w (List.mem_cons_of_mem _ h)
  have hown : s.vm.findClass RM = some m.cls := findClass_of_methodNamed B.named
  have hlocks := B.notSynchronized
  subst hsz
  have hD := hD0.self (sz := s.heap.size)
  generalize hAe : va_A (wM cI cZ cL q kn co bo mn wd zs fp ho lv fr so ea dn cd nx nd nc al wo wh) s.heap.size = A at hD ⊢
  have hA : ∀ q : Nat, s.heap.size ≤ q → A q := fun q h => by rw [← hAe]; exact Or.inr h
  clear hAe hD0
  have hS : va_S A s.heap s.heap [] := va_S.rf
  have hl := lv_entry ([.ref (q 0)]) (n := 10) (Nat.le_of_ble_eq_true rfl)
  rw [lg_entry_eq]
  generalize (lg_sl ([.ref (q 0)]) ++ List.replicate (10 - (lg_sl ([.ref (q 0)])).length) Slot.unset).toArray = ls at hl ⊢
  have hl : lv_has ls 10 [(0, .ref (q 0))] := hl
  refine lv_aload_n hx hb dM_whole_0 rfl (lv_at hl 0 rfl) ?_
  refine lv_aload_n hx hb dM_whole_1 rfl (lv_at hl 0 rfl) ?_
  refine va_get (D := (dC, dI)) (ci := 5) (v := .int (nI fr)) (C := RM) (T := TM) (N := 20) hx hb ht inM hown hK hP 0 rfl rfl 9 (by decide) (ht _ m_403) (fun _ h9 => h9) rfl dM_whole_2 ?_
  refine wt_rwv (va_runV (As := [.int (nI fr)]) (rest := []) ⟨hx, hb, hml, hown, ht⟩ (c_M_run l dC dI cI cZ cL q s.heap.size kn co bo mn wd zs fp ho lv fr so ea dn cd nx nd nc al wo wh pn fr hfr hmn hzs hwd hz1 hfp) (cwV 1 ht (good_V m_526 m_528 ms_16 m_7 m_529) rfl rfl rfl (by decide +kernel) ⟨Nat.le_of_ble_eq_true rfl, Nat.le_of_ble_eq_true rfl⟩) (wt_preVw hK hN hP hD (va_recv hK hP (ci := 5) (q0 := 0) rfl rfl)) rfl rfl hl.1 rfl (lv_room (Nat.le_of_ble_eq_true rfl)) dM_whole_5 ⟨Nat.le_of_ble_eq_true rfl, Nat.le_of_ble_eq_true rfl⟩) hD hS hA (fun H locs hP hD hS => ?_)
  have hP : va_P (dC, dI) vwCl (wM cI cZ cL q kn co bo mn wd zs fp ho lv fr so ((wt_mrun pn wd zs mn kn co bo ho lv so fr nd nc).1) ((wt_mrun pn wd zs mn kn co bo ho lv so fr nd nc).2.1) ((wt_mrun pn wd zs mn kn co bo ho lv so fr nd nc).2.2) ((wt_mrun pn wd zs mn kn co bo ho lv so fr nd nc).1) ((wt_mrun pn wd zs mn kn co bo ho lv so fr nd nc).2.1) ((wt_mrun pn wd zs mn kn co bo ho lv so fr nd nc).2.2) al wo wh) H := hP
  have hD : va_D A (wM cI cZ cL q kn co bo mn wd zs fp ho lv fr so ((wt_mrun pn wd zs mn kn co bo ho lv so fr nd nc).1) ((wt_mrun pn wd zs mn kn co bo ho lv so fr nd nc).2.1) ((wt_mrun pn wd zs mn kn co bo ho lv so fr nd nc).2.2) ((wt_mrun pn wd zs mn kn co bo ho lv so fr nd nc).1) ((wt_mrun pn wd zs mn kn co bo ho lv so fr nd nc).2.1) ((wt_mrun pn wd zs mn kn co bo ho lv so fr nd nc).2.2) al wo wh) := hD
  refine lv_aload_n hx hb dM_whole_8 rfl (lv_at hl 0 rfl) ?_
  refine lv_iconst (v := (-1)) hx hb dM_whole_9 (by decide) ?_
  refine va_put (D := (dC, dI)) (ci := 5) (v := .int (-1)) (ty := .int) (C := RM) (T := TM) (N := 20) hx hb ht inM tyM tyM_ok nmM hown hK hP hD hS 0 rfl rfl 17 (by decide) (ht _ m_411) (fun _ h9 => h9) rfl (by decide +kernel) rfl rfl (Nat.le_of_ble_eq_true rfl) dM_whole_10 (fun H locs hP hD hS => ?_)
  have hP : va_P (dC, dI) vwCl (wM cI cZ cL q kn co bo mn wd zs fp ho lv fr so ((wt_mrun pn wd zs mn kn co bo ho lv so fr nd nc).1) ((wt_mrun pn wd zs mn kn co bo ho lv so fr nd nc).2.1) ((wt_mrun pn wd zs mn kn co bo ho lv so fr nd nc).2.2) ((wt_mrun pn wd zs mn kn co bo ho lv so fr nd nc).1) ((wt_mrun pn wd zs mn kn co bo ho lv so fr nd nc).2.1) ((wt_mrun pn wd zs mn kn co bo ho lv so fr nd nc).2.2) (-1) wo wh) H := hP
  have hD : va_D A (wM cI cZ cL q kn co bo mn wd zs fp ho lv fr so ((wt_mrun pn wd zs mn kn co bo ho lv so fr nd nc).1) ((wt_mrun pn wd zs mn kn co bo ho lv so fr nd nc).2.1) ((wt_mrun pn wd zs mn kn co bo ho lv so fr nd nc).2.2) ((wt_mrun pn wd zs mn kn co bo ho lv so fr nd nc).1) ((wt_mrun pn wd zs mn kn co bo ho lv so fr nd nc).2.1) ((wt_mrun pn wd zs mn kn co bo ho lv so fr nd nc).2.2) (-1) wo wh) := hD
  refine lv_aload_n hx hb dM_whole_13 rfl (lv_at hl 0 rfl) ?_
  refine lv_iconst (v := nI 0) hx hb dM_whole_14 (by decide) ?_
  refine va_put (D := (dC, dI)) (ci := 5) (v := .int (nI 0)) (ty := .int) (C := RM) (T := TM) (N := 20) hx hb ht inM tyM tyM_ok nmM hown hK hP hD hS 0 rfl rfl 18 (by decide) (ht _ m_412) (fun _ h9 => h9) rfl (by decide +kernel) rfl rfl (Nat.le_of_ble_eq_true rfl) dM_whole_15 (fun H locs hP hD hS => ?_)
  have hP : va_P (dC, dI) vwCl (wM cI cZ cL q kn co bo mn wd zs fp ho lv fr so ((wt_mrun pn wd zs mn kn co bo ho lv so fr nd nc).1) ((wt_mrun pn wd zs mn kn co bo ho lv so fr nd nc).2.1) ((wt_mrun pn wd zs mn kn co bo ho lv so fr nd nc).2.2) ((wt_mrun pn wd zs mn kn co bo ho lv so fr nd nc).1) ((wt_mrun pn wd zs mn kn co bo ho lv so fr nd nc).2.1) ((wt_mrun pn wd zs mn kn co bo ho lv so fr nd nc).2.2) (-1) 0 wh) H := hP
  have hD : va_D A (wM cI cZ cL q kn co bo mn wd zs fp ho lv fr so ((wt_mrun pn wd zs mn kn co bo ho lv so fr nd nc).1) ((wt_mrun pn wd zs mn kn co bo ho lv so fr nd nc).2.1) ((wt_mrun pn wd zs mn kn co bo ho lv so fr nd nc).2.2) ((wt_mrun pn wd zs mn kn co bo ho lv so fr nd nc).1) ((wt_mrun pn wd zs mn kn co bo ho lv so fr nd nc).2.1) ((wt_mrun pn wd zs mn kn co bo ho lv so fr nd nc).2.2) (-1) 0 wh) := hD
  refine lv_aload_n hx hb dM_whole_18 rfl (lv_at hl 0 rfl) ?_
  refine lv_iconst (v := nI 0) hx hb dM_whole_19 (by decide) ?_
  refine va_put (D := (dC, dI)) (ci := 5) (v := .int (nI 0)) (ty := .int) (C := RM) (T := TM) (N := 20) hx hb ht inM tyM tyM_ok nmM hown hK hP hD hS 0 rfl rfl 19 (by decide) (ht _ m_413) (fun _ h9 => h9) rfl (by decide +kernel) rfl rfl (Nat.le_of_ble_eq_true rfl) dM_whole_20 (fun H locs hP hD hS => ?_)
  have hP : va_P (dC, dI) vwCl (wM cI cZ cL q kn co bo mn wd zs fp ho lv fr so ((wt_mrun pn wd zs mn kn co bo ho lv so fr nd nc).1) ((wt_mrun pn wd zs mn kn co bo ho lv so fr nd nc).2.1) ((wt_mrun pn wd zs mn kn co bo ho lv so fr nd nc).2.2) ((wt_mrun pn wd zs mn kn co bo ho lv so fr nd nc).1) ((wt_mrun pn wd zs mn kn co bo ho lv so fr nd nc).2.1) ((wt_mrun pn wd zs mn kn co bo ho lv so fr nd nc).2.2) (-1) 0 0) H := hP
  have hD : va_D A (wM cI cZ cL q kn co bo mn wd zs fp ho lv fr so ((wt_mrun pn wd zs mn kn co bo ho lv so fr nd nc).1) ((wt_mrun pn wd zs mn kn co bo ho lv so fr nd nc).2.1) ((wt_mrun pn wd zs mn kn co bo ho lv so fr nd nc).2.2) ((wt_mrun pn wd zs mn kn co bo ho lv so fr nd nc).1) ((wt_mrun pn wd zs mn kn co bo ho lv so fr nd nc).2.1) ((wt_mrun pn wd zs mn kn co bo ho lv so fr nd nc).2.2) (-1) 0 0) := hD
  refine lv_iconst (v := nI 0) hx hb dM_whole_23 (by decide) ?_
  refine lv_istore_n (lv' := [(1, .int (nI 0)), (0, .ref (q 0))]) hx hb dM_whole_24 rfl hl (by decide) rfl (fun ls hl => ?_)
  have LP25 : ∀ (r : Nat) (i : Nat) (alx : Int32) (wox : Int32) (whx : Int32) (hi : i + r = 225 * mn) (hE : wt_up (fun i x => wt_wh1 wd zs kn co bo lv ((wt_mrun pn wd zs mn kn co bo ho lv so fr nd nc).1) ((wt_mrun pn wd zs mn kn co bo ho lv so fr nd nc).2.1) ((wt_mrun pn wd zs mn kn co bo ho lv so fr nd nc).2.2) i x) r i (alx, wox, whx) = wt_wh wd zs mn kn co bo lv ((wt_mrun pn wd zs mn kn co bo ho lv so fr nd nc).1) ((wt_mrun pn wd zs mn kn co bo ho lv so fr nd nc).2.1) ((wt_mrun pn wd zs mn kn co bo ho lv so fr nd nc).2.2)) (H : Heap) (locs : List Loc) (hP : va_P (dC, dI) vwCl (wM cI cZ cL q kn co bo mn wd zs fp ho lv fr so ((wt_mrun pn wd zs mn kn co bo ho lv so fr nd nc).1) ((wt_mrun pn wd zs mn kn co bo ho lv so fr nd nc).2.1) ((wt_mrun pn wd zs mn kn co bo ho lv so fr nd nc).2.2) ((wt_mrun pn wd zs mn kn co bo ho lv so fr nd nc).1) ((wt_mrun pn wd zs mn kn co bo ho lv so fr nd nc).2.1) ((wt_mrun pn wd zs mn kn co bo ho lv so fr nd nc).2.2) alx wox whx) H) (hD : va_D A (wM cI cZ cL q kn co bo mn wd zs fp ho lv fr so ((wt_mrun pn wd zs mn kn co bo ho lv so fr nd nc).1) ((wt_mrun pn wd zs mn kn co bo ho lv so fr nd nc).2.1) ((wt_mrun pn wd zs mn kn co bo ho lv so fr nd nc).2.2) ((wt_mrun pn wd zs mn kn co bo ho lv so fr nd nc).1) ((wt_mrun pn wd zs mn kn co bo ho lv so fr nd nc).2.1) ((wt_mrun pn wd zs mn kn co bo ho lv so fr nd nc).2.2) alx wox whx)) (hS : va_S A s.heap H locs) (ls : Array Slot) (hl : lv_has ls 10 [(0, .ref (q 0)), (1, .int (nI i))]), W p l e (headSpec (Cond.code yM_whole cM_whole 10 none :: tb) ({ frames := 5, cells := 0, slots := 0, locals := 120 })).room s m ([.ref (q 0)] : List Value).toArray below meth c H locs 0 0 (MQ below (va_Qv (fun _ : Unit => True) (wt_B (dC, dI) vwCl A (wM cI cZ cL q kn co bo mn wd zs fp ho lv fr so ((wt_mrun pn wd zs mn kn co bo ho lv so fr nd nc).1) ((wt_mrun pn wd zs mn kn co bo ho lv so fr nd nc).2.1) ((wt_mrun pn wd zs mn kn co bo ho lv so fr nd nc).2.2) ((wt_mrun pn wd zs mn kn co bo ho lv so fr nd nc).1) ((wt_mrun pn wd zs mn kn co bo ho lv so fr nd nc).2.1) ((wt_mrun pn wd zs mn kn co bo ho lv so fr nd nc).2.2) ((wt_wh wd zs mn kn co bo lv ((wt_mrun pn wd zs mn kn co bo ho lv so fr nd nc).1) ((wt_mrun pn wd zs mn kn co bo ho lv so fr nd nc).2.1) ((wt_mrun pn wd zs mn kn co bo ho lv so fr nd nc).2.2)).1) ((wt_wh wd zs mn kn co bo lv ((wt_mrun pn wd zs mn kn co bo ho lv so fr nd nc).1) ((wt_mrun pn wd zs mn kn co bo ho lv so fr nd nc).2.1) ((wt_mrun pn wd zs mn kn co bo ho lv so fr nd nc).2.2)).2.1) ((wt_wh wd zs mn kn co bo lv ((wt_mrun pn wd zs mn kn co bo ho lv so fr nd nc).1) ((wt_mrun pn wd zs mn kn co bo ho lv so fr nd nc).2.1) ((wt_mrun pn wd zs mn kn co bo ho lv so fr nd nc).2.2)).2.2))) A) ([.ref (q 0)] : List Value).toArray s 0 0 A) (F0 m 25 ls []) := by
    intro r
    induction r with
    | zero =>
      intro i alx wox whx hi hE H locs hP hD hS ls hl
      have hl : lv_has ls 10 [(0, .ref (q 0)), (1, .int (nI i))] := hl
      refine lv_iload_n hx hb dM_whole_25 rfl (lv_at hl 1 rfl) ?_
      refine lv_sipush (v := nI 225) hx hb dM_whole_26 (by decide) ?_
      refine lv_aload_n hx hb dM_whole_29 rfl (lv_at hl 0 rfl) ?_
      refine va_get (D := (dC, dI)) (ci := 5) (v := .int (nI mn)) (C := RM) (T := TM) (N := 20) hx hb ht inM hown hK hP 0 rfl rfl 3 (by decide) (ht _ m_397) (fun _ h9 => h9) rfl dM_whole_30 ?_
      refine wt_imul hx hb dM_whole_33 ?_
      refine wt_icmp_ge (tgt := 259) hx hb dM_whole_34 (by decide) (by first | omega | (have := hz1 (i / 225) (by omega); have := hzs (i / 225); omega)) (by first | omega | (have := hz1 (i / 225) (by omega); have := hzs (i / 225); omega)) (fun c_1 => ?_) (fun c_1 => ?_)
      · skip
        have hP9 : va_P (dC, dI) vwCl (wM cI cZ cL q kn co bo mn wd zs fp ho lv fr so ((wt_mrun pn wd zs mn kn co bo ho lv so fr nd nc).1) ((wt_mrun pn wd zs mn kn co bo ho lv so fr nd nc).2.1) ((wt_mrun pn wd zs mn kn co bo ho lv so fr nd nc).2.2) ((wt_mrun pn wd zs mn kn co bo ho lv so fr nd nc).1) ((wt_mrun pn wd zs mn kn co bo ho lv so fr nd nc).2.1) ((wt_mrun pn wd zs mn kn co bo ho lv so fr nd nc).2.2) ((wt_wh wd zs mn kn co bo lv ((wt_mrun pn wd zs mn kn co bo ho lv so fr nd nc).1) ((wt_mrun pn wd zs mn kn co bo ho lv so fr nd nc).2.1) ((wt_mrun pn wd zs mn kn co bo ho lv so fr nd nc).2.2)).1) ((wt_wh wd zs mn kn co bo lv ((wt_mrun pn wd zs mn kn co bo ho lv so fr nd nc).1) ((wt_mrun pn wd zs mn kn co bo ho lv so fr nd nc).2.1) ((wt_mrun pn wd zs mn kn co bo ho lv so fr nd nc).2.2)).2.1) ((wt_wh wd zs mn kn co bo lv ((wt_mrun pn wd zs mn kn co bo ho lv so fr nd nc).1) ((wt_mrun pn wd zs mn kn co bo ho lv so fr nd nc).2.1) ((wt_mrun pn wd zs mn kn co bo ho lv so fr nd nc).2.2)).2.2)) H := by rw [show ((wt_wh wd zs mn kn co bo lv ((wt_mrun pn wd zs mn kn co bo ho lv so fr nd nc).1) ((wt_mrun pn wd zs mn kn co bo ho lv so fr nd nc).2.1) ((wt_mrun pn wd zs mn kn co bo ho lv so fr nd nc).2.2)).1) = alx from (congrArg (fun z => z.1) hE.symm), show ((wt_wh wd zs mn kn co bo lv ((wt_mrun pn wd zs mn kn co bo ho lv so fr nd nc).1) ((wt_mrun pn wd zs mn kn co bo ho lv so fr nd nc).2.1) ((wt_mrun pn wd zs mn kn co bo ho lv so fr nd nc).2.2)).2.1) = wox from (congrArg (fun z => z.2.1) hE.symm), show ((wt_wh wd zs mn kn co bo lv ((wt_mrun pn wd zs mn kn co bo ho lv so fr nd nc).1) ((wt_mrun pn wd zs mn kn co bo ho lv so fr nd nc).2.1) ((wt_mrun pn wd zs mn kn co bo ho lv so fr nd nc).2.2)).2.2) = whx from (congrArg (fun z => z.2.2) hE.symm)]; exact hP
        have hD9 : va_D A (wM cI cZ cL q kn co bo mn wd zs fp ho lv fr so ((wt_mrun pn wd zs mn kn co bo ho lv so fr nd nc).1) ((wt_mrun pn wd zs mn kn co bo ho lv so fr nd nc).2.1) ((wt_mrun pn wd zs mn kn co bo ho lv so fr nd nc).2.2) ((wt_mrun pn wd zs mn kn co bo ho lv so fr nd nc).1) ((wt_mrun pn wd zs mn kn co bo ho lv so fr nd nc).2.1) ((wt_mrun pn wd zs mn kn co bo ho lv so fr nd nc).2.2) ((wt_wh wd zs mn kn co bo lv ((wt_mrun pn wd zs mn kn co bo ho lv so fr nd nc).1) ((wt_mrun pn wd zs mn kn co bo ho lv so fr nd nc).2.1) ((wt_mrun pn wd zs mn kn co bo ho lv so fr nd nc).2.2)).1) ((wt_wh wd zs mn kn co bo lv ((wt_mrun pn wd zs mn kn co bo ho lv so fr nd nc).1) ((wt_mrun pn wd zs mn kn co bo ho lv so fr nd nc).2.1) ((wt_mrun pn wd zs mn kn co bo ho lv so fr nd nc).2.2)).2.1) ((wt_wh wd zs mn kn co bo lv ((wt_mrun pn wd zs mn kn co bo ho lv so fr nd nc).1) ((wt_mrun pn wd zs mn kn co bo ho lv so fr nd nc).2.1) ((wt_mrun pn wd zs mn kn co bo ho lv so fr nd nc).2.2)).2.2)) := by rw [show ((wt_wh wd zs mn kn co bo lv ((wt_mrun pn wd zs mn kn co bo ho lv so fr nd nc).1) ((wt_mrun pn wd zs mn kn co bo ho lv so fr nd nc).2.1) ((wt_mrun pn wd zs mn kn co bo ho lv so fr nd nc).2.2)).1) = alx from (congrArg (fun z => z.1) hE.symm), show ((wt_wh wd zs mn kn co bo lv ((wt_mrun pn wd zs mn kn co bo ho lv so fr nd nc).1) ((wt_mrun pn wd zs mn kn co bo ho lv so fr nd nc).2.1) ((wt_mrun pn wd zs mn kn co bo ho lv so fr nd nc).2.2)).2.1) = wox from (congrArg (fun z => z.2.1) hE.symm), show ((wt_wh wd zs mn kn co bo lv ((wt_mrun pn wd zs mn kn co bo ho lv so fr nd nc).1) ((wt_mrun pn wd zs mn kn co bo ho lv so fr nd nc).2.1) ((wt_mrun pn wd zs mn kn co bo ho lv so fr nd nc).2.2)).2.2) = whx from (congrArg (fun z => z.2.2) hE.symm)]; exact hD
        exact W.vret hx hb hr (fun t ht hW => ⟨⟨(), rfl, trivial, by rw [ht]; exact hP9, hD9⟩, hS.F ht⟩) hS.2.2 dM_whole_259
      · first | exact absurd c_1 (by omega) | exact absurd c_1 (by decide) | exact absurd (by decide) c_1
    | succ r ih25 =>
      intro i alx wox whx hi hE H locs hP hD hS ls hl
      have hl : lv_has ls 10 [(0, .ref (q 0)), (1, .int (nI i))] := hl
      refine lv_iload_n hx hb dM_whole_25 rfl (lv_at hl 1 rfl) ?_
      refine lv_sipush (v := nI 225) hx hb dM_whole_26 (by decide) ?_
      refine lv_aload_n hx hb dM_whole_29 rfl (lv_at hl 0 rfl) ?_
      refine va_get (D := (dC, dI)) (ci := 5) (v := .int (nI mn)) (C := RM) (T := TM) (N := 20) hx hb ht inM hown hK hP 0 rfl rfl 3 (by decide) (ht _ m_397) (fun _ h9 => h9) rfl dM_whole_30 ?_
      refine wt_imul hx hb dM_whole_33 ?_
      refine wt_icmp_ge (tgt := 259) hx hb dM_whole_34 (by decide) (by first | omega | (have := hz1 (i / 225) (by omega); have := hzs (i / 225); omega)) (by first | omega | (have := hz1 (i / 225) (by omega); have := hzs (i / 225); omega)) (fun c_2 => ?_) (fun c_2 => ?_)
      · first | exact absurd c_2 (by omega) | exact absurd c_2 (by decide) | exact absurd (by decide) c_2
      · skip
        refine lv_iload_n hx hb dM_whole_37 rfl (lv_at hl 1 rfl) ?_
        refine lv_sipush (v := nI 225) hx hb dM_whole_38 (by decide) ?_
        refine wt_idiv hx hb dM_whole_41 (by first | omega | (have := hz1 (i / 225) (by omega); have := hzs (i / 225); omega)) (by decide) (by decide) ?_
        refine lv_istore_n (lv' := [(2, .int (nI (i / 225))), (0, .ref (q 0)), (1, .int (nI i))]) hx hb dM_whole_42 rfl hl (by decide) rfl (fun ls hl => ?_)
        refine lv_aload_n hx hb dM_whole_43 rfl (lv_at hl 1 rfl) ?_
        refine va_get (D := (dC, dI)) (ci := 5) (v := .ref (q 4)) (C := RM) (T := TM) (N := 20) hx hb ht inM hown hK hP 0 rfl rfl 4 (by decide) (ht _ m_398) (fun _ h9 => h9) rfl dM_whole_44 ?_
        refine lv_iload_n hx hb dM_whole_47 rfl (lv_at hl 0 rfl) ?_
        refine wt_ialdN hx hb hK hP 4 0 rfl rfl (k := i / 225) (by first | omega | (have := hz1 (i / 225) (by omega); have := hzs (i / 225); omega)) (by decide) dM_whole_48 ?_
        refine lv_istore_n (lv' := [(3, .int (nI (wd (i / 225)))), (2, .int (nI (i / 225))), (0, .ref (q 0)), (1, .int (nI i))]) hx hb dM_whole_49 rfl hl (by decide) rfl (fun ls hl => ?_)
        refine lv_aload_n hx hb dM_whole_50 rfl (lv_at hl 2 rfl) ?_
        refine va_get (D := (dC, dI)) (ci := 5) (v := .ref (q 10)) (C := RM) (T := TM) (N := 20) hx hb ht inM hown hK hP 0 rfl rfl 11 (by decide) (ht _ m_405) (fun _ h9 => h9) rfl dM_whole_51 ?_
        refine lv_iload_n hx hb dM_whole_54 rfl (lv_at hl 3 rfl) ?_
        refine wt_iald hx hb hK hP 10 0 rfl rfl (k := i) (by first | omega | (have := hz1 (i / 225) (by omega); have := hzs (i / 225); omega)) (by decide) dM_whole_55 ?_
        refine lv_if_lt (tgt := 83) hx hb dM_whole_56 (by decide) (fun c_3 => ?_) (fun c_3 => ?_)
        · skip
          refine lv_iconst (v := nI 0) hx hb dM_whole_83 (by decide) ?_
          refine lv_istore (lv' := [(4, .int (nI 0)), (3, .int (nI (wd (i / 225)))), (2, .int (nI (i / 225))), (0, .ref (q 0)), (1, .int (nI i))]) hx hb dM_whole_84 hl (by decide) rfl (fun ls hl => ?_)
          refine lv_iload hx hb dM_whole_86 (lv_at hl 0 rfl) ?_
          refine wt_if_eq (tgt := 107) hx hb dM_whole_88 (by decide) (by first | omega | (have := hz1 (i / 225) (by omega); have := hzs (i / 225); omega)) (fun c_4 => ?_) (fun c_4 => ?_)
          · skip
            refine lv_iconst (v := (-1)) hx hb dM_whole_107 (by decide) ?_
            refine lv_istore (lv' := [(5, .int (-1)), (4, .int (nI 0)), (3, .int (nI (wd (i / 225)))), (2, .int (nI (i / 225))), (0, .ref (q 0)), (1, .int (nI i))]) hx hb dM_whole_108 hl (by decide) rfl (fun ls hl => ?_)
            refine lv_iload hx hb dM_whole_110 (lv_at hl 1 rfl) ?_
            refine wt_if_eq (tgt := 127) hx hb dM_whole_112 (by decide) (by first | omega | (have := hz1 (i / 225) (by omega); have := hzs (i / 225); omega)) (fun c_5 => ?_) (fun c_5 => ?_)
            · skip
              refine lv_iconst (v := (-1)) hx hb dM_whole_127 (by decide) ?_
              refine lv_istore (lv' := [(6, .int (-1)), (5, .int (-1)), (4, .int (nI 0)), (3, .int (nI (wd (i / 225)))), (2, .int (nI (i / 225))), (0, .ref (q 0)), (1, .int (nI i))]) hx hb dM_whole_128 hl (by decide) rfl (fun ls hl => ?_)
              refine lv_iload hx hb dM_whole_130 (lv_at hl 1 rfl) ?_
              refine lv_if_lt (tgt := 253) hx hb dM_whole_132 (by decide) (fun c_6 => ?_) (fun c_6 => ?_)
              · skip
                refine lv_iinc (v := nI (i + 1)) (lv' := [(1, .int (nI (i + 1))), (6, .int (-1)), (5, .int (-1)), (4, .int (nI 0)), (3, .int (nI (wd (i / 225)))), (2, .int (nI (i / 225))), (0, .ref (q 0))]) hx hb dM_whole_253 hl (k := 6) rfl (wt_inc1 i) (by decide) rfl (fun ls hl => ?_)
                refine lv_goto (tgt := 25) hx hb dM_whole_256 (by decide) ?_
                exact ih25 (i + 1) alx wox whx (by omega) (by exact (congrArg (fun x => wt_up (fun i x => wt_wh1 wd zs kn co bo lv ((wt_mrun pn wd zs mn kn co bo ho lv so fr nd nc).1) ((wt_mrun pn wd zs mn kn co bo ho lv so fr nd nc).2.1) ((wt_mrun pn wd zs mn kn co bo ho lv so fr nd nc).2.2) i x) r (i + 1) x) (wh_no1 c_3)).symm.trans hE) _ _ hP hD hS ls (lv_sub hl [6, 0] rfl)
              · exact absurd (by decide) c_6
            · exact absurd c_5 (by decide)
          · exact absurd c_4 (by decide)
        · skip
          refine lv_iload_n hx hb dM_whole_59 rfl (lv_at hl 3 rfl) ?_
          refine lv_bipush (v := nI 25) hx hb dM_whole_60 (by decide) ?_
          refine wt_idiv hx hb dM_whole_62 (by first | omega | (have := hz1 (i / 225) (by omega); have := hzs (i / 225); omega)) (by decide) (by decide) ?_
          refine lv_bipush (v := nI 9) hx hb dM_whole_63 (by decide) ?_
          refine wt_irem hx hb dM_whole_65 (by first | omega | (have := hz1 (i / 225) (by omega); have := hzs (i / 225); omega)) (by decide) (by decide) ?_
          refine lv_iconst (v := nI 3) hx hb dM_whole_66 (by decide) ?_
          refine lv_aload_n hx hb dM_whole_67 rfl (lv_at hl 2 rfl) ?_
          refine va_get (D := (dC, dI)) (ci := 5) (v := .ref (q 5)) (C := RM) (T := TM) (N := 20) hx hb ht inM hown hK hP 0 rfl rfl 5 (by decide) (ht _ m_399) (fun _ h9 => h9) rfl dM_whole_68 ?_
          refine lv_iload_n hx hb dM_whole_71 rfl (lv_at hl 1 rfl) ?_
          refine wt_ialdN hx hb hK hP 5 0 rfl rfl (k := i / 225) (by first | omega | (have := hz1 (i / 225) (by omega); have := hzs (i / 225); omega)) (by decide) dM_whole_72 ?_
          refine wt_imul hx hb dM_whole_73 ?_
          refine lv_iconst (v := nI 1) hx hb dM_whole_74 (by decide) ?_
          refine wt_isub hx hb dM_whole_75 (by first | omega | (have := hz1 (i / 225) (by omega); have := hzs (i / 225); omega)) ?_
          refine wt_icmp_ne (tgt := 83) hx hb dM_whole_76 (by decide) (by first | omega | (have := hz1 (i / 225) (by omega); have := hzs (i / 225); omega)) (by first | omega | (have := hz1 (i / 225) (by omega); have := hzs (i / 225); omega)) (fun c_7 => ?_) (fun c_7 => ?_)
          · skip
            refine lv_iconst (v := nI 0) hx hb dM_whole_83 (by decide) ?_
            refine lv_istore (lv' := [(4, .int (nI 0)), (3, .int (nI (wd (i / 225)))), (2, .int (nI (i / 225))), (0, .ref (q 0)), (1, .int (nI i))]) hx hb dM_whole_84 hl (by decide) rfl (fun ls hl => ?_)
            refine lv_iload hx hb dM_whole_86 (lv_at hl 0 rfl) ?_
            refine wt_if_eq (tgt := 107) hx hb dM_whole_88 (by decide) (by first | omega | (have := hz1 (i / 225) (by omega); have := hzs (i / 225); omega)) (fun c_8 => ?_) (fun c_8 => ?_)
            · skip
              refine lv_iconst (v := (-1)) hx hb dM_whole_107 (by decide) ?_
              refine lv_istore (lv' := [(5, .int (-1)), (4, .int (nI 0)), (3, .int (nI (wd (i / 225)))), (2, .int (nI (i / 225))), (0, .ref (q 0)), (1, .int (nI i))]) hx hb dM_whole_108 hl (by decide) rfl (fun ls hl => ?_)
              refine lv_iload hx hb dM_whole_110 (lv_at hl 1 rfl) ?_
              refine wt_if_eq (tgt := 127) hx hb dM_whole_112 (by decide) (by first | omega | (have := hz1 (i / 225) (by omega); have := hzs (i / 225); omega)) (fun c_9 => ?_) (fun c_9 => ?_)
              · skip
                refine lv_iconst (v := (-1)) hx hb dM_whole_127 (by decide) ?_
                refine lv_istore (lv' := [(6, .int (-1)), (5, .int (-1)), (4, .int (nI 0)), (3, .int (nI (wd (i / 225)))), (2, .int (nI (i / 225))), (0, .ref (q 0)), (1, .int (nI i))]) hx hb dM_whole_128 hl (by decide) rfl (fun ls hl => ?_)
                refine lv_iload hx hb dM_whole_130 (lv_at hl 1 rfl) ?_
                refine lv_if_lt (tgt := 253) hx hb dM_whole_132 (by decide) (fun c_10 => ?_) (fun c_10 => ?_)
                · skip
                  refine lv_iinc (v := nI (i + 1)) (lv' := [(1, .int (nI (i + 1))), (6, .int (-1)), (5, .int (-1)), (4, .int (nI 0)), (3, .int (nI (wd (i / 225)))), (2, .int (nI (i / 225))), (0, .ref (q 0))]) hx hb dM_whole_253 hl (k := 6) rfl (wt_inc1 i) (by decide) rfl (fun ls hl => ?_)
                  refine lv_goto (tgt := 25) hx hb dM_whole_256 (by decide) ?_
                  exact ih25 (i + 1) alx wox whx (by omega) (by exact (congrArg (fun x => wt_up (fun i x => wt_wh1 wd zs kn co bo lv ((wt_mrun pn wd zs mn kn co bo ho lv so fr nd nc).1) ((wt_mrun pn wd zs mn kn co bo ho lv so fr nd nc).2.1) ((wt_mrun pn wd zs mn kn co bo ho lv so fr nd nc).2.2) i x) r (i + 1) x) (wh_no2 c_7)).symm.trans hE) _ _ hP hD hS ls (lv_sub hl [6, 0] rfl)
                · exact absurd (by decide) c_10
              · exact absurd c_9 (by decide)
            · exact absurd c_8 (by decide)
          · skip
            refine lv_iconst (v := nI 1) hx hb dM_whole_79 (by decide) ?_
            refine lv_goto (tgt := 84) hx hb dM_whole_80 (by decide) ?_
            refine lv_istore (lv' := [(4, .int (nI 1)), (3, .int (nI (wd (i / 225)))), (2, .int (nI (i / 225))), (0, .ref (q 0)), (1, .int (nI i))]) hx hb dM_whole_84 hl (by decide) rfl (fun ls hl => ?_)
            refine lv_iload hx hb dM_whole_86 (lv_at hl 0 rfl) ?_
            refine wt_if_eq (tgt := 107) hx hb dM_whole_88 (by decide) (by first | omega | (have := hz1 (i / 225) (by omega); have := hzs (i / 225); omega)) (fun c_11 => ?_) (fun c_11 => ?_)
            · exact absurd c_11 (by decide)
            · skip
              refine lv_aload_n hx hb dM_whole_91 rfl (lv_at hl 3 rfl) ?_
              refine lv_iload_n hx hb dM_whole_92 rfl (lv_at hl 4 rfl) ?_
              refine lv_iconst (v := nI 5) hx hb dM_whole_93 (by decide) ?_
              refine wt_idiv hx hb dM_whole_94 (by first | omega | (have := hz1 (i / 225) (by omega); have := hzs (i / 225); omega)) (by decide) (by decide) ?_
              refine lv_iconst (v := nI 5) hx hb dM_whole_95 (by decide) ?_
              refine wt_irem hx hb dM_whole_96 (by first | omega | (have := hz1 (i / 225) (by omega); have := hzs (i / 225); omega)) (by decide) (by decide) ?_
              refine lv_iload_n hx hb dM_whole_97 rfl (lv_at hl 4 rfl) ?_
              refine lv_iconst (v := nI 5) hx hb dM_whole_98 (by decide) ?_
              refine wt_irem hx hb dM_whole_99 (by first | omega | (have := hz1 (i / 225) (by omega); have := hzs (i / 225); omega)) (by decide) (by decide) ?_
              refine lv_iload_n hx hb dM_whole_100 rfl (lv_at hl 1 rfl) ?_
              refine wt_roi (va_runV (As := [.int (nI (i / 5 % 5)), .int (nI (i % 5)), .int (nI (wd (i / 225)))]) (rest := []) ⟨hx, hb, hml, hown, ht⟩ (c_M_after_1 l dC dI cI cZ cL q kn co bo mn wd zs fp ho lv fr so ((wt_mrun pn wd zs mn kn co bo ho lv so fr nd nc).1) ((wt_mrun pn wd zs mn kn co bo ho lv so fr nd nc).2.1) ((wt_mrun pn wd zs mn kn co bo ho lv so fr nd nc).2.2) ((wt_mrun pn wd zs mn kn co bo ho lv so fr nd nc).1) ((wt_mrun pn wd zs mn kn co bo ho lv so fr nd nc).2.1) ((wt_mrun pn wd zs mn kn co bo ho lv so fr nd nc).2.2) alx wox whx (i / 5 % 5) (i % 5) (wd (i / 225)) (by omega) (by omega) (by have := hwd (i / 225); omega) ((pvs_mrun (pn := pn) (kn := kn) (co := co) (bo := bo) (ho := ho) (lv := lv) (so := so) hmn hz1 hzs hwd fr nd nc i (by omega) (Int32.not_lt.mp c_3)).2.2)) (cwV 3 ht (good_V m_546 m_487 m_488 m_7 m_489) rfl rfl rfl (by decide +kernel) ⟨Nat.le_of_ble_eq_true rfl, Nat.le_of_ble_eq_true rfl⟩) (wt_preV hK hN hP (va_recv hK hP (ci := 5) (q0 := 0) rfl rfl)) rfl rfl hl.1 rfl (lv_room (Nat.le_of_ble_eq_true rfl)) dM_whole_101 ⟨Nat.le_of_ble_eq_true rfl, Nat.le_of_ble_eq_true rfl⟩) ?_
              refine lv_goto (tgt := 108) hx hb dM_whole_104 (by decide) ?_
              refine lv_istore (lv' := [(5, .int (wt_afN kn co bo (i / 5 % 5) (i % 5) (wd (i / 225)))), (4, .int (nI 1)), (3, .int (nI (wd (i / 225)))), (2, .int (nI (i / 225))), (0, .ref (q 0)), (1, .int (nI i))]) hx hb dM_whole_108 hl (by decide) rfl (fun ls hl => ?_)
              refine lv_iload hx hb dM_whole_110 (lv_at hl 1 rfl) ?_
              refine wt_if_eq (tgt := 127) hx hb dM_whole_112 (by decide) (by first | omega | (have := hz1 (i / 225) (by omega); have := hzs (i / 225); omega)) (fun c_12 => ?_) (fun c_12 => ?_)
              · exact absurd c_12 (by decide)
              · skip
                refine lv_aload_n hx hb dM_whole_115 rfl (lv_at hl 4 rfl) ?_
                refine lv_iload_n hx hb dM_whole_116 rfl (lv_at hl 5 rfl) ?_
                refine lv_iconst (v := nI 5) hx hb dM_whole_117 (by decide) ?_
                refine wt_irem hx hb dM_whole_118 (by first | omega | (have := hz1 (i / 225) (by omega); have := hzs (i / 225); omega)) (by decide) (by decide) ?_
                refine lv_iload_n hx hb dM_whole_119 rfl (lv_at hl 2 rfl) ?_
                refine lv_iconst (v := nI 4) hx hb dM_whole_120 (by decide) ?_
                refine wt_roi (va_runV (As := [.int (nI (i % 5)), .int (nI (wd (i / 225))), .int (nI 4)]) (rest := []) ⟨hx, hb, hml, hown, ht⟩ (c_M_after_1 l dC dI cI cZ cL q kn co bo mn wd zs fp ho lv fr so ((wt_mrun pn wd zs mn kn co bo ho lv so fr nd nc).1) ((wt_mrun pn wd zs mn kn co bo ho lv so fr nd nc).2.1) ((wt_mrun pn wd zs mn kn co bo ho lv so fr nd nc).2.2) ((wt_mrun pn wd zs mn kn co bo ho lv so fr nd nc).1) ((wt_mrun pn wd zs mn kn co bo ho lv so fr nd nc).2.1) ((wt_mrun pn wd zs mn kn co bo ho lv so fr nd nc).2.2) alx wox whx (i % 5) (wd (i / 225)) 4 (by omega) (by have := hwd (i / 225); omega) (by decide) (fun h => absurd h (by have := hwd (i / 225); omega))) (cwV 3 ht (good_V m_546 m_487 m_488 m_7 m_489) rfl rfl rfl (by decide +kernel) ⟨Nat.le_of_ble_eq_true rfl, Nat.le_of_ble_eq_true rfl⟩) (wt_preV hK hN hP (va_recv hK hP (ci := 5) (q0 := 0) rfl rfl)) rfl rfl hl.1 rfl (lv_room (Nat.le_of_ble_eq_true rfl)) dM_whole_121 ⟨Nat.le_of_ble_eq_true rfl, Nat.le_of_ble_eq_true rfl⟩) ?_
                refine lv_goto (tgt := 128) hx hb dM_whole_124 (by decide) ?_
                refine lv_istore (lv' := [(6, .int (wt_afN kn co bo (i % 5) (wd (i / 225)) 4)), (5, .int (wt_afN kn co bo (i / 5 % 5) (i % 5) (wd (i / 225)))), (4, .int (nI 1)), (3, .int (nI (wd (i / 225)))), (2, .int (nI (i / 225))), (0, .ref (q 0)), (1, .int (nI i))]) hx hb dM_whole_128 hl (by decide) rfl (fun ls hl => ?_)
                refine lv_iload hx hb dM_whole_130 (lv_at hl 1 rfl) ?_
                refine lv_if_lt (tgt := 253) hx hb dM_whole_132 (by decide) (fun c_13 => ?_) (fun c_13 => ?_)
                · skip
                  refine lv_iinc (v := nI (i + 1)) (lv' := [(1, .int (nI (i + 1))), (6, .int (wt_afN kn co bo (i % 5) (wd (i / 225)) 4)), (5, .int (wt_afN kn co bo (i / 5 % 5) (i % 5) (wd (i / 225)))), (4, .int (nI 1)), (3, .int (nI (wd (i / 225)))), (2, .int (nI (i / 225))), (0, .ref (q 0))]) hx hb dM_whole_253 hl (k := 6) rfl (wt_inc1 i) (by decide) rfl (fun ls hl => ?_)
                  refine lv_goto (tgt := 25) hx hb dM_whole_256 (by decide) ?_
                  exact ih25 (i + 1) alx wox whx (by omega) (by exact (congrArg (fun x => wt_up (fun i x => wt_wh1 wd zs kn co bo lv ((wt_mrun pn wd zs mn kn co bo ho lv so fr nd nc).1) ((wt_mrun pn wd zs mn kn co bo ho lv so fr nd nc).2.1) ((wt_mrun pn wd zs mn kn co bo ho lv so fr nd nc).2.2) i x) r (i + 1) x) (wh_no3 c_13)).symm.trans hE) _ _ hP hD hS ls (lv_sub hl [6, 0] rfl)
                · skip
                  refine lv_iload hx hb dM_whole_135 (lv_at hl 0 rfl) ?_
                  refine lv_if_lt (tgt := 253) hx hb dM_whole_137 (by decide) (fun c_14 => ?_) (fun c_14 => ?_)
                  · skip
                    refine lv_iinc (v := nI (i + 1)) (lv' := [(1, .int (nI (i + 1))), (6, .int (wt_afN kn co bo (i % 5) (wd (i / 225)) 4)), (5, .int (wt_afN kn co bo (i / 5 % 5) (i % 5) (wd (i / 225)))), (4, .int (nI 1)), (3, .int (nI (wd (i / 225)))), (2, .int (nI (i / 225))), (0, .ref (q 0))]) hx hb dM_whole_253 hl (k := 6) rfl (wt_inc1 i) (by decide) rfl (fun ls hl => ?_)
                    refine lv_goto (tgt := 25) hx hb dM_whole_256 (by decide) ?_
                    exact ih25 (i + 1) alx wox whx (by omega) (by exact (congrArg (fun x => wt_up (fun i x => wt_wh1 wd zs kn co bo lv ((wt_mrun pn wd zs mn kn co bo ho lv so fr nd nc).1) ((wt_mrun pn wd zs mn kn co bo ho lv so fr nd nc).2.1) ((wt_mrun pn wd zs mn kn co bo ho lv so fr nd nc).2.2) i x) r (i + 1) x) (wh_no4 c_14)).symm.trans hE) _ _ hP hD hS ls (lv_sub hl [6, 0] rfl)
                  · skip
                    refine lv_aload_n hx hb dM_whole_140 rfl (lv_at hl 5 rfl) ?_
                    refine va_get (D := (dC, dI)) (ci := 5) (v := .ref (q 10)) (C := RM) (T := TM) (N := 20) hx hb ht inM hown hK hP 0 rfl rfl 11 (by decide) (ht _ m_405) (fun _ h9 => h9) rfl dM_whole_141 ?_
                    refine lv_iload_n hx hb dM_whole_144 rfl (lv_at hl 6 rfl) ?_
                    refine wt_iald hx hb hK hP 10 0 rfl rfl (k := i) (by first | omega | (have := hz1 (i / 225) (by omega); have := hzs (i / 225); omega)) (by decide) dM_whole_145 ?_
                    refine lv_aload_n hx hb dM_whole_146 rfl (lv_at hl 5 rfl) ?_
                    refine va_get (D := (dC, dI)) (ci := 5) (v := .ref (q 8)) (C := RM) (T := TM) (N := 20) hx hb ht inM hown hK hP 0 rfl rfl 8 (by decide) (ht _ m_402) (fun _ h9 => h9) rfl dM_whole_147 ?_
                    refine lv_iconst (v := nI 2) hx hb dM_whole_150 (by decide) ?_
                    refine wt_iald hx hb hK hP 8 0 rfl rfl (k := 2) (by first | omega | (have := hz1 (i / 225) (by omega); have := hzs (i / 225); omega)) (by decide) dM_whole_151 ?_
                    refine lv_iadd hx hb dM_whole_152 ?_
                    refine lv_iload hx hb dM_whole_153 (lv_at hl 1 rfl) ?_
                    refine lv_iadd hx hb dM_whole_155 ?_
                    refine lv_iload hx hb dM_whole_156 (lv_at hl 0 rfl) ?_
                    refine lv_iadd hx hb dM_whole_158 ?_
                    refine lv_istore (lv' := [(7, .int ((((wt_mrun pn wd zs mn kn co bo ho lv so fr nd nc).1) i) + lv 2 + wt_afN kn co bo (i / 5 % 5) (i % 5) (wd (i / 225)) + wt_afN kn co bo (i % 5) (wd (i / 225)) 4)), (6, .int (wt_afN kn co bo (i % 5) (wd (i / 225)) 4)), (5, .int (wt_afN kn co bo (i / 5 % 5) (i % 5) (wd (i / 225)))), (4, .int (nI 1)), (3, .int (nI (wd (i / 225)))), (2, .int (nI (i / 225))), (0, .ref (q 0)), (1, .int (nI i))]) hx hb dM_whole_159 hl (by decide) rfl (fun ls hl => ?_)
                    refine lv_aload_n hx hb dM_whole_161 rfl (lv_at hl 6 rfl) ?_
                    refine va_get (D := (dC, dI)) (ci := 5) (v := .ref (q 11)) (C := RM) (T := TM) (N := 20) hx hb ht inM hown hK hP 0 rfl rfl 12 (by decide) (ht _ m_406) (fun _ h9 => h9) rfl dM_whole_162 ?_
                    refine lv_iload_n hx hb dM_whole_165 rfl (lv_at hl 7 rfl) ?_
                    refine wt_iald hx hb hK hP 11 0 rfl rfl (k := i) (by first | omega | (have := hz1 (i / 225) (by omega); have := hzs (i / 225); omega)) (by decide) dM_whole_166 ?_
                    refine lv_iconst (v := nI 1) hx hb dM_whole_167 (by decide) ?_
                    refine lv_iadd hx hb dM_whole_168 ?_
                    refine lv_istore (lv' := [(8, .int ((((wt_mrun pn wd zs mn kn co bo ho lv so fr nd nc).2.1) i) + nI 1)), (7, .int ((((wt_mrun pn wd zs mn kn co bo ho lv so fr nd nc).1) i) + lv 2 + wt_afN kn co bo (i / 5 % 5) (i % 5) (wd (i / 225)) + wt_afN kn co bo (i % 5) (wd (i / 225)) 4)), (6, .int (wt_afN kn co bo (i % 5) (wd (i / 225)) 4)), (5, .int (wt_afN kn co bo (i / 5 % 5) (i % 5) (wd (i / 225)))), (4, .int (nI 1)), (3, .int (nI (wd (i / 225)))), (2, .int (nI (i / 225))), (0, .ref (q 0)), (1, .int (nI i))]) hx hb dM_whole_169 hl (by decide) rfl (fun ls hl => ?_)
                    refine lv_iconst (v := nI 4) hx hb dM_whole_171 (by decide) ?_
                    refine lv_aload_n hx hb dM_whole_172 rfl (lv_at hl 7 rfl) ?_
                    refine va_get (D := (dC, dI)) (ci := 5) (v := .ref (q 12)) (C := RM) (T := TM) (N := 20) hx hb ht inM hown hK hP 0 rfl rfl 13 (by decide) (ht _ m_407) (fun _ h9 => h9) rfl dM_whole_173 ?_
                    refine lv_iload_n hx hb dM_whole_176 rfl (lv_at hl 8 rfl) ?_
                    refine wt_iald hx hb hK hP 12 0 rfl rfl (k := i) (by first | omega | (have := hz1 (i / 225) (by omega); have := hzs (i / 225); omega)) (by decide) dM_whole_177 ?_
                    refine lv_imul hx hb dM_whole_178 ?_
                    refine lv_iload_n hx hb dM_whole_179 rfl (lv_at hl 5 rfl) ?_
                    refine lv_iadd hx hb dM_whole_180 ?_
                    refine lv_istore (lv' := [(9, .int (nI 4 * (((wt_mrun pn wd zs mn kn co bo ho lv so fr nd nc).2.2) i) + nI (wd (i / 225)))), (8, .int ((((wt_mrun pn wd zs mn kn co bo ho lv so fr nd nc).2.1) i) + nI 1)), (7, .int ((((wt_mrun pn wd zs mn kn co bo ho lv so fr nd nc).1) i) + lv 2 + wt_afN kn co bo (i / 5 % 5) (i % 5) (wd (i / 225)) + wt_afN kn co bo (i % 5) (wd (i / 225)) 4)), (6, .int (wt_afN kn co bo (i % 5) (wd (i / 225)) 4)), (5, .int (wt_afN kn co bo (i / 5 % 5) (i % 5) (wd (i / 225)))), (4, .int (nI 1)), (3, .int (nI (wd (i / 225)))), (2, .int (nI (i / 225))), (0, .ref (q 0)), (1, .int (nI i))]) hx hb dM_whole_181 hl (by decide) rfl (fun ls hl => ?_)
                    refine lv_aload_n hx hb dM_whole_183 rfl (lv_at hl 8 rfl) ?_
                    refine va_get (D := (dC, dI)) (ci := 5) (v := .int alx) (C := RM) (T := TM) (N := 20) hx hb ht inM hown hK hP 0 rfl rfl 17 (by decide) (ht _ m_411) (fun _ h9 => h9) rfl dM_whole_184 ?_
                    refine lv_if_lt (tgt := 235) hx hb dM_whole_187 (by decide) (fun c_15 => ?_) (fun c_15 => ?_)
                    · skip
                      refine lv_aload_n hx hb dM_whole_235 rfl (lv_at hl 8 rfl) ?_
                      refine lv_iload hx hb dM_whole_236 (lv_at hl 2 rfl) ?_
                      refine va_put (D := (dC, dI)) (ci := 5) (v := .int ((((wt_mrun pn wd zs mn kn co bo ho lv so fr nd nc).1) i) + lv 2 + wt_afN kn co bo (i / 5 % 5) (i % 5) (wd (i / 225)) + wt_afN kn co bo (i % 5) (wd (i / 225)) 4)) (ty := .int) (C := RM) (T := TM) (N := 20) hx hb ht inM tyM tyM_ok nmM hown hK hP hD hS 0 rfl rfl 17 (by decide) (ht _ m_411) (fun _ h9 => h9) rfl (by decide +kernel) rfl rfl (Nat.le_of_ble_eq_true rfl) dM_whole_238 (fun H locs hP hD hS => ?_)
                      have hP : va_P (dC, dI) vwCl (wM cI cZ cL q kn co bo mn wd zs fp ho lv fr so ((wt_mrun pn wd zs mn kn co bo ho lv so fr nd nc).1) ((wt_mrun pn wd zs mn kn co bo ho lv so fr nd nc).2.1) ((wt_mrun pn wd zs mn kn co bo ho lv so fr nd nc).2.2) ((wt_mrun pn wd zs mn kn co bo ho lv so fr nd nc).1) ((wt_mrun pn wd zs mn kn co bo ho lv so fr nd nc).2.1) ((wt_mrun pn wd zs mn kn co bo ho lv so fr nd nc).2.2) ((((wt_mrun pn wd zs mn kn co bo ho lv so fr nd nc).1) i) + lv 2 + wt_afN kn co bo (i / 5 % 5) (i % 5) (wd (i / 225)) + wt_afN kn co bo (i % 5) (wd (i / 225)) 4) wox whx) H := hP
                      have hD : va_D A (wM cI cZ cL q kn co bo mn wd zs fp ho lv fr so ((wt_mrun pn wd zs mn kn co bo ho lv so fr nd nc).1) ((wt_mrun pn wd zs mn kn co bo ho lv so fr nd nc).2.1) ((wt_mrun pn wd zs mn kn co bo ho lv so fr nd nc).2.2) ((wt_mrun pn wd zs mn kn co bo ho lv so fr nd nc).1) ((wt_mrun pn wd zs mn kn co bo ho lv so fr nd nc).2.1) ((wt_mrun pn wd zs mn kn co bo ho lv so fr nd nc).2.2) ((((wt_mrun pn wd zs mn kn co bo ho lv so fr nd nc).1) i) + lv 2 + wt_afN kn co bo (i / 5 % 5) (i % 5) (wd (i / 225)) + wt_afN kn co bo (i % 5) (wd (i / 225)) 4) wox whx) := hD
                      refine lv_aload_n hx hb dM_whole_241 rfl (lv_at hl 8 rfl) ?_
                      refine lv_iload hx hb dM_whole_242 (lv_at hl 1 rfl) ?_
                      refine va_put (D := (dC, dI)) (ci := 5) (v := .int ((((wt_mrun pn wd zs mn kn co bo ho lv so fr nd nc).2.1) i) + nI 1)) (ty := .int) (C := RM) (T := TM) (N := 20) hx hb ht inM tyM tyM_ok nmM hown hK hP hD hS 0 rfl rfl 18 (by decide) (ht _ m_412) (fun _ h9 => h9) rfl (by decide +kernel) rfl rfl (Nat.le_of_ble_eq_true rfl) dM_whole_244 (fun H locs hP hD hS => ?_)
                      have hP : va_P (dC, dI) vwCl (wM cI cZ cL q kn co bo mn wd zs fp ho lv fr so ((wt_mrun pn wd zs mn kn co bo ho lv so fr nd nc).1) ((wt_mrun pn wd zs mn kn co bo ho lv so fr nd nc).2.1) ((wt_mrun pn wd zs mn kn co bo ho lv so fr nd nc).2.2) ((wt_mrun pn wd zs mn kn co bo ho lv so fr nd nc).1) ((wt_mrun pn wd zs mn kn co bo ho lv so fr nd nc).2.1) ((wt_mrun pn wd zs mn kn co bo ho lv so fr nd nc).2.2) ((((wt_mrun pn wd zs mn kn co bo ho lv so fr nd nc).1) i) + lv 2 + wt_afN kn co bo (i / 5 % 5) (i % 5) (wd (i / 225)) + wt_afN kn co bo (i % 5) (wd (i / 225)) 4) ((((wt_mrun pn wd zs mn kn co bo ho lv so fr nd nc).2.1) i) + nI 1) whx) H := hP
                      have hD : va_D A (wM cI cZ cL q kn co bo mn wd zs fp ho lv fr so ((wt_mrun pn wd zs mn kn co bo ho lv so fr nd nc).1) ((wt_mrun pn wd zs mn kn co bo ho lv so fr nd nc).2.1) ((wt_mrun pn wd zs mn kn co bo ho lv so fr nd nc).2.2) ((wt_mrun pn wd zs mn kn co bo ho lv so fr nd nc).1) ((wt_mrun pn wd zs mn kn co bo ho lv so fr nd nc).2.1) ((wt_mrun pn wd zs mn kn co bo ho lv so fr nd nc).2.2) ((((wt_mrun pn wd zs mn kn co bo ho lv so fr nd nc).1) i) + lv 2 + wt_afN kn co bo (i / 5 % 5) (i % 5) (wd (i / 225)) + wt_afN kn co bo (i % 5) (wd (i / 225)) 4) ((((wt_mrun pn wd zs mn kn co bo ho lv so fr nd nc).2.1) i) + nI 1) whx) := hD
                      refine lv_aload_n hx hb dM_whole_247 rfl (lv_at hl 8 rfl) ?_
                      refine lv_iload hx hb dM_whole_248 (lv_at hl 0 rfl) ?_
                      refine va_put (D := (dC, dI)) (ci := 5) (v := .int (nI 4 * (((wt_mrun pn wd zs mn kn co bo ho lv so fr nd nc).2.2) i) + nI (wd (i / 225)))) (ty := .int) (C := RM) (T := TM) (N := 20) hx hb ht inM tyM tyM_ok nmM hown hK hP hD hS 0 rfl rfl 19 (by decide) (ht _ m_413) (fun _ h9 => h9) rfl (by decide +kernel) rfl rfl (Nat.le_of_ble_eq_true rfl) dM_whole_250 (fun H locs hP hD hS => ?_)
                      have hP : va_P (dC, dI) vwCl (wM cI cZ cL q kn co bo mn wd zs fp ho lv fr so ((wt_mrun pn wd zs mn kn co bo ho lv so fr nd nc).1) ((wt_mrun pn wd zs mn kn co bo ho lv so fr nd nc).2.1) ((wt_mrun pn wd zs mn kn co bo ho lv so fr nd nc).2.2) ((wt_mrun pn wd zs mn kn co bo ho lv so fr nd nc).1) ((wt_mrun pn wd zs mn kn co bo ho lv so fr nd nc).2.1) ((wt_mrun pn wd zs mn kn co bo ho lv so fr nd nc).2.2) ((((wt_mrun pn wd zs mn kn co bo ho lv so fr nd nc).1) i) + lv 2 + wt_afN kn co bo (i / 5 % 5) (i % 5) (wd (i / 225)) + wt_afN kn co bo (i % 5) (wd (i / 225)) 4) ((((wt_mrun pn wd zs mn kn co bo ho lv so fr nd nc).2.1) i) + nI 1) (nI 4 * (((wt_mrun pn wd zs mn kn co bo ho lv so fr nd nc).2.2) i) + nI (wd (i / 225)))) H := hP
                      have hD : va_D A (wM cI cZ cL q kn co bo mn wd zs fp ho lv fr so ((wt_mrun pn wd zs mn kn co bo ho lv so fr nd nc).1) ((wt_mrun pn wd zs mn kn co bo ho lv so fr nd nc).2.1) ((wt_mrun pn wd zs mn kn co bo ho lv so fr nd nc).2.2) ((wt_mrun pn wd zs mn kn co bo ho lv so fr nd nc).1) ((wt_mrun pn wd zs mn kn co bo ho lv so fr nd nc).2.1) ((wt_mrun pn wd zs mn kn co bo ho lv so fr nd nc).2.2) ((((wt_mrun pn wd zs mn kn co bo ho lv so fr nd nc).1) i) + lv 2 + wt_afN kn co bo (i / 5 % 5) (i % 5) (wd (i / 225)) + wt_afN kn co bo (i % 5) (wd (i / 225)) 4) ((((wt_mrun pn wd zs mn kn co bo ho lv so fr nd nc).2.1) i) + nI 1) (nI 4 * (((wt_mrun pn wd zs mn kn co bo ho lv so fr nd nc).2.2) i) + nI (wd (i / 225)))) := hD
                      refine lv_iinc (v := nI (i + 1)) (lv' := [(1, .int (nI (i + 1))), (9, .int (nI 4 * (((wt_mrun pn wd zs mn kn co bo ho lv so fr nd nc).2.2) i) + nI (wd (i / 225)))), (8, .int ((((wt_mrun pn wd zs mn kn co bo ho lv so fr nd nc).2.1) i) + nI 1)), (7, .int ((((wt_mrun pn wd zs mn kn co bo ho lv so fr nd nc).1) i) + lv 2 + wt_afN kn co bo (i / 5 % 5) (i % 5) (wd (i / 225)) + wt_afN kn co bo (i % 5) (wd (i / 225)) 4)), (6, .int (wt_afN kn co bo (i % 5) (wd (i / 225)) 4)), (5, .int (wt_afN kn co bo (i / 5 % 5) (i % 5) (wd (i / 225)))), (4, .int (nI 1)), (3, .int (nI (wd (i / 225)))), (2, .int (nI (i / 225))), (0, .ref (q 0))]) hx hb dM_whole_253 hl (k := 9) rfl (wt_inc1 i) (by decide) rfl (fun ls hl => ?_)
                      refine lv_goto (tgt := 25) hx hb dM_whole_256 (by decide) ?_
                      exact ih25 (i + 1) ((((wt_mrun pn wd zs mn kn co bo ho lv so fr nd nc).1) i) + lv 2 + wt_afN kn co bo (i / 5 % 5) (i % 5) (wd (i / 225)) + wt_afN kn co bo (i % 5) (wd (i / 225)) 4) ((((wt_mrun pn wd zs mn kn co bo ho lv so fr nd nc).2.1) i) + nI 1) (nI 4 * (((wt_mrun pn wd zs mn kn co bo ho lv so fr nd nc).2.2) i) + nI (wd (i / 225))) (by omega) (by exact (congrArg (fun x => wt_up (fun i x => wt_wh1 wd zs kn co bo lv ((wt_mrun pn wd zs mn kn co bo ho lv so fr nd nc).1) ((wt_mrun pn wd zs mn kn co bo ho lv so fr nd nc).2.1) ((wt_mrun pn wd zs mn kn co bo ho lv so fr nd nc).2.2) i x) r (i + 1) x) (wh_yes c_3 c_7 c_13 c_14 (bet_1 c_15))).symm.trans hE) _ _ hP hD hS ls (lv_sub hl [9, 0] rfl)
                    · skip
                      refine lv_iload hx hb dM_whole_190 (lv_at hl 2 rfl) ?_
                      refine lv_aload_n hx hb dM_whole_192 rfl (lv_at hl 8 rfl) ?_
                      refine va_get (D := (dC, dI)) (ci := 5) (v := .int alx) (C := RM) (T := TM) (N := 20) hx hb ht inM hown hK hP 0 rfl rfl 17 (by decide) (ht _ m_411) (fun _ h9 => h9) rfl dM_whole_193 ?_
                      refine lv_icmp_lt (tgt := 235) hx hb dM_whole_196 (by decide) (fun c_16 => ?_) (fun c_16 => ?_)
                      · skip
                        refine lv_aload_n hx hb dM_whole_235 rfl (lv_at hl 8 rfl) ?_
                        refine lv_iload hx hb dM_whole_236 (lv_at hl 2 rfl) ?_
                        refine va_put (D := (dC, dI)) (ci := 5) (v := .int ((((wt_mrun pn wd zs mn kn co bo ho lv so fr nd nc).1) i) + lv 2 + wt_afN kn co bo (i / 5 % 5) (i % 5) (wd (i / 225)) + wt_afN kn co bo (i % 5) (wd (i / 225)) 4)) (ty := .int) (C := RM) (T := TM) (N := 20) hx hb ht inM tyM tyM_ok nmM hown hK hP hD hS 0 rfl rfl 17 (by decide) (ht _ m_411) (fun _ h9 => h9) rfl (by decide +kernel) rfl rfl (Nat.le_of_ble_eq_true rfl) dM_whole_238 (fun H locs hP hD hS => ?_)
                        have hP : va_P (dC, dI) vwCl (wM cI cZ cL q kn co bo mn wd zs fp ho lv fr so ((wt_mrun pn wd zs mn kn co bo ho lv so fr nd nc).1) ((wt_mrun pn wd zs mn kn co bo ho lv so fr nd nc).2.1) ((wt_mrun pn wd zs mn kn co bo ho lv so fr nd nc).2.2) ((wt_mrun pn wd zs mn kn co bo ho lv so fr nd nc).1) ((wt_mrun pn wd zs mn kn co bo ho lv so fr nd nc).2.1) ((wt_mrun pn wd zs mn kn co bo ho lv so fr nd nc).2.2) ((((wt_mrun pn wd zs mn kn co bo ho lv so fr nd nc).1) i) + lv 2 + wt_afN kn co bo (i / 5 % 5) (i % 5) (wd (i / 225)) + wt_afN kn co bo (i % 5) (wd (i / 225)) 4) wox whx) H := hP
                        have hD : va_D A (wM cI cZ cL q kn co bo mn wd zs fp ho lv fr so ((wt_mrun pn wd zs mn kn co bo ho lv so fr nd nc).1) ((wt_mrun pn wd zs mn kn co bo ho lv so fr nd nc).2.1) ((wt_mrun pn wd zs mn kn co bo ho lv so fr nd nc).2.2) ((wt_mrun pn wd zs mn kn co bo ho lv so fr nd nc).1) ((wt_mrun pn wd zs mn kn co bo ho lv so fr nd nc).2.1) ((wt_mrun pn wd zs mn kn co bo ho lv so fr nd nc).2.2) ((((wt_mrun pn wd zs mn kn co bo ho lv so fr nd nc).1) i) + lv 2 + wt_afN kn co bo (i / 5 % 5) (i % 5) (wd (i / 225)) + wt_afN kn co bo (i % 5) (wd (i / 225)) 4) wox whx) := hD
                        refine lv_aload_n hx hb dM_whole_241 rfl (lv_at hl 8 rfl) ?_
                        refine lv_iload hx hb dM_whole_242 (lv_at hl 1 rfl) ?_
                        refine va_put (D := (dC, dI)) (ci := 5) (v := .int ((((wt_mrun pn wd zs mn kn co bo ho lv so fr nd nc).2.1) i) + nI 1)) (ty := .int) (C := RM) (T := TM) (N := 20) hx hb ht inM tyM tyM_ok nmM hown hK hP hD hS 0 rfl rfl 18 (by decide) (ht _ m_412) (fun _ h9 => h9) rfl (by decide +kernel) rfl rfl (Nat.le_of_ble_eq_true rfl) dM_whole_244 (fun H locs hP hD hS => ?_)
                        have hP : va_P (dC, dI) vwCl (wM cI cZ cL q kn co bo mn wd zs fp ho lv fr so ((wt_mrun pn wd zs mn kn co bo ho lv so fr nd nc).1) ((wt_mrun pn wd zs mn kn co bo ho lv so fr nd nc).2.1) ((wt_mrun pn wd zs mn kn co bo ho lv so fr nd nc).2.2) ((wt_mrun pn wd zs mn kn co bo ho lv so fr nd nc).1) ((wt_mrun pn wd zs mn kn co bo ho lv so fr nd nc).2.1) ((wt_mrun pn wd zs mn kn co bo ho lv so fr nd nc).2.2) ((((wt_mrun pn wd zs mn kn co bo ho lv so fr nd nc).1) i) + lv 2 + wt_afN kn co bo (i / 5 % 5) (i % 5) (wd (i / 225)) + wt_afN kn co bo (i % 5) (wd (i / 225)) 4) ((((wt_mrun pn wd zs mn kn co bo ho lv so fr nd nc).2.1) i) + nI 1) whx) H := hP
                        have hD : va_D A (wM cI cZ cL q kn co bo mn wd zs fp ho lv fr so ((wt_mrun pn wd zs mn kn co bo ho lv so fr nd nc).1) ((wt_mrun pn wd zs mn kn co bo ho lv so fr nd nc).2.1) ((wt_mrun pn wd zs mn kn co bo ho lv so fr nd nc).2.2) ((wt_mrun pn wd zs mn kn co bo ho lv so fr nd nc).1) ((wt_mrun pn wd zs mn kn co bo ho lv so fr nd nc).2.1) ((wt_mrun pn wd zs mn kn co bo ho lv so fr nd nc).2.2) ((((wt_mrun pn wd zs mn kn co bo ho lv so fr nd nc).1) i) + lv 2 + wt_afN kn co bo (i / 5 % 5) (i % 5) (wd (i / 225)) + wt_afN kn co bo (i % 5) (wd (i / 225)) 4) ((((wt_mrun pn wd zs mn kn co bo ho lv so fr nd nc).2.1) i) + nI 1) whx) := hD
                        refine lv_aload_n hx hb dM_whole_247 rfl (lv_at hl 8 rfl) ?_
                        refine lv_iload hx hb dM_whole_248 (lv_at hl 0 rfl) ?_
                        refine va_put (D := (dC, dI)) (ci := 5) (v := .int (nI 4 * (((wt_mrun pn wd zs mn kn co bo ho lv so fr nd nc).2.2) i) + nI (wd (i / 225)))) (ty := .int) (C := RM) (T := TM) (N := 20) hx hb ht inM tyM tyM_ok nmM hown hK hP hD hS 0 rfl rfl 19 (by decide) (ht _ m_413) (fun _ h9 => h9) rfl (by decide +kernel) rfl rfl (Nat.le_of_ble_eq_true rfl) dM_whole_250 (fun H locs hP hD hS => ?_)
                        have hP : va_P (dC, dI) vwCl (wM cI cZ cL q kn co bo mn wd zs fp ho lv fr so ((wt_mrun pn wd zs mn kn co bo ho lv so fr nd nc).1) ((wt_mrun pn wd zs mn kn co bo ho lv so fr nd nc).2.1) ((wt_mrun pn wd zs mn kn co bo ho lv so fr nd nc).2.2) ((wt_mrun pn wd zs mn kn co bo ho lv so fr nd nc).1) ((wt_mrun pn wd zs mn kn co bo ho lv so fr nd nc).2.1) ((wt_mrun pn wd zs mn kn co bo ho lv so fr nd nc).2.2) ((((wt_mrun pn wd zs mn kn co bo ho lv so fr nd nc).1) i) + lv 2 + wt_afN kn co bo (i / 5 % 5) (i % 5) (wd (i / 225)) + wt_afN kn co bo (i % 5) (wd (i / 225)) 4) ((((wt_mrun pn wd zs mn kn co bo ho lv so fr nd nc).2.1) i) + nI 1) (nI 4 * (((wt_mrun pn wd zs mn kn co bo ho lv so fr nd nc).2.2) i) + nI (wd (i / 225)))) H := hP
                        have hD : va_D A (wM cI cZ cL q kn co bo mn wd zs fp ho lv fr so ((wt_mrun pn wd zs mn kn co bo ho lv so fr nd nc).1) ((wt_mrun pn wd zs mn kn co bo ho lv so fr nd nc).2.1) ((wt_mrun pn wd zs mn kn co bo ho lv so fr nd nc).2.2) ((wt_mrun pn wd zs mn kn co bo ho lv so fr nd nc).1) ((wt_mrun pn wd zs mn kn co bo ho lv so fr nd nc).2.1) ((wt_mrun pn wd zs mn kn co bo ho lv so fr nd nc).2.2) ((((wt_mrun pn wd zs mn kn co bo ho lv so fr nd nc).1) i) + lv 2 + wt_afN kn co bo (i / 5 % 5) (i % 5) (wd (i / 225)) + wt_afN kn co bo (i % 5) (wd (i / 225)) 4) ((((wt_mrun pn wd zs mn kn co bo ho lv so fr nd nc).2.1) i) + nI 1) (nI 4 * (((wt_mrun pn wd zs mn kn co bo ho lv so fr nd nc).2.2) i) + nI (wd (i / 225)))) := hD
                        refine lv_iinc (v := nI (i + 1)) (lv' := [(1, .int (nI (i + 1))), (9, .int (nI 4 * (((wt_mrun pn wd zs mn kn co bo ho lv so fr nd nc).2.2) i) + nI (wd (i / 225)))), (8, .int ((((wt_mrun pn wd zs mn kn co bo ho lv so fr nd nc).2.1) i) + nI 1)), (7, .int ((((wt_mrun pn wd zs mn kn co bo ho lv so fr nd nc).1) i) + lv 2 + wt_afN kn co bo (i / 5 % 5) (i % 5) (wd (i / 225)) + wt_afN kn co bo (i % 5) (wd (i / 225)) 4)), (6, .int (wt_afN kn co bo (i % 5) (wd (i / 225)) 4)), (5, .int (wt_afN kn co bo (i / 5 % 5) (i % 5) (wd (i / 225)))), (4, .int (nI 1)), (3, .int (nI (wd (i / 225)))), (2, .int (nI (i / 225))), (0, .ref (q 0))]) hx hb dM_whole_253 hl (k := 9) rfl (wt_inc1 i) (by decide) rfl (fun ls hl => ?_)
                        refine lv_goto (tgt := 25) hx hb dM_whole_256 (by decide) ?_
                        exact ih25 (i + 1) ((((wt_mrun pn wd zs mn kn co bo ho lv so fr nd nc).1) i) + lv 2 + wt_afN kn co bo (i / 5 % 5) (i % 5) (wd (i / 225)) + wt_afN kn co bo (i % 5) (wd (i / 225)) 4) ((((wt_mrun pn wd zs mn kn co bo ho lv so fr nd nc).2.1) i) + nI 1) (nI 4 * (((wt_mrun pn wd zs mn kn co bo ho lv so fr nd nc).2.2) i) + nI (wd (i / 225))) (by omega) (by exact (congrArg (fun x => wt_up (fun i x => wt_wh1 wd zs kn co bo lv ((wt_mrun pn wd zs mn kn co bo ho lv so fr nd nc).1) ((wt_mrun pn wd zs mn kn co bo ho lv so fr nd nc).2.1) ((wt_mrun pn wd zs mn kn co bo ho lv so fr nd nc).2.2) i x) r (i + 1) x) (wh_yes c_3 c_7 c_13 c_14 (bet_2 c_16))).symm.trans hE) _ _ hP hD hS ls (lv_sub hl [9, 0] rfl)
                      · skip
                        refine lv_iload hx hb dM_whole_199 (lv_at hl 2 rfl) ?_
                        refine lv_aload_n hx hb dM_whole_201 rfl (lv_at hl 8 rfl) ?_
                        refine va_get (D := (dC, dI)) (ci := 5) (v := .int alx) (C := RM) (T := TM) (N := 20) hx hb ht inM hown hK hP 0 rfl rfl 17 (by decide) (ht _ m_411) (fun _ h9 => h9) rfl dM_whole_202 ?_
                        refine lv_icmp_ne (tgt := 253) hx hb dM_whole_205 (by decide) (fun c_17 => ?_) (fun c_17 => ?_)
                        · skip
                          refine lv_iinc (v := nI (i + 1)) (lv' := [(1, .int (nI (i + 1))), (9, .int (nI 4 * (((wt_mrun pn wd zs mn kn co bo ho lv so fr nd nc).2.2) i) + nI (wd (i / 225)))), (8, .int ((((wt_mrun pn wd zs mn kn co bo ho lv so fr nd nc).2.1) i) + nI 1)), (7, .int ((((wt_mrun pn wd zs mn kn co bo ho lv so fr nd nc).1) i) + lv 2 + wt_afN kn co bo (i / 5 % 5) (i % 5) (wd (i / 225)) + wt_afN kn co bo (i % 5) (wd (i / 225)) 4)), (6, .int (wt_afN kn co bo (i % 5) (wd (i / 225)) 4)), (5, .int (wt_afN kn co bo (i / 5 % 5) (i % 5) (wd (i / 225)))), (4, .int (nI 1)), (3, .int (nI (wd (i / 225)))), (2, .int (nI (i / 225))), (0, .ref (q 0))]) hx hb dM_whole_253 hl (k := 9) rfl (wt_inc1 i) (by decide) rfl (fun ls hl => ?_)
                          refine lv_goto (tgt := 25) hx hb dM_whole_256 (by decide) ?_
                          exact ih25 (i + 1) alx wox whx (by omega) (by exact (congrArg (fun x => wt_up (fun i x => wt_wh1 wd zs kn co bo lv ((wt_mrun pn wd zs mn kn co bo ho lv so fr nd nc).1) ((wt_mrun pn wd zs mn kn co bo ho lv so fr nd nc).2.1) ((wt_mrun pn wd zs mn kn co bo ho lv so fr nd nc).2.2) i x) r (i + 1) x) (wh_no5 (bet_f1 c_15 c_16 c_17))).symm.trans hE) _ _ hP hD hS ls (lv_sub hl [9, 0] rfl)
                        · skip
                          refine lv_iload hx hb dM_whole_208 (lv_at hl 1 rfl) ?_
                          refine lv_aload_n hx hb dM_whole_210 rfl (lv_at hl 8 rfl) ?_
                          refine va_get (D := (dC, dI)) (ci := 5) (v := .int wox) (C := RM) (T := TM) (N := 20) hx hb ht inM hown hK hP 0 rfl rfl 18 (by decide) (ht _ m_412) (fun _ h9 => h9) rfl dM_whole_211 ?_
                          refine lv_icmp_lt (tgt := 235) hx hb dM_whole_214 (by decide) (fun c_18 => ?_) (fun c_18 => ?_)
                          · skip
                            refine lv_aload_n hx hb dM_whole_235 rfl (lv_at hl 8 rfl) ?_
                            refine lv_iload hx hb dM_whole_236 (lv_at hl 2 rfl) ?_
                            refine va_put (D := (dC, dI)) (ci := 5) (v := .int ((((wt_mrun pn wd zs mn kn co bo ho lv so fr nd nc).1) i) + lv 2 + wt_afN kn co bo (i / 5 % 5) (i % 5) (wd (i / 225)) + wt_afN kn co bo (i % 5) (wd (i / 225)) 4)) (ty := .int) (C := RM) (T := TM) (N := 20) hx hb ht inM tyM tyM_ok nmM hown hK hP hD hS 0 rfl rfl 17 (by decide) (ht _ m_411) (fun _ h9 => h9) rfl (by decide +kernel) rfl rfl (Nat.le_of_ble_eq_true rfl) dM_whole_238 (fun H locs hP hD hS => ?_)
                            have hP : va_P (dC, dI) vwCl (wM cI cZ cL q kn co bo mn wd zs fp ho lv fr so ((wt_mrun pn wd zs mn kn co bo ho lv so fr nd nc).1) ((wt_mrun pn wd zs mn kn co bo ho lv so fr nd nc).2.1) ((wt_mrun pn wd zs mn kn co bo ho lv so fr nd nc).2.2) ((wt_mrun pn wd zs mn kn co bo ho lv so fr nd nc).1) ((wt_mrun pn wd zs mn kn co bo ho lv so fr nd nc).2.1) ((wt_mrun pn wd zs mn kn co bo ho lv so fr nd nc).2.2) ((((wt_mrun pn wd zs mn kn co bo ho lv so fr nd nc).1) i) + lv 2 + wt_afN kn co bo (i / 5 % 5) (i % 5) (wd (i / 225)) + wt_afN kn co bo (i % 5) (wd (i / 225)) 4) wox whx) H := hP
                            have hD : va_D A (wM cI cZ cL q kn co bo mn wd zs fp ho lv fr so ((wt_mrun pn wd zs mn kn co bo ho lv so fr nd nc).1) ((wt_mrun pn wd zs mn kn co bo ho lv so fr nd nc).2.1) ((wt_mrun pn wd zs mn kn co bo ho lv so fr nd nc).2.2) ((wt_mrun pn wd zs mn kn co bo ho lv so fr nd nc).1) ((wt_mrun pn wd zs mn kn co bo ho lv so fr nd nc).2.1) ((wt_mrun pn wd zs mn kn co bo ho lv so fr nd nc).2.2) ((((wt_mrun pn wd zs mn kn co bo ho lv so fr nd nc).1) i) + lv 2 + wt_afN kn co bo (i / 5 % 5) (i % 5) (wd (i / 225)) + wt_afN kn co bo (i % 5) (wd (i / 225)) 4) wox whx) := hD
                            refine lv_aload_n hx hb dM_whole_241 rfl (lv_at hl 8 rfl) ?_
                            refine lv_iload hx hb dM_whole_242 (lv_at hl 1 rfl) ?_
                            refine va_put (D := (dC, dI)) (ci := 5) (v := .int ((((wt_mrun pn wd zs mn kn co bo ho lv so fr nd nc).2.1) i) + nI 1)) (ty := .int) (C := RM) (T := TM) (N := 20) hx hb ht inM tyM tyM_ok nmM hown hK hP hD hS 0 rfl rfl 18 (by decide) (ht _ m_412) (fun _ h9 => h9) rfl (by decide +kernel) rfl rfl (Nat.le_of_ble_eq_true rfl) dM_whole_244 (fun H locs hP hD hS => ?_)
                            have hP : va_P (dC, dI) vwCl (wM cI cZ cL q kn co bo mn wd zs fp ho lv fr so ((wt_mrun pn wd zs mn kn co bo ho lv so fr nd nc).1) ((wt_mrun pn wd zs mn kn co bo ho lv so fr nd nc).2.1) ((wt_mrun pn wd zs mn kn co bo ho lv so fr nd nc).2.2) ((wt_mrun pn wd zs mn kn co bo ho lv so fr nd nc).1) ((wt_mrun pn wd zs mn kn co bo ho lv so fr nd nc).2.1) ((wt_mrun pn wd zs mn kn co bo ho lv so fr nd nc).2.2) ((((wt_mrun pn wd zs mn kn co bo ho lv so fr nd nc).1) i) + lv 2 + wt_afN kn co bo (i / 5 % 5) (i % 5) (wd (i / 225)) + wt_afN kn co bo (i % 5) (wd (i / 225)) 4) ((((wt_mrun pn wd zs mn kn co bo ho lv so fr nd nc).2.1) i) + nI 1) whx) H := hP
                            have hD : va_D A (wM cI cZ cL q kn co bo mn wd zs fp ho lv fr so ((wt_mrun pn wd zs mn kn co bo ho lv so fr nd nc).1) ((wt_mrun pn wd zs mn kn co bo ho lv so fr nd nc).2.1) ((wt_mrun pn wd zs mn kn co bo ho lv so fr nd nc).2.2) ((wt_mrun pn wd zs mn kn co bo ho lv so fr nd nc).1) ((wt_mrun pn wd zs mn kn co bo ho lv so fr nd nc).2.1) ((wt_mrun pn wd zs mn kn co bo ho lv so fr nd nc).2.2) ((((wt_mrun pn wd zs mn kn co bo ho lv so fr nd nc).1) i) + lv 2 + wt_afN kn co bo (i / 5 % 5) (i % 5) (wd (i / 225)) + wt_afN kn co bo (i % 5) (wd (i / 225)) 4) ((((wt_mrun pn wd zs mn kn co bo ho lv so fr nd nc).2.1) i) + nI 1) whx) := hD
                            refine lv_aload_n hx hb dM_whole_247 rfl (lv_at hl 8 rfl) ?_
                            refine lv_iload hx hb dM_whole_248 (lv_at hl 0 rfl) ?_
                            refine va_put (D := (dC, dI)) (ci := 5) (v := .int (nI 4 * (((wt_mrun pn wd zs mn kn co bo ho lv so fr nd nc).2.2) i) + nI (wd (i / 225)))) (ty := .int) (C := RM) (T := TM) (N := 20) hx hb ht inM tyM tyM_ok nmM hown hK hP hD hS 0 rfl rfl 19 (by decide) (ht _ m_413) (fun _ h9 => h9) rfl (by decide +kernel) rfl rfl (Nat.le_of_ble_eq_true rfl) dM_whole_250 (fun H locs hP hD hS => ?_)
                            have hP : va_P (dC, dI) vwCl (wM cI cZ cL q kn co bo mn wd zs fp ho lv fr so ((wt_mrun pn wd zs mn kn co bo ho lv so fr nd nc).1) ((wt_mrun pn wd zs mn kn co bo ho lv so fr nd nc).2.1) ((wt_mrun pn wd zs mn kn co bo ho lv so fr nd nc).2.2) ((wt_mrun pn wd zs mn kn co bo ho lv so fr nd nc).1) ((wt_mrun pn wd zs mn kn co bo ho lv so fr nd nc).2.1) ((wt_mrun pn wd zs mn kn co bo ho lv so fr nd nc).2.2) ((((wt_mrun pn wd zs mn kn co bo ho lv so fr nd nc).1) i) + lv 2 + wt_afN kn co bo (i / 5 % 5) (i % 5) (wd (i / 225)) + wt_afN kn co bo (i % 5) (wd (i / 225)) 4) ((((wt_mrun pn wd zs mn kn co bo ho lv so fr nd nc).2.1) i) + nI 1) (nI 4 * (((wt_mrun pn wd zs mn kn co bo ho lv so fr nd nc).2.2) i) + nI (wd (i / 225)))) H := hP
                            have hD : va_D A (wM cI cZ cL q kn co bo mn wd zs fp ho lv fr so ((wt_mrun pn wd zs mn kn co bo ho lv so fr nd nc).1) ((wt_mrun pn wd zs mn kn co bo ho lv so fr nd nc).2.1) ((wt_mrun pn wd zs mn kn co bo ho lv so fr nd nc).2.2) ((wt_mrun pn wd zs mn kn co bo ho lv so fr nd nc).1) ((wt_mrun pn wd zs mn kn co bo ho lv so fr nd nc).2.1) ((wt_mrun pn wd zs mn kn co bo ho lv so fr nd nc).2.2) ((((wt_mrun pn wd zs mn kn co bo ho lv so fr nd nc).1) i) + lv 2 + wt_afN kn co bo (i / 5 % 5) (i % 5) (wd (i / 225)) + wt_afN kn co bo (i % 5) (wd (i / 225)) 4) ((((wt_mrun pn wd zs mn kn co bo ho lv so fr nd nc).2.1) i) + nI 1) (nI 4 * (((wt_mrun pn wd zs mn kn co bo ho lv so fr nd nc).2.2) i) + nI (wd (i / 225)))) := hD
                            refine lv_iinc (v := nI (i + 1)) (lv' := [(1, .int (nI (i + 1))), (9, .int (nI 4 * (((wt_mrun pn wd zs mn kn co bo ho lv so fr nd nc).2.2) i) + nI (wd (i / 225)))), (8, .int ((((wt_mrun pn wd zs mn kn co bo ho lv so fr nd nc).2.1) i) + nI 1)), (7, .int ((((wt_mrun pn wd zs mn kn co bo ho lv so fr nd nc).1) i) + lv 2 + wt_afN kn co bo (i / 5 % 5) (i % 5) (wd (i / 225)) + wt_afN kn co bo (i % 5) (wd (i / 225)) 4)), (6, .int (wt_afN kn co bo (i % 5) (wd (i / 225)) 4)), (5, .int (wt_afN kn co bo (i / 5 % 5) (i % 5) (wd (i / 225)))), (4, .int (nI 1)), (3, .int (nI (wd (i / 225)))), (2, .int (nI (i / 225))), (0, .ref (q 0))]) hx hb dM_whole_253 hl (k := 9) rfl (wt_inc1 i) (by decide) rfl (fun ls hl => ?_)
                            refine lv_goto (tgt := 25) hx hb dM_whole_256 (by decide) ?_
                            exact ih25 (i + 1) ((((wt_mrun pn wd zs mn kn co bo ho lv so fr nd nc).1) i) + lv 2 + wt_afN kn co bo (i / 5 % 5) (i % 5) (wd (i / 225)) + wt_afN kn co bo (i % 5) (wd (i / 225)) 4) ((((wt_mrun pn wd zs mn kn co bo ho lv so fr nd nc).2.1) i) + nI 1) (nI 4 * (((wt_mrun pn wd zs mn kn co bo ho lv so fr nd nc).2.2) i) + nI (wd (i / 225))) (by omega) (by exact (congrArg (fun x => wt_up (fun i x => wt_wh1 wd zs kn co bo lv ((wt_mrun pn wd zs mn kn co bo ho lv so fr nd nc).1) ((wt_mrun pn wd zs mn kn co bo ho lv so fr nd nc).2.1) ((wt_mrun pn wd zs mn kn co bo ho lv so fr nd nc).2.2) i x) r (i + 1) x) (wh_yes c_3 c_7 c_13 c_14 (bet_3 c_17 c_18))).symm.trans hE) _ _ hP hD hS ls (lv_sub hl [9, 0] rfl)
                          · skip
                            refine lv_iload hx hb dM_whole_217 (lv_at hl 1 rfl) ?_
                            refine lv_aload_n hx hb dM_whole_219 rfl (lv_at hl 8 rfl) ?_
                            refine va_get (D := (dC, dI)) (ci := 5) (v := .int wox) (C := RM) (T := TM) (N := 20) hx hb ht inM hown hK hP 0 rfl rfl 18 (by decide) (ht _ m_412) (fun _ h9 => h9) rfl dM_whole_220 ?_
                            refine lv_icmp_ne (tgt := 253) hx hb dM_whole_223 (by decide) (fun c_19 => ?_) (fun c_19 => ?_)
                            · skip
                              refine lv_iinc (v := nI (i + 1)) (lv' := [(1, .int (nI (i + 1))), (9, .int (nI 4 * (((wt_mrun pn wd zs mn kn co bo ho lv so fr nd nc).2.2) i) + nI (wd (i / 225)))), (8, .int ((((wt_mrun pn wd zs mn kn co bo ho lv so fr nd nc).2.1) i) + nI 1)), (7, .int ((((wt_mrun pn wd zs mn kn co bo ho lv so fr nd nc).1) i) + lv 2 + wt_afN kn co bo (i / 5 % 5) (i % 5) (wd (i / 225)) + wt_afN kn co bo (i % 5) (wd (i / 225)) 4)), (6, .int (wt_afN kn co bo (i % 5) (wd (i / 225)) 4)), (5, .int (wt_afN kn co bo (i / 5 % 5) (i % 5) (wd (i / 225)))), (4, .int (nI 1)), (3, .int (nI (wd (i / 225)))), (2, .int (nI (i / 225))), (0, .ref (q 0))]) hx hb dM_whole_253 hl (k := 9) rfl (wt_inc1 i) (by decide) rfl (fun ls hl => ?_)
                              refine lv_goto (tgt := 25) hx hb dM_whole_256 (by decide) ?_
                              exact ih25 (i + 1) alx wox whx (by omega) (by exact (congrArg (fun x => wt_up (fun i x => wt_wh1 wd zs kn co bo lv ((wt_mrun pn wd zs mn kn co bo ho lv so fr nd nc).1) ((wt_mrun pn wd zs mn kn co bo ho lv so fr nd nc).2.1) ((wt_mrun pn wd zs mn kn co bo ho lv so fr nd nc).2.2) i x) r (i + 1) x) (wh_no5 (bet_f2 c_15 c_16 c_18 c_19))).symm.trans hE) _ _ hP hD hS ls (lv_sub hl [9, 0] rfl)
                            · skip
                              refine lv_iload hx hb dM_whole_226 (lv_at hl 0 rfl) ?_
                              refine lv_aload_n hx hb dM_whole_228 rfl (lv_at hl 8 rfl) ?_
                              refine va_get (D := (dC, dI)) (ci := 5) (v := .int whx) (C := RM) (T := TM) (N := 20) hx hb ht inM hown hK hP 0 rfl rfl 19 (by decide) (ht _ m_413) (fun _ h9 => h9) rfl dM_whole_229 ?_
                              refine lv_icmp_ge (tgt := 253) hx hb dM_whole_232 (by decide) (fun c_20 => ?_) (fun c_20 => ?_)
                              · skip
                                refine lv_iinc (v := nI (i + 1)) (lv' := [(1, .int (nI (i + 1))), (9, .int (nI 4 * (((wt_mrun pn wd zs mn kn co bo ho lv so fr nd nc).2.2) i) + nI (wd (i / 225)))), (8, .int ((((wt_mrun pn wd zs mn kn co bo ho lv so fr nd nc).2.1) i) + nI 1)), (7, .int ((((wt_mrun pn wd zs mn kn co bo ho lv so fr nd nc).1) i) + lv 2 + wt_afN kn co bo (i / 5 % 5) (i % 5) (wd (i / 225)) + wt_afN kn co bo (i % 5) (wd (i / 225)) 4)), (6, .int (wt_afN kn co bo (i % 5) (wd (i / 225)) 4)), (5, .int (wt_afN kn co bo (i / 5 % 5) (i % 5) (wd (i / 225)))), (4, .int (nI 1)), (3, .int (nI (wd (i / 225)))), (2, .int (nI (i / 225))), (0, .ref (q 0))]) hx hb dM_whole_253 hl (k := 9) rfl (wt_inc1 i) (by decide) rfl (fun ls hl => ?_)
                                refine lv_goto (tgt := 25) hx hb dM_whole_256 (by decide) ?_
                                exact ih25 (i + 1) alx wox whx (by omega) (by exact (congrArg (fun x => wt_up (fun i x => wt_wh1 wd zs kn co bo lv ((wt_mrun pn wd zs mn kn co bo ho lv so fr nd nc).1) ((wt_mrun pn wd zs mn kn co bo ho lv so fr nd nc).2.1) ((wt_mrun pn wd zs mn kn co bo ho lv so fr nd nc).2.2) i x) r (i + 1) x) (wh_no5 (bet_f3 c_15 c_16 c_18 c_20))).symm.trans hE) _ _ hP hD hS ls (lv_sub hl [9, 0] rfl)
                              · skip
                                refine lv_aload_n hx hb dM_whole_235 rfl (lv_at hl 8 rfl) ?_
                                refine lv_iload hx hb dM_whole_236 (lv_at hl 2 rfl) ?_
                                refine va_put (D := (dC, dI)) (ci := 5) (v := .int ((((wt_mrun pn wd zs mn kn co bo ho lv so fr nd nc).1) i) + lv 2 + wt_afN kn co bo (i / 5 % 5) (i % 5) (wd (i / 225)) + wt_afN kn co bo (i % 5) (wd (i / 225)) 4)) (ty := .int) (C := RM) (T := TM) (N := 20) hx hb ht inM tyM tyM_ok nmM hown hK hP hD hS 0 rfl rfl 17 (by decide) (ht _ m_411) (fun _ h9 => h9) rfl (by decide +kernel) rfl rfl (Nat.le_of_ble_eq_true rfl) dM_whole_238 (fun H locs hP hD hS => ?_)
                                have hP : va_P (dC, dI) vwCl (wM cI cZ cL q kn co bo mn wd zs fp ho lv fr so ((wt_mrun pn wd zs mn kn co bo ho lv so fr nd nc).1) ((wt_mrun pn wd zs mn kn co bo ho lv so fr nd nc).2.1) ((wt_mrun pn wd zs mn kn co bo ho lv so fr nd nc).2.2) ((wt_mrun pn wd zs mn kn co bo ho lv so fr nd nc).1) ((wt_mrun pn wd zs mn kn co bo ho lv so fr nd nc).2.1) ((wt_mrun pn wd zs mn kn co bo ho lv so fr nd nc).2.2) ((((wt_mrun pn wd zs mn kn co bo ho lv so fr nd nc).1) i) + lv 2 + wt_afN kn co bo (i / 5 % 5) (i % 5) (wd (i / 225)) + wt_afN kn co bo (i % 5) (wd (i / 225)) 4) wox whx) H := hP
                                have hD : va_D A (wM cI cZ cL q kn co bo mn wd zs fp ho lv fr so ((wt_mrun pn wd zs mn kn co bo ho lv so fr nd nc).1) ((wt_mrun pn wd zs mn kn co bo ho lv so fr nd nc).2.1) ((wt_mrun pn wd zs mn kn co bo ho lv so fr nd nc).2.2) ((wt_mrun pn wd zs mn kn co bo ho lv so fr nd nc).1) ((wt_mrun pn wd zs mn kn co bo ho lv so fr nd nc).2.1) ((wt_mrun pn wd zs mn kn co bo ho lv so fr nd nc).2.2) ((((wt_mrun pn wd zs mn kn co bo ho lv so fr nd nc).1) i) + lv 2 + wt_afN kn co bo (i / 5 % 5) (i % 5) (wd (i / 225)) + wt_afN kn co bo (i % 5) (wd (i / 225)) 4) wox whx) := hD
                                refine lv_aload_n hx hb dM_whole_241 rfl (lv_at hl 8 rfl) ?_
                                refine lv_iload hx hb dM_whole_242 (lv_at hl 1 rfl) ?_
                                refine va_put (D := (dC, dI)) (ci := 5) (v := .int ((((wt_mrun pn wd zs mn kn co bo ho lv so fr nd nc).2.1) i) + nI 1)) (ty := .int) (C := RM) (T := TM) (N := 20) hx hb ht inM tyM tyM_ok nmM hown hK hP hD hS 0 rfl rfl 18 (by decide) (ht _ m_412) (fun _ h9 => h9) rfl (by decide +kernel) rfl rfl (Nat.le_of_ble_eq_true rfl) dM_whole_244 (fun H locs hP hD hS => ?_)
                                have hP : va_P (dC, dI) vwCl (wM cI cZ cL q kn co bo mn wd zs fp ho lv fr so ((wt_mrun pn wd zs mn kn co bo ho lv so fr nd nc).1) ((wt_mrun pn wd zs mn kn co bo ho lv so fr nd nc).2.1) ((wt_mrun pn wd zs mn kn co bo ho lv so fr nd nc).2.2) ((wt_mrun pn wd zs mn kn co bo ho lv so fr nd nc).1) ((wt_mrun pn wd zs mn kn co bo ho lv so fr nd nc).2.1) ((wt_mrun pn wd zs mn kn co bo ho lv so fr nd nc).2.2) ((((wt_mrun pn wd zs mn kn co bo ho lv so fr nd nc).1) i) + lv 2 + wt_afN kn co bo (i / 5 % 5) (i % 5) (wd (i / 225)) + wt_afN kn co bo (i % 5) (wd (i / 225)) 4) ((((wt_mrun pn wd zs mn kn co bo ho lv so fr nd nc).2.1) i) + nI 1) whx) H := hP
                                have hD : va_D A (wM cI cZ cL q kn co bo mn wd zs fp ho lv fr so ((wt_mrun pn wd zs mn kn co bo ho lv so fr nd nc).1) ((wt_mrun pn wd zs mn kn co bo ho lv so fr nd nc).2.1) ((wt_mrun pn wd zs mn kn co bo ho lv so fr nd nc).2.2) ((wt_mrun pn wd zs mn kn co bo ho lv so fr nd nc).1) ((wt_mrun pn wd zs mn kn co bo ho lv so fr nd nc).2.1) ((wt_mrun pn wd zs mn kn co bo ho lv so fr nd nc).2.2) ((((wt_mrun pn wd zs mn kn co bo ho lv so fr nd nc).1) i) + lv 2 + wt_afN kn co bo (i / 5 % 5) (i % 5) (wd (i / 225)) + wt_afN kn co bo (i % 5) (wd (i / 225)) 4) ((((wt_mrun pn wd zs mn kn co bo ho lv so fr nd nc).2.1) i) + nI 1) whx) := hD
                                refine lv_aload_n hx hb dM_whole_247 rfl (lv_at hl 8 rfl) ?_
                                refine lv_iload hx hb dM_whole_248 (lv_at hl 0 rfl) ?_
                                refine va_put (D := (dC, dI)) (ci := 5) (v := .int (nI 4 * (((wt_mrun pn wd zs mn kn co bo ho lv so fr nd nc).2.2) i) + nI (wd (i / 225)))) (ty := .int) (C := RM) (T := TM) (N := 20) hx hb ht inM tyM tyM_ok nmM hown hK hP hD hS 0 rfl rfl 19 (by decide) (ht _ m_413) (fun _ h9 => h9) rfl (by decide +kernel) rfl rfl (Nat.le_of_ble_eq_true rfl) dM_whole_250 (fun H locs hP hD hS => ?_)
                                have hP : va_P (dC, dI) vwCl (wM cI cZ cL q kn co bo mn wd zs fp ho lv fr so ((wt_mrun pn wd zs mn kn co bo ho lv so fr nd nc).1) ((wt_mrun pn wd zs mn kn co bo ho lv so fr nd nc).2.1) ((wt_mrun pn wd zs mn kn co bo ho lv so fr nd nc).2.2) ((wt_mrun pn wd zs mn kn co bo ho lv so fr nd nc).1) ((wt_mrun pn wd zs mn kn co bo ho lv so fr nd nc).2.1) ((wt_mrun pn wd zs mn kn co bo ho lv so fr nd nc).2.2) ((((wt_mrun pn wd zs mn kn co bo ho lv so fr nd nc).1) i) + lv 2 + wt_afN kn co bo (i / 5 % 5) (i % 5) (wd (i / 225)) + wt_afN kn co bo (i % 5) (wd (i / 225)) 4) ((((wt_mrun pn wd zs mn kn co bo ho lv so fr nd nc).2.1) i) + nI 1) (nI 4 * (((wt_mrun pn wd zs mn kn co bo ho lv so fr nd nc).2.2) i) + nI (wd (i / 225)))) H := hP
                                have hD : va_D A (wM cI cZ cL q kn co bo mn wd zs fp ho lv fr so ((wt_mrun pn wd zs mn kn co bo ho lv so fr nd nc).1) ((wt_mrun pn wd zs mn kn co bo ho lv so fr nd nc).2.1) ((wt_mrun pn wd zs mn kn co bo ho lv so fr nd nc).2.2) ((wt_mrun pn wd zs mn kn co bo ho lv so fr nd nc).1) ((wt_mrun pn wd zs mn kn co bo ho lv so fr nd nc).2.1) ((wt_mrun pn wd zs mn kn co bo ho lv so fr nd nc).2.2) ((((wt_mrun pn wd zs mn kn co bo ho lv so fr nd nc).1) i) + lv 2 + wt_afN kn co bo (i / 5 % 5) (i % 5) (wd (i / 225)) + wt_afN kn co bo (i % 5) (wd (i / 225)) 4) ((((wt_mrun pn wd zs mn kn co bo ho lv so fr nd nc).2.1) i) + nI 1) (nI 4 * (((wt_mrun pn wd zs mn kn co bo ho lv so fr nd nc).2.2) i) + nI (wd (i / 225)))) := hD
                                refine lv_iinc (v := nI (i + 1)) (lv' := [(1, .int (nI (i + 1))), (9, .int (nI 4 * (((wt_mrun pn wd zs mn kn co bo ho lv so fr nd nc).2.2) i) + nI (wd (i / 225)))), (8, .int ((((wt_mrun pn wd zs mn kn co bo ho lv so fr nd nc).2.1) i) + nI 1)), (7, .int ((((wt_mrun pn wd zs mn kn co bo ho lv so fr nd nc).1) i) + lv 2 + wt_afN kn co bo (i / 5 % 5) (i % 5) (wd (i / 225)) + wt_afN kn co bo (i % 5) (wd (i / 225)) 4)), (6, .int (wt_afN kn co bo (i % 5) (wd (i / 225)) 4)), (5, .int (wt_afN kn co bo (i / 5 % 5) (i % 5) (wd (i / 225)))), (4, .int (nI 1)), (3, .int (nI (wd (i / 225)))), (2, .int (nI (i / 225))), (0, .ref (q 0))]) hx hb dM_whole_253 hl (k := 9) rfl (wt_inc1 i) (by decide) rfl (fun ls hl => ?_)
                                refine lv_goto (tgt := 25) hx hb dM_whole_256 (by decide) ?_
                                exact ih25 (i + 1) ((((wt_mrun pn wd zs mn kn co bo ho lv so fr nd nc).1) i) + lv 2 + wt_afN kn co bo (i / 5 % 5) (i % 5) (wd (i / 225)) + wt_afN kn co bo (i % 5) (wd (i / 225)) 4) ((((wt_mrun pn wd zs mn kn co bo ho lv so fr nd nc).2.1) i) + nI 1) (nI 4 * (((wt_mrun pn wd zs mn kn co bo ho lv so fr nd nc).2.2) i) + nI (wd (i / 225))) (by omega) (by exact (congrArg (fun x => wt_up (fun i x => wt_wh1 wd zs kn co bo lv ((wt_mrun pn wd zs mn kn co bo ho lv so fr nd nc).1) ((wt_mrun pn wd zs mn kn co bo ho lv so fr nd nc).2.1) ((wt_mrun pn wd zs mn kn co bo ho lv so fr nd nc).2.2) i x) r (i + 1) x) (wh_yes c_3 c_7 c_13 c_14 (bet_4 c_17 c_19 c_20))).symm.trans hE) _ _ hP hD hS ls (lv_sub hl [9, 0] rfl)
  exact LP25 (225 * mn) 0 (-1) 0 0 (Nat.zero_add _) rfl _ _ hP hD hS ls (lv_sub hl [1, 0] rfl)

theorem wt_fc4 {x : Int32} {n : Nat} (h1 : ¬ x < nI 1) (h2 : x ≤ nI n) (hn : n ≤ 15) : 1 ≤ x.toInt ∧ x.toInt ≤ n := by
  rw [Int32.lt_iff_toInt_lt, nI_toInt (by decide)] at h1
  rw [Int32.le_iff_toInt_le, nI_toInt (by omega)] at h2
  omega

set_option maxHeartbeats 4000000 in
set_option maxRecDepth 100000 in
theorem c_M_total (l : Launch) (dC : Nat → ClassId) (dI : Nat → Nat → Nat) (cI cZ cL : ClassId) (q : Nat → Nat) (sz0 : Nat) (kn : Nat → Bool) (co : Nat → Int32) (bo : Nat → Int32) (mn : Nat) (wd : Nat → Nat) (zs : Nat → Nat) (fp : Nat → Int32) (ho : Nat → Int32) (lv : Nat → Int32) (fr : Nat) (so : Nat → Int32) (ea : Nat → Int32) (dn : Nat → Int32) (cd : Nat → Int32) (nx : Nat → Int32) (nd : Nat → Int32) (nc : Nat → Int32) (al : Int32) (wo : Int32) (wh : Int32) (pn : Nat → Nat) (hfr : fr ≤ 15) (hmn : mn ≤ 8) (hzs : ∀ k, zs k ≤ 3) (hwd : ∀ k, wd k < 4) (hz1 : ∀ k, k < mn → 1 ≤ zs k) (hfp : ∀ k i, k < mn → i < zs k → fp (3 * k + i) = nI (pn (3 * k + i)) ∧ pn (3 * k + i) < 4) : Met l yM_total (Cond.code yM_total cM_total 1 (some .int) :: tb) ({ frames := 6, cells := 0, slots := 0, locals := 149 }) (va_Pc [.ref (q 0)] (wt_rw (dC, dI) vwCl [(cI, .int), (cZ, .boolean), (cL, .long)] (wM cI cZ cL q kn co bo mn wd zs fp ho lv fr so ea dn cd nx nd nc al wo wh) sz0)) (va_Qi (fun r (_ : Unit) => r = ((wt_wh wd zs mn kn co bo lv ((wt_mrun pn wd zs mn kn co bo ho lv so fr nd nc).1) ((wt_mrun pn wd zs mn kn co bo ho lv so fr nd nc).2.1) ((wt_mrun pn wd zs mn kn co bo ho lv so fr nd nc).2.2)).1)) (wt_B (dC, dI) vwCl (va_A (wM cI cZ cL q kn co bo mn wd zs fp ho lv fr so ea dn cd nx nd nc al wo wh) sz0) (wM cI cZ cL q kn co bo mn wd zs fp ho lv fr so ((wt_mrun pn wd zs mn kn co bo ho lv so fr nd nc).1) ((wt_mrun pn wd zs mn kn co bo ho lv so fr nd nc).2.1) ((wt_mrun pn wd zs mn kn co bo ho lv so fr nd nc).2.2) ((wt_mrun pn wd zs mn kn co bo ho lv so fr nd nc).1) ((wt_mrun pn wd zs mn kn co bo ho lv so fr nd nc).2.1) ((wt_mrun pn wd zs mn kn co bo ho lv so fr nd nc).2.2) ((wt_wh wd zs mn kn co bo lv ((wt_mrun pn wd zs mn kn co bo ho lv so fr nd nc).1) ((wt_mrun pn wd zs mn kn co bo ho lv so fr nd nc).2.1) ((wt_mrun pn wd zs mn kn co bo ho lv so fr nd nc).2.2)).1) ((wt_wh wd zs mn kn co bo lv ((wt_mrun pn wd zs mn kn co bo ho lv so fr nd nc).1) ((wt_mrun pn wd zs mn kn co bo ho lv so fr nd nc).2.1) ((wt_mrun pn wd zs mn kn co bo ho lv so fr nd nc).2.2)).2.1) ((wt_wh wd zs mn kn co bo lv ((wt_mrun pn wd zs mn kn co bo ho lv so fr nd nc).1) ((wt_mrun pn wd zs mn kn co bo ho lv so fr nd nc).2.1) ((wt_mrun pn wd zs mn kn co bo ho lv so fr nd nc).2.2)).2.2))) (va_A (wM cI cZ cL q kn co bo mn wd zs fp ho lv fr so ea dn cd nx nd nc al wo wh) sz0)) 0 0 (va_A (wM cI cZ cL q kn co bo mn wd zs fp ho lv fr so ea dn cd nx nd nc al wo wh) sz0) := by
  refine Met.ofW (cc := cM_total) (maxL := 1) (ret := (some .int)) (by decide) rfl ?_
  intro p e s m args below meth c s₁ B hml hv
  obtain ⟨rfl, hsz, hP, hK, hN, hD0⟩ := hv
  have hx := B.exec
  have hb := B.bytes
  have hr := B.returns
  have hts := atoms_spec (ws := (Cond.code yM_total cM_total 1 (some .int) :: tb)) B.pre
  have ht : ∀ w ∈ tb, w.before _ s = true := fun w h => hts w (List.mem_cons_of_mem _ h)
  have hown : s.vm.findClass RM = some m.cls := findClass_of_methodNamed B.named
  have hlocks := B.notSynchronized
  subst hsz
  have hD := hD0.self (sz := s.heap.size)
  generalize hAe : va_A (wM cI cZ cL q kn co bo mn wd zs fp ho lv fr so ea dn cd nx nd nc al wo wh) s.heap.size = A at hD ⊢
  have hA : ∀ q : Nat, s.heap.size ≤ q → A q := fun q h => by rw [← hAe]; exact Or.inr h
  clear hAe hD0
  have hS : va_S A s.heap s.heap [] := va_S.rf
  have hl := lv_entry ([.ref (q 0)]) (n := 1) (Nat.le_of_ble_eq_true rfl)
  rw [lg_entry_eq]
  generalize (lg_sl ([.ref (q 0)]) ++ List.replicate (1 - (lg_sl ([.ref (q 0)])).length) Slot.unset).toArray = ls at hl ⊢
  have hl : lv_has ls 1 [(0, .ref (q 0))] := hl
  refine lv_aload_n hx hb dM_total_0 rfl (lv_at hl 0 rfl) ?_
  refine wt_rwv (va_runV (As := []) (rest := []) ⟨hx, hb, hml, hown, ht⟩ (c_M_whole l dC dI cI cZ cL q s.heap.size kn co bo mn wd zs fp ho lv fr so ea dn cd nx nd nc al wo wh pn hfr hmn hzs hwd hz1 hfp) (cwV 0 ht (good_V m_522 m_524 ms_15 m_7 m_525) rfl rfl rfl (by decide +kernel) ⟨Nat.le_of_ble_eq_true rfl, Nat.le_of_ble_eq_true rfl⟩) (wt_preVw hK hN hP hD (va_recv hK hP (ci := 5) (q0 := 0) rfl rfl)) rfl rfl hl.1 rfl (lv_room (Nat.le_of_ble_eq_true rfl)) dM_total_1 ⟨Nat.le_of_ble_eq_true rfl, Nat.le_of_ble_eq_true rfl⟩) hD hS hA (fun H locs hP hD hS => ?_)
  have hP : va_P (dC, dI) vwCl (wM cI cZ cL q kn co bo mn wd zs fp ho lv fr so ((wt_mrun pn wd zs mn kn co bo ho lv so fr nd nc).1) ((wt_mrun pn wd zs mn kn co bo ho lv so fr nd nc).2.1) ((wt_mrun pn wd zs mn kn co bo ho lv so fr nd nc).2.2) ((wt_mrun pn wd zs mn kn co bo ho lv so fr nd nc).1) ((wt_mrun pn wd zs mn kn co bo ho lv so fr nd nc).2.1) ((wt_mrun pn wd zs mn kn co bo ho lv so fr nd nc).2.2) ((wt_wh wd zs mn kn co bo lv ((wt_mrun pn wd zs mn kn co bo ho lv so fr nd nc).1) ((wt_mrun pn wd zs mn kn co bo ho lv so fr nd nc).2.1) ((wt_mrun pn wd zs mn kn co bo ho lv so fr nd nc).2.2)).1) ((wt_wh wd zs mn kn co bo lv ((wt_mrun pn wd zs mn kn co bo ho lv so fr nd nc).1) ((wt_mrun pn wd zs mn kn co bo ho lv so fr nd nc).2.1) ((wt_mrun pn wd zs mn kn co bo ho lv so fr nd nc).2.2)).2.1) ((wt_wh wd zs mn kn co bo lv ((wt_mrun pn wd zs mn kn co bo ho lv so fr nd nc).1) ((wt_mrun pn wd zs mn kn co bo ho lv so fr nd nc).2.1) ((wt_mrun pn wd zs mn kn co bo ho lv so fr nd nc).2.2)).2.2)) H := hP
  have hD : va_D A (wM cI cZ cL q kn co bo mn wd zs fp ho lv fr so ((wt_mrun pn wd zs mn kn co bo ho lv so fr nd nc).1) ((wt_mrun pn wd zs mn kn co bo ho lv so fr nd nc).2.1) ((wt_mrun pn wd zs mn kn co bo ho lv so fr nd nc).2.2) ((wt_mrun pn wd zs mn kn co bo ho lv so fr nd nc).1) ((wt_mrun pn wd zs mn kn co bo ho lv so fr nd nc).2.1) ((wt_mrun pn wd zs mn kn co bo ho lv so fr nd nc).2.2) ((wt_wh wd zs mn kn co bo lv ((wt_mrun pn wd zs mn kn co bo ho lv so fr nd nc).1) ((wt_mrun pn wd zs mn kn co bo ho lv so fr nd nc).2.1) ((wt_mrun pn wd zs mn kn co bo ho lv so fr nd nc).2.2)).1) ((wt_wh wd zs mn kn co bo lv ((wt_mrun pn wd zs mn kn co bo ho lv so fr nd nc).1) ((wt_mrun pn wd zs mn kn co bo ho lv so fr nd nc).2.1) ((wt_mrun pn wd zs mn kn co bo ho lv so fr nd nc).2.2)).2.1) ((wt_wh wd zs mn kn co bo lv ((wt_mrun pn wd zs mn kn co bo ho lv so fr nd nc).1) ((wt_mrun pn wd zs mn kn co bo ho lv so fr nd nc).2.1) ((wt_mrun pn wd zs mn kn co bo ho lv so fr nd nc).2.2)).2.2)) := hD
  refine lv_aload_n hx hb dM_total_4 rfl (lv_at hl 0 rfl) ?_
  refine va_get (D := (dC, dI)) (ci := 5) (v := .int ((wt_wh wd zs mn kn co bo lv ((wt_mrun pn wd zs mn kn co bo ho lv so fr nd nc).1) ((wt_mrun pn wd zs mn kn co bo ho lv so fr nd nc).2.1) ((wt_mrun pn wd zs mn kn co bo ho lv so fr nd nc).2.2)).1)) (C := RM) (T := TM) (N := 20) hx hb ht inM hown hK hP 0 rfl rfl 17 (by decide) (ht _ m_411) (fun _ h9 => h9) rfl dM_total_5 ?_
  have hP9 : va_P (dC, dI) vwCl (wM cI cZ cL q kn co bo mn wd zs fp ho lv fr so ((wt_mrun pn wd zs mn kn co bo ho lv so fr nd nc).1) ((wt_mrun pn wd zs mn kn co bo ho lv so fr nd nc).2.1) ((wt_mrun pn wd zs mn kn co bo ho lv so fr nd nc).2.2) ((wt_mrun pn wd zs mn kn co bo ho lv so fr nd nc).1) ((wt_mrun pn wd zs mn kn co bo ho lv so fr nd nc).2.1) ((wt_mrun pn wd zs mn kn co bo ho lv so fr nd nc).2.2) ((wt_wh wd zs mn kn co bo lv ((wt_mrun pn wd zs mn kn co bo ho lv so fr nd nc).1) ((wt_mrun pn wd zs mn kn co bo ho lv so fr nd nc).2.1) ((wt_mrun pn wd zs mn kn co bo ho lv so fr nd nc).2.2)).1) ((wt_wh wd zs mn kn co bo lv ((wt_mrun pn wd zs mn kn co bo ho lv so fr nd nc).1) ((wt_mrun pn wd zs mn kn co bo ho lv so fr nd nc).2.1) ((wt_mrun pn wd zs mn kn co bo ho lv so fr nd nc).2.2)).2.1) ((wt_wh wd zs mn kn co bo lv ((wt_mrun pn wd zs mn kn co bo ho lv so fr nd nc).1) ((wt_mrun pn wd zs mn kn co bo ho lv so fr nd nc).2.1) ((wt_mrun pn wd zs mn kn co bo ho lv so fr nd nc).2.2)).2.2)) H := by exact hP
  have hD9 : va_D A (wM cI cZ cL q kn co bo mn wd zs fp ho lv fr so ((wt_mrun pn wd zs mn kn co bo ho lv so fr nd nc).1) ((wt_mrun pn wd zs mn kn co bo ho lv so fr nd nc).2.1) ((wt_mrun pn wd zs mn kn co bo ho lv so fr nd nc).2.2) ((wt_mrun pn wd zs mn kn co bo ho lv so fr nd nc).1) ((wt_mrun pn wd zs mn kn co bo ho lv so fr nd nc).2.1) ((wt_mrun pn wd zs mn kn co bo ho lv so fr nd nc).2.2) ((wt_wh wd zs mn kn co bo lv ((wt_mrun pn wd zs mn kn co bo ho lv so fr nd nc).1) ((wt_mrun pn wd zs mn kn co bo ho lv so fr nd nc).2.1) ((wt_mrun pn wd zs mn kn co bo ho lv so fr nd nc).2.2)).1) ((wt_wh wd zs mn kn co bo lv ((wt_mrun pn wd zs mn kn co bo ho lv so fr nd nc).1) ((wt_mrun pn wd zs mn kn co bo ho lv so fr nd nc).2.1) ((wt_mrun pn wd zs mn kn co bo ho lv so fr nd nc).2.2)).2.1) ((wt_wh wd zs mn kn co bo lv ((wt_mrun pn wd zs mn kn co bo ho lv so fr nd nc).1) ((wt_mrun pn wd zs mn kn co bo ho lv so fr nd nc).2.1) ((wt_mrun pn wd zs mn kn co bo ho lv so fr nd nc).2.2)).2.2)) := by exact hD
  exact W.iret (v := (wt_wh wd zs mn kn co bo lv ((wt_mrun pn wd zs mn kn co bo ho lv so fr nd nc).1) ((wt_mrun pn wd zs mn kn co bo ho lv so fr nd nc).2.1) ((wt_mrun pn wd zs mn kn co bo ho lv so fr nd nc).2.2)).1) hx hb hr (fun t ht hW => ⟨⟨_, (), rfl, rfl, by rw [ht]; exact hP9, hD9⟩, hS.F ht⟩) hS.2.2 dM_total_8

set_option maxHeartbeats 4000000 in
set_option maxRecDepth 100000 in
theorem c_M_length (l : Launch) (dC : Nat → ClassId) (dI : Nat → Nat → Nat) (cI cZ cL : ClassId) (q : Nat → Nat) (sz0 : Nat) (kn : Nat → Bool) (co : Nat → Int32) (bo : Nat → Int32) (mn : Nat) (wd : Nat → Nat) (zs : Nat → Nat) (fp : Nat → Int32) (ho : Nat → Int32) (lv : Nat → Int32) (fr : Nat) (so : Nat → Int32) (ea : Nat → Int32) (dn : Nat → Int32) (cd : Nat → Int32) (nx : Nat → Int32) (nd : Nat → Int32) (nc : Nat → Int32) (al : Int32) (wo : Int32) (wh : Int32) (pn : Nat → Nat) (hfr : fr ≤ 15) (hmn : mn ≤ 8) (hzs : ∀ k, zs k ≤ 3) (hwd : ∀ k, wd k < 4) (hz1 : ∀ k, k < mn → 1 ≤ zs k) (hfp : ∀ k i, k < mn → i < zs k → fp (3 * k + i) = nI (pn (3 * k + i)) ∧ pn (3 * k + i) < 4) : Met l yM_length (Cond.code yM_length cM_length 1 (some .int) :: tb) ({ frames := 6, cells := 0, slots := 0, locals := 149 }) (va_Pc [.ref (q 0)] (wt_rw (dC, dI) vwCl [(cI, .int), (cZ, .boolean), (cL, .long)] (wM cI cZ cL q kn co bo mn wd zs fp ho lv fr so ea dn cd nx nd nc al wo wh) sz0)) (va_Qi (fun r (_ : Unit) => r = ((wt_wh wd zs mn kn co bo lv ((wt_mrun pn wd zs mn kn co bo ho lv so fr nd nc).1) ((wt_mrun pn wd zs mn kn co bo ho lv so fr nd nc).2.1) ((wt_mrun pn wd zs mn kn co bo ho lv so fr nd nc).2.2)).2.1)) (wt_B (dC, dI) vwCl (va_A (wM cI cZ cL q kn co bo mn wd zs fp ho lv fr so ea dn cd nx nd nc al wo wh) sz0) (wM cI cZ cL q kn co bo mn wd zs fp ho lv fr so ((wt_mrun pn wd zs mn kn co bo ho lv so fr nd nc).1) ((wt_mrun pn wd zs mn kn co bo ho lv so fr nd nc).2.1) ((wt_mrun pn wd zs mn kn co bo ho lv so fr nd nc).2.2) ((wt_mrun pn wd zs mn kn co bo ho lv so fr nd nc).1) ((wt_mrun pn wd zs mn kn co bo ho lv so fr nd nc).2.1) ((wt_mrun pn wd zs mn kn co bo ho lv so fr nd nc).2.2) ((wt_wh wd zs mn kn co bo lv ((wt_mrun pn wd zs mn kn co bo ho lv so fr nd nc).1) ((wt_mrun pn wd zs mn kn co bo ho lv so fr nd nc).2.1) ((wt_mrun pn wd zs mn kn co bo ho lv so fr nd nc).2.2)).1) ((wt_wh wd zs mn kn co bo lv ((wt_mrun pn wd zs mn kn co bo ho lv so fr nd nc).1) ((wt_mrun pn wd zs mn kn co bo ho lv so fr nd nc).2.1) ((wt_mrun pn wd zs mn kn co bo ho lv so fr nd nc).2.2)).2.1) ((wt_wh wd zs mn kn co bo lv ((wt_mrun pn wd zs mn kn co bo ho lv so fr nd nc).1) ((wt_mrun pn wd zs mn kn co bo ho lv so fr nd nc).2.1) ((wt_mrun pn wd zs mn kn co bo ho lv so fr nd nc).2.2)).2.2))) (va_A (wM cI cZ cL q kn co bo mn wd zs fp ho lv fr so ea dn cd nx nd nc al wo wh) sz0)) 0 0 (va_A (wM cI cZ cL q kn co bo mn wd zs fp ho lv fr so ea dn cd nx nd nc al wo wh) sz0) := by
  refine Met.ofW (cc := cM_length) (maxL := 1) (ret := (some .int)) (by decide) rfl ?_
  intro p e s m args below meth c s₁ B hml hv
  obtain ⟨rfl, hsz, hP, hK, hN, hD0⟩ := hv
  have hx := B.exec
  have hb := B.bytes
  have hr := B.returns
  have hts := atoms_spec (ws := (Cond.code yM_length cM_length 1 (some .int) :: tb)) B.pre
  have ht : ∀ w ∈ tb, w.before _ s = true := fun w h => hts w (List.mem_cons_of_mem _ h)
  have hown : s.vm.findClass RM = some m.cls := findClass_of_methodNamed B.named
  have hlocks := B.notSynchronized
  subst hsz
  have hD := hD0.self (sz := s.heap.size)
  generalize hAe : va_A (wM cI cZ cL q kn co bo mn wd zs fp ho lv fr so ea dn cd nx nd nc al wo wh) s.heap.size = A at hD ⊢
  have hA : ∀ q : Nat, s.heap.size ≤ q → A q := fun q h => by rw [← hAe]; exact Or.inr h
  clear hAe hD0
  have hS : va_S A s.heap s.heap [] := va_S.rf
  have hl := lv_entry ([.ref (q 0)]) (n := 1) (Nat.le_of_ble_eq_true rfl)
  rw [lg_entry_eq]
  generalize (lg_sl ([.ref (q 0)]) ++ List.replicate (1 - (lg_sl ([.ref (q 0)])).length) Slot.unset).toArray = ls at hl ⊢
  have hl : lv_has ls 1 [(0, .ref (q 0))] := hl
  refine lv_aload_n hx hb dM_length_0 rfl (lv_at hl 0 rfl) ?_
  refine wt_rwv (va_runV (As := []) (rest := []) ⟨hx, hb, hml, hown, ht⟩ (c_M_whole l dC dI cI cZ cL q s.heap.size kn co bo mn wd zs fp ho lv fr so ea dn cd nx nd nc al wo wh pn hfr hmn hzs hwd hz1 hfp) (cwV 0 ht (good_V m_522 m_524 ms_15 m_7 m_525) rfl rfl rfl (by decide +kernel) ⟨Nat.le_of_ble_eq_true rfl, Nat.le_of_ble_eq_true rfl⟩) (wt_preVw hK hN hP hD (va_recv hK hP (ci := 5) (q0 := 0) rfl rfl)) rfl rfl hl.1 rfl (lv_room (Nat.le_of_ble_eq_true rfl)) dM_length_1 ⟨Nat.le_of_ble_eq_true rfl, Nat.le_of_ble_eq_true rfl⟩) hD hS hA (fun H locs hP hD hS => ?_)
  have hP : va_P (dC, dI) vwCl (wM cI cZ cL q kn co bo mn wd zs fp ho lv fr so ((wt_mrun pn wd zs mn kn co bo ho lv so fr nd nc).1) ((wt_mrun pn wd zs mn kn co bo ho lv so fr nd nc).2.1) ((wt_mrun pn wd zs mn kn co bo ho lv so fr nd nc).2.2) ((wt_mrun pn wd zs mn kn co bo ho lv so fr nd nc).1) ((wt_mrun pn wd zs mn kn co bo ho lv so fr nd nc).2.1) ((wt_mrun pn wd zs mn kn co bo ho lv so fr nd nc).2.2) ((wt_wh wd zs mn kn co bo lv ((wt_mrun pn wd zs mn kn co bo ho lv so fr nd nc).1) ((wt_mrun pn wd zs mn kn co bo ho lv so fr nd nc).2.1) ((wt_mrun pn wd zs mn kn co bo ho lv so fr nd nc).2.2)).1) ((wt_wh wd zs mn kn co bo lv ((wt_mrun pn wd zs mn kn co bo ho lv so fr nd nc).1) ((wt_mrun pn wd zs mn kn co bo ho lv so fr nd nc).2.1) ((wt_mrun pn wd zs mn kn co bo ho lv so fr nd nc).2.2)).2.1) ((wt_wh wd zs mn kn co bo lv ((wt_mrun pn wd zs mn kn co bo ho lv so fr nd nc).1) ((wt_mrun pn wd zs mn kn co bo ho lv so fr nd nc).2.1) ((wt_mrun pn wd zs mn kn co bo ho lv so fr nd nc).2.2)).2.2)) H := hP
  have hD : va_D A (wM cI cZ cL q kn co bo mn wd zs fp ho lv fr so ((wt_mrun pn wd zs mn kn co bo ho lv so fr nd nc).1) ((wt_mrun pn wd zs mn kn co bo ho lv so fr nd nc).2.1) ((wt_mrun pn wd zs mn kn co bo ho lv so fr nd nc).2.2) ((wt_mrun pn wd zs mn kn co bo ho lv so fr nd nc).1) ((wt_mrun pn wd zs mn kn co bo ho lv so fr nd nc).2.1) ((wt_mrun pn wd zs mn kn co bo ho lv so fr nd nc).2.2) ((wt_wh wd zs mn kn co bo lv ((wt_mrun pn wd zs mn kn co bo ho lv so fr nd nc).1) ((wt_mrun pn wd zs mn kn co bo ho lv so fr nd nc).2.1) ((wt_mrun pn wd zs mn kn co bo ho lv so fr nd nc).2.2)).1) ((wt_wh wd zs mn kn co bo lv ((wt_mrun pn wd zs mn kn co bo ho lv so fr nd nc).1) ((wt_mrun pn wd zs mn kn co bo ho lv so fr nd nc).2.1) ((wt_mrun pn wd zs mn kn co bo ho lv so fr nd nc).2.2)).2.1) ((wt_wh wd zs mn kn co bo lv ((wt_mrun pn wd zs mn kn co bo ho lv so fr nd nc).1) ((wt_mrun pn wd zs mn kn co bo ho lv so fr nd nc).2.1) ((wt_mrun pn wd zs mn kn co bo ho lv so fr nd nc).2.2)).2.2)) := hD
  refine lv_aload_n hx hb dM_length_4 rfl (lv_at hl 0 rfl) ?_
  refine va_get (D := (dC, dI)) (ci := 5) (v := .int ((wt_wh wd zs mn kn co bo lv ((wt_mrun pn wd zs mn kn co bo ho lv so fr nd nc).1) ((wt_mrun pn wd zs mn kn co bo ho lv so fr nd nc).2.1) ((wt_mrun pn wd zs mn kn co bo ho lv so fr nd nc).2.2)).2.1)) (C := RM) (T := TM) (N := 20) hx hb ht inM hown hK hP 0 rfl rfl 18 (by decide) (ht _ m_412) (fun _ h9 => h9) rfl dM_length_5 ?_
  have hP9 : va_P (dC, dI) vwCl (wM cI cZ cL q kn co bo mn wd zs fp ho lv fr so ((wt_mrun pn wd zs mn kn co bo ho lv so fr nd nc).1) ((wt_mrun pn wd zs mn kn co bo ho lv so fr nd nc).2.1) ((wt_mrun pn wd zs mn kn co bo ho lv so fr nd nc).2.2) ((wt_mrun pn wd zs mn kn co bo ho lv so fr nd nc).1) ((wt_mrun pn wd zs mn kn co bo ho lv so fr nd nc).2.1) ((wt_mrun pn wd zs mn kn co bo ho lv so fr nd nc).2.2) ((wt_wh wd zs mn kn co bo lv ((wt_mrun pn wd zs mn kn co bo ho lv so fr nd nc).1) ((wt_mrun pn wd zs mn kn co bo ho lv so fr nd nc).2.1) ((wt_mrun pn wd zs mn kn co bo ho lv so fr nd nc).2.2)).1) ((wt_wh wd zs mn kn co bo lv ((wt_mrun pn wd zs mn kn co bo ho lv so fr nd nc).1) ((wt_mrun pn wd zs mn kn co bo ho lv so fr nd nc).2.1) ((wt_mrun pn wd zs mn kn co bo ho lv so fr nd nc).2.2)).2.1) ((wt_wh wd zs mn kn co bo lv ((wt_mrun pn wd zs mn kn co bo ho lv so fr nd nc).1) ((wt_mrun pn wd zs mn kn co bo ho lv so fr nd nc).2.1) ((wt_mrun pn wd zs mn kn co bo ho lv so fr nd nc).2.2)).2.2)) H := by exact hP
  have hD9 : va_D A (wM cI cZ cL q kn co bo mn wd zs fp ho lv fr so ((wt_mrun pn wd zs mn kn co bo ho lv so fr nd nc).1) ((wt_mrun pn wd zs mn kn co bo ho lv so fr nd nc).2.1) ((wt_mrun pn wd zs mn kn co bo ho lv so fr nd nc).2.2) ((wt_mrun pn wd zs mn kn co bo ho lv so fr nd nc).1) ((wt_mrun pn wd zs mn kn co bo ho lv so fr nd nc).2.1) ((wt_mrun pn wd zs mn kn co bo ho lv so fr nd nc).2.2) ((wt_wh wd zs mn kn co bo lv ((wt_mrun pn wd zs mn kn co bo ho lv so fr nd nc).1) ((wt_mrun pn wd zs mn kn co bo ho lv so fr nd nc).2.1) ((wt_mrun pn wd zs mn kn co bo ho lv so fr nd nc).2.2)).1) ((wt_wh wd zs mn kn co bo lv ((wt_mrun pn wd zs mn kn co bo ho lv so fr nd nc).1) ((wt_mrun pn wd zs mn kn co bo ho lv so fr nd nc).2.1) ((wt_mrun pn wd zs mn kn co bo ho lv so fr nd nc).2.2)).2.1) ((wt_wh wd zs mn kn co bo lv ((wt_mrun pn wd zs mn kn co bo ho lv so fr nd nc).1) ((wt_mrun pn wd zs mn kn co bo ho lv so fr nd nc).2.1) ((wt_mrun pn wd zs mn kn co bo ho lv so fr nd nc).2.2)).2.2)) := by exact hD
  exact W.iret (v := (wt_wh wd zs mn kn co bo lv ((wt_mrun pn wd zs mn kn co bo ho lv so fr nd nc).1) ((wt_mrun pn wd zs mn kn co bo ho lv so fr nd nc).2.1) ((wt_mrun pn wd zs mn kn co bo ho lv so fr nd nc).2.2)).2.1) hx hb hr (fun t ht hW => ⟨⟨_, (), rfl, rfl, by rw [ht]; exact hP9, hD9⟩, hS.F ht⟩) hS.2.2 dM_length_8

set_option maxHeartbeats 4000000 in
set_option maxRecDepth 100000 in
theorem c_M_wordAt (l : Launch) (dC : Nat → ClassId) (dI : Nat → Nat → Nat) (cI cZ cL : ClassId) (q : Nat → Nat) (sz0 : Nat) (kn : Nat → Bool) (co : Nat → Int32) (bo : Nat → Int32) (mn : Nat) (wd : Nat → Nat) (zs : Nat → Nat) (fp : Nat → Int32) (ho : Nat → Int32) (lv : Nat → Int32) (fr : Nat) (so : Nat → Int32) (ea : Nat → Int32) (dn : Nat → Int32) (cd : Nat → Int32) (nx : Nat → Int32) (nd : Nat → Int32) (nc : Nat → Int32) (al : Int32) (wo : Int32) (wh : Int32) (pn : Nat → Nat) (ix : Int32) (hfr : fr ≤ 15) (hmn : mn ≤ 8) (hzs : ∀ k, zs k ≤ 3) (hwd : ∀ k, wd k < 4) (hz1 : ∀ k, k < mn → 1 ≤ zs k) (hfp : ∀ k i, k < mn → i < zs k → fp (3 * k + i) = nI (pn (3 * k + i)) ∧ pn (3 * k + i) < 4) : Met l yM_wordAt (Cond.code yM_wordAt cM_wordAt 2 (some .int) :: tb) ({ frames := 6, cells := 0, slots := 0, locals := 149 }) (va_Pc [.ref (q 0), .int ix] (wt_rw (dC, dI) vwCl [(cI, .int), (cZ, .boolean), (cL, .long)] (wM cI cZ cL q kn co bo mn wd zs fp ho lv fr so ea dn cd nx nd nc al wo wh) sz0)) (va_Qi (fun r (_ : Unit) => r = (wt_mw (wt_wh wd zs mn kn co bo lv ((wt_mrun pn wd zs mn kn co bo ho lv so fr nd nc).1) ((wt_mrun pn wd zs mn kn co bo ho lv so fr nd nc).2.1) ((wt_mrun pn wd zs mn kn co bo ho lv so fr nd nc).2.2)).2.1 (wt_wh wd zs mn kn co bo lv ((wt_mrun pn wd zs mn kn co bo ho lv so fr nd nc).1) ((wt_mrun pn wd zs mn kn co bo ho lv so fr nd nc).2.1) ((wt_mrun pn wd zs mn kn co bo ho lv so fr nd nc).2.2)).2.2 ix)) (wt_B (dC, dI) vwCl (va_A (wM cI cZ cL q kn co bo mn wd zs fp ho lv fr so ea dn cd nx nd nc al wo wh) sz0) (wM cI cZ cL q kn co bo mn wd zs fp ho lv fr so ((wt_mrun pn wd zs mn kn co bo ho lv so fr nd nc).1) ((wt_mrun pn wd zs mn kn co bo ho lv so fr nd nc).2.1) ((wt_mrun pn wd zs mn kn co bo ho lv so fr nd nc).2.2) ((wt_mrun pn wd zs mn kn co bo ho lv so fr nd nc).1) ((wt_mrun pn wd zs mn kn co bo ho lv so fr nd nc).2.1) ((wt_mrun pn wd zs mn kn co bo ho lv so fr nd nc).2.2) ((wt_wh wd zs mn kn co bo lv ((wt_mrun pn wd zs mn kn co bo ho lv so fr nd nc).1) ((wt_mrun pn wd zs mn kn co bo ho lv so fr nd nc).2.1) ((wt_mrun pn wd zs mn kn co bo ho lv so fr nd nc).2.2)).1) ((wt_wh wd zs mn kn co bo lv ((wt_mrun pn wd zs mn kn co bo ho lv so fr nd nc).1) ((wt_mrun pn wd zs mn kn co bo ho lv so fr nd nc).2.1) ((wt_mrun pn wd zs mn kn co bo ho lv so fr nd nc).2.2)).2.1) ((wt_wh wd zs mn kn co bo lv ((wt_mrun pn wd zs mn kn co bo ho lv so fr nd nc).1) ((wt_mrun pn wd zs mn kn co bo ho lv so fr nd nc).2.1) ((wt_mrun pn wd zs mn kn co bo ho lv so fr nd nc).2.2)).2.2))) (va_A (wM cI cZ cL q kn co bo mn wd zs fp ho lv fr so ea dn cd nx nd nc al wo wh) sz0)) 0 0 (va_A (wM cI cZ cL q kn co bo mn wd zs fp ho lv fr so ea dn cd nx nd nc al wo wh) sz0) := by
  refine Met.ofW (cc := cM_wordAt) (maxL := 2) (ret := (some .int)) (by decide) rfl ?_
  intro p e s m args below meth c s₁ B hml hv
  obtain ⟨rfl, hsz, hP, hK, hN, hD0⟩ := hv
  have hx := B.exec
  have hb := B.bytes
  have hr := B.returns
  have hts := atoms_spec (ws := (Cond.code yM_wordAt cM_wordAt 2 (some .int) :: tb)) B.pre
  have ht : ∀ w ∈ tb, w.before _ s = true := fun w h => hts w (List.mem_cons_of_mem _ h)
  have hown : s.vm.findClass RM = some m.cls := findClass_of_methodNamed B.named
  have hlocks := B.notSynchronized
  subst hsz
  have hD := hD0.self (sz := s.heap.size)
  generalize hAe : va_A (wM cI cZ cL q kn co bo mn wd zs fp ho lv fr so ea dn cd nx nd nc al wo wh) s.heap.size = A at hD ⊢
  have hA : ∀ q : Nat, s.heap.size ≤ q → A q := fun q h => by rw [← hAe]; exact Or.inr h
  clear hAe hD0
  have hS : va_S A s.heap s.heap [] := va_S.rf
  have hl := lv_entry ([.ref (q 0), .int ix]) (n := 2) (Nat.le_of_ble_eq_true rfl)
  rw [lg_entry_eq]
  generalize (lg_sl ([.ref (q 0), .int ix]) ++ List.replicate (2 - (lg_sl ([.ref (q 0), .int ix])).length) Slot.unset).toArray = ls at hl ⊢
  have hl : lv_has ls 2 [(0, .ref (q 0)), (1, .int ix)] := hl
  refine lv_aload_n hx hb dM_wordAt_0 rfl (lv_at hl 0 rfl) ?_
  refine wt_rwv (va_runV (As := []) (rest := []) ⟨hx, hb, hml, hown, ht⟩ (c_M_whole l dC dI cI cZ cL q s.heap.size kn co bo mn wd zs fp ho lv fr so ea dn cd nx nd nc al wo wh pn hfr hmn hzs hwd hz1 hfp) (cwV 0 ht (good_V m_522 m_524 ms_15 m_7 m_525) rfl rfl rfl (by decide +kernel) ⟨Nat.le_of_ble_eq_true rfl, Nat.le_of_ble_eq_true rfl⟩) (wt_preVw hK hN hP hD (va_recv hK hP (ci := 5) (q0 := 0) rfl rfl)) rfl rfl hl.1 rfl (lv_room (Nat.le_of_ble_eq_true rfl)) dM_wordAt_1 ⟨Nat.le_of_ble_eq_true rfl, Nat.le_of_ble_eq_true rfl⟩) hD hS hA (fun H locs hP hD hS => ?_)
  have hP : va_P (dC, dI) vwCl (wM cI cZ cL q kn co bo mn wd zs fp ho lv fr so ((wt_mrun pn wd zs mn kn co bo ho lv so fr nd nc).1) ((wt_mrun pn wd zs mn kn co bo ho lv so fr nd nc).2.1) ((wt_mrun pn wd zs mn kn co bo ho lv so fr nd nc).2.2) ((wt_mrun pn wd zs mn kn co bo ho lv so fr nd nc).1) ((wt_mrun pn wd zs mn kn co bo ho lv so fr nd nc).2.1) ((wt_mrun pn wd zs mn kn co bo ho lv so fr nd nc).2.2) ((wt_wh wd zs mn kn co bo lv ((wt_mrun pn wd zs mn kn co bo ho lv so fr nd nc).1) ((wt_mrun pn wd zs mn kn co bo ho lv so fr nd nc).2.1) ((wt_mrun pn wd zs mn kn co bo ho lv so fr nd nc).2.2)).1) ((wt_wh wd zs mn kn co bo lv ((wt_mrun pn wd zs mn kn co bo ho lv so fr nd nc).1) ((wt_mrun pn wd zs mn kn co bo ho lv so fr nd nc).2.1) ((wt_mrun pn wd zs mn kn co bo ho lv so fr nd nc).2.2)).2.1) ((wt_wh wd zs mn kn co bo lv ((wt_mrun pn wd zs mn kn co bo ho lv so fr nd nc).1) ((wt_mrun pn wd zs mn kn co bo ho lv so fr nd nc).2.1) ((wt_mrun pn wd zs mn kn co bo ho lv so fr nd nc).2.2)).2.2)) H := hP
  have hD : va_D A (wM cI cZ cL q kn co bo mn wd zs fp ho lv fr so ((wt_mrun pn wd zs mn kn co bo ho lv so fr nd nc).1) ((wt_mrun pn wd zs mn kn co bo ho lv so fr nd nc).2.1) ((wt_mrun pn wd zs mn kn co bo ho lv so fr nd nc).2.2) ((wt_mrun pn wd zs mn kn co bo ho lv so fr nd nc).1) ((wt_mrun pn wd zs mn kn co bo ho lv so fr nd nc).2.1) ((wt_mrun pn wd zs mn kn co bo ho lv so fr nd nc).2.2) ((wt_wh wd zs mn kn co bo lv ((wt_mrun pn wd zs mn kn co bo ho lv so fr nd nc).1) ((wt_mrun pn wd zs mn kn co bo ho lv so fr nd nc).2.1) ((wt_mrun pn wd zs mn kn co bo ho lv so fr nd nc).2.2)).1) ((wt_wh wd zs mn kn co bo lv ((wt_mrun pn wd zs mn kn co bo ho lv so fr nd nc).1) ((wt_mrun pn wd zs mn kn co bo ho lv so fr nd nc).2.1) ((wt_mrun pn wd zs mn kn co bo ho lv so fr nd nc).2.2)).2.1) ((wt_wh wd zs mn kn co bo lv ((wt_mrun pn wd zs mn kn co bo ho lv so fr nd nc).1) ((wt_mrun pn wd zs mn kn co bo ho lv so fr nd nc).2.1) ((wt_mrun pn wd zs mn kn co bo ho lv so fr nd nc).2.2)).2.2)) := hD
  refine lv_iload_n hx hb dM_wordAt_4 rfl (lv_at hl 1 rfl) ?_
  refine lv_if_lt (tgt := 16) hx hb dM_wordAt_5 (by decide) (fun c_1 => ?_) (fun c_1 => ?_)
  · skip
    refine lv_iconst (v := (-1)) hx hb dM_wordAt_16 (by decide) ?_
    refine lv_goto (tgt := 37) hx hb dM_wordAt_17 (by decide) ?_
    have hP9 : va_P (dC, dI) vwCl (wM cI cZ cL q kn co bo mn wd zs fp ho lv fr so ((wt_mrun pn wd zs mn kn co bo ho lv so fr nd nc).1) ((wt_mrun pn wd zs mn kn co bo ho lv so fr nd nc).2.1) ((wt_mrun pn wd zs mn kn co bo ho lv so fr nd nc).2.2) ((wt_mrun pn wd zs mn kn co bo ho lv so fr nd nc).1) ((wt_mrun pn wd zs mn kn co bo ho lv so fr nd nc).2.1) ((wt_mrun pn wd zs mn kn co bo ho lv so fr nd nc).2.2) ((wt_wh wd zs mn kn co bo lv ((wt_mrun pn wd zs mn kn co bo ho lv so fr nd nc).1) ((wt_mrun pn wd zs mn kn co bo ho lv so fr nd nc).2.1) ((wt_mrun pn wd zs mn kn co bo ho lv so fr nd nc).2.2)).1) ((wt_wh wd zs mn kn co bo lv ((wt_mrun pn wd zs mn kn co bo ho lv so fr nd nc).1) ((wt_mrun pn wd zs mn kn co bo ho lv so fr nd nc).2.1) ((wt_mrun pn wd zs mn kn co bo ho lv so fr nd nc).2.2)).2.1) ((wt_wh wd zs mn kn co bo lv ((wt_mrun pn wd zs mn kn co bo ho lv so fr nd nc).1) ((wt_mrun pn wd zs mn kn co bo ho lv so fr nd nc).2.1) ((wt_mrun pn wd zs mn kn co bo ho lv so fr nd nc).2.2)).2.2)) H := by exact hP
    have hD9 : va_D A (wM cI cZ cL q kn co bo mn wd zs fp ho lv fr so ((wt_mrun pn wd zs mn kn co bo ho lv so fr nd nc).1) ((wt_mrun pn wd zs mn kn co bo ho lv so fr nd nc).2.1) ((wt_mrun pn wd zs mn kn co bo ho lv so fr nd nc).2.2) ((wt_mrun pn wd zs mn kn co bo ho lv so fr nd nc).1) ((wt_mrun pn wd zs mn kn co bo ho lv so fr nd nc).2.1) ((wt_mrun pn wd zs mn kn co bo ho lv so fr nd nc).2.2) ((wt_wh wd zs mn kn co bo lv ((wt_mrun pn wd zs mn kn co bo ho lv so fr nd nc).1) ((wt_mrun pn wd zs mn kn co bo ho lv so fr nd nc).2.1) ((wt_mrun pn wd zs mn kn co bo ho lv so fr nd nc).2.2)).1) ((wt_wh wd zs mn kn co bo lv ((wt_mrun pn wd zs mn kn co bo ho lv so fr nd nc).1) ((wt_mrun pn wd zs mn kn co bo ho lv so fr nd nc).2.1) ((wt_mrun pn wd zs mn kn co bo ho lv so fr nd nc).2.2)).2.1) ((wt_wh wd zs mn kn co bo lv ((wt_mrun pn wd zs mn kn co bo ho lv so fr nd nc).1) ((wt_mrun pn wd zs mn kn co bo ho lv so fr nd nc).2.1) ((wt_mrun pn wd zs mn kn co bo ho lv so fr nd nc).2.2)).2.2)) := by exact hD
    exact W.iret (v := (-1)) hx hb hr (fun t ht hW => ⟨⟨_, (), rfl, (by first | exact (if_neg (fun h => h.elim c_1 (fun q => q trivial))).symm | exact (if_pos (Or.inr trivial)).symm | exact (if_pos (Or.inl c_1)).symm), by rw [ht]; exact hP9, hD9⟩, hS.F ht⟩) hS.2.2 dM_wordAt_37
  · skip
    refine lv_iload_n hx hb dM_wordAt_8 rfl (lv_at hl 1 rfl) ?_
    refine lv_aload_n hx hb dM_wordAt_9 rfl (lv_at hl 0 rfl) ?_
    refine va_get (D := (dC, dI)) (ci := 5) (v := .int ((wt_wh wd zs mn kn co bo lv ((wt_mrun pn wd zs mn kn co bo ho lv so fr nd nc).1) ((wt_mrun pn wd zs mn kn co bo ho lv so fr nd nc).2.1) ((wt_mrun pn wd zs mn kn co bo ho lv so fr nd nc).2.2)).2.1)) (C := RM) (T := TM) (N := 20) hx hb ht inM hown hK hP 0 rfl rfl 18 (by decide) (ht _ m_412) (fun _ h9 => h9) rfl dM_wordAt_10 ?_
    refine lv_icmp_lt (tgt := 20) hx hb dM_wordAt_13 (by decide) (fun c_2 => ?_) (fun c_2 => ?_)
    · skip
      refine lv_aload_n hx hb dM_wordAt_20 rfl (lv_at hl 0 rfl) ?_
      refine va_get (D := (dC, dI)) (ci := 5) (v := .int ((wt_wh wd zs mn kn co bo lv ((wt_mrun pn wd zs mn kn co bo ho lv so fr nd nc).1) ((wt_mrun pn wd zs mn kn co bo ho lv so fr nd nc).2.1) ((wt_mrun pn wd zs mn kn co bo ho lv so fr nd nc).2.2)).2.2)) (C := RM) (T := TM) (N := 20) hx hb ht inM hown hK hP 0 rfl rfl 19 (by decide) (ht _ m_413) (fun _ h9 => h9) rfl dM_wordAt_21 ?_
      refine lv_iconst (v := nI 2) hx hb dM_wordAt_24 (by decide) ?_
      refine lv_aload_n hx hb dM_wordAt_25 rfl (lv_at hl 0 rfl) ?_
      refine va_get (D := (dC, dI)) (ci := 5) (v := .int ((wt_wh wd zs mn kn co bo lv ((wt_mrun pn wd zs mn kn co bo ho lv so fr nd nc).1) ((wt_mrun pn wd zs mn kn co bo ho lv so fr nd nc).2.1) ((wt_mrun pn wd zs mn kn co bo ho lv so fr nd nc).2.2)).2.1)) (C := RM) (T := TM) (N := 20) hx hb ht inM hown hK hP 0 rfl rfl 18 (by decide) (ht _ m_412) (fun _ h9 => h9) rfl dM_wordAt_26 ?_
      refine lv_iconst (v := nI 1) hx hb dM_wordAt_29 (by decide) ?_
      refine lv_isub hx hb dM_wordAt_30 ?_
      refine lv_iload_n hx hb dM_wordAt_31 rfl (lv_at hl 1 rfl) ?_
      refine lv_isub hx hb dM_wordAt_32 ?_
      refine lv_imul hx hb dM_wordAt_33 ?_
      refine lv_ishr hx hb dM_wordAt_34 ?_
      refine lv_iconst (v := nI 3) hx hb dM_wordAt_35 (by decide) ?_
      refine lv_iand hx hb dM_wordAt_36 ?_
      have hP9 : va_P (dC, dI) vwCl (wM cI cZ cL q kn co bo mn wd zs fp ho lv fr so ((wt_mrun pn wd zs mn kn co bo ho lv so fr nd nc).1) ((wt_mrun pn wd zs mn kn co bo ho lv so fr nd nc).2.1) ((wt_mrun pn wd zs mn kn co bo ho lv so fr nd nc).2.2) ((wt_mrun pn wd zs mn kn co bo ho lv so fr nd nc).1) ((wt_mrun pn wd zs mn kn co bo ho lv so fr nd nc).2.1) ((wt_mrun pn wd zs mn kn co bo ho lv so fr nd nc).2.2) ((wt_wh wd zs mn kn co bo lv ((wt_mrun pn wd zs mn kn co bo ho lv so fr nd nc).1) ((wt_mrun pn wd zs mn kn co bo ho lv so fr nd nc).2.1) ((wt_mrun pn wd zs mn kn co bo ho lv so fr nd nc).2.2)).1) ((wt_wh wd zs mn kn co bo lv ((wt_mrun pn wd zs mn kn co bo ho lv so fr nd nc).1) ((wt_mrun pn wd zs mn kn co bo ho lv so fr nd nc).2.1) ((wt_mrun pn wd zs mn kn co bo ho lv so fr nd nc).2.2)).2.1) ((wt_wh wd zs mn kn co bo lv ((wt_mrun pn wd zs mn kn co bo ho lv so fr nd nc).1) ((wt_mrun pn wd zs mn kn co bo ho lv so fr nd nc).2.1) ((wt_mrun pn wd zs mn kn co bo ho lv so fr nd nc).2.2)).2.2)) H := by exact hP
      have hD9 : va_D A (wM cI cZ cL q kn co bo mn wd zs fp ho lv fr so ((wt_mrun pn wd zs mn kn co bo ho lv so fr nd nc).1) ((wt_mrun pn wd zs mn kn co bo ho lv so fr nd nc).2.1) ((wt_mrun pn wd zs mn kn co bo ho lv so fr nd nc).2.2) ((wt_mrun pn wd zs mn kn co bo ho lv so fr nd nc).1) ((wt_mrun pn wd zs mn kn co bo ho lv so fr nd nc).2.1) ((wt_mrun pn wd zs mn kn co bo ho lv so fr nd nc).2.2) ((wt_wh wd zs mn kn co bo lv ((wt_mrun pn wd zs mn kn co bo ho lv so fr nd nc).1) ((wt_mrun pn wd zs mn kn co bo ho lv so fr nd nc).2.1) ((wt_mrun pn wd zs mn kn co bo ho lv so fr nd nc).2.2)).1) ((wt_wh wd zs mn kn co bo lv ((wt_mrun pn wd zs mn kn co bo ho lv so fr nd nc).1) ((wt_mrun pn wd zs mn kn co bo ho lv so fr nd nc).2.1) ((wt_mrun pn wd zs mn kn co bo ho lv so fr nd nc).2.2)).2.1) ((wt_wh wd zs mn kn co bo lv ((wt_mrun pn wd zs mn kn co bo ho lv so fr nd nc).1) ((wt_mrun pn wd zs mn kn co bo ho lv so fr nd nc).2.1) ((wt_mrun pn wd zs mn kn co bo ho lv so fr nd nc).2.2)).2.2)) := by exact hD
      exact W.iret (v := (((wt_wh wd zs mn kn co bo lv ((wt_mrun pn wd zs mn kn co bo ho lv so fr nd nc).1) ((wt_mrun pn wd zs mn kn co bo ho lv so fr nd nc).2.1) ((wt_mrun pn wd zs mn kn co bo ho lv so fr nd nc).2.2)).2.2) >>> ((nI 2 * (((wt_wh wd zs mn kn co bo lv ((wt_mrun pn wd zs mn kn co bo ho lv so fr nd nc).1) ((wt_mrun pn wd zs mn kn co bo ho lv so fr nd nc).2.1) ((wt_mrun pn wd zs mn kn co bo ho lv so fr nd nc).2.2)).2.1) - nI 1 - ix)) &&& 31)) &&& (nI 3)) hx hb hr (fun t ht hW => ⟨⟨_, (), rfl, (by first | exact (if_neg (fun h => h.elim c_1 (fun q => q c_2))).symm | exact (if_pos (Or.inr c_2)).symm | exact (if_pos (Or.inl c_1)).symm), by rw [ht]; exact hP9, hD9⟩, hS.F ht⟩) hS.2.2 dM_wordAt_37
    · skip
      refine lv_iconst (v := (-1)) hx hb dM_wordAt_16 (by decide) ?_
      refine lv_goto (tgt := 37) hx hb dM_wordAt_17 (by decide) ?_
      have hP9 : va_P (dC, dI) vwCl (wM cI cZ cL q kn co bo mn wd zs fp ho lv fr so ((wt_mrun pn wd zs mn kn co bo ho lv so fr nd nc).1) ((wt_mrun pn wd zs mn kn co bo ho lv so fr nd nc).2.1) ((wt_mrun pn wd zs mn kn co bo ho lv so fr nd nc).2.2) ((wt_mrun pn wd zs mn kn co bo ho lv so fr nd nc).1) ((wt_mrun pn wd zs mn kn co bo ho lv so fr nd nc).2.1) ((wt_mrun pn wd zs mn kn co bo ho lv so fr nd nc).2.2) ((wt_wh wd zs mn kn co bo lv ((wt_mrun pn wd zs mn kn co bo ho lv so fr nd nc).1) ((wt_mrun pn wd zs mn kn co bo ho lv so fr nd nc).2.1) ((wt_mrun pn wd zs mn kn co bo ho lv so fr nd nc).2.2)).1) ((wt_wh wd zs mn kn co bo lv ((wt_mrun pn wd zs mn kn co bo ho lv so fr nd nc).1) ((wt_mrun pn wd zs mn kn co bo ho lv so fr nd nc).2.1) ((wt_mrun pn wd zs mn kn co bo ho lv so fr nd nc).2.2)).2.1) ((wt_wh wd zs mn kn co bo lv ((wt_mrun pn wd zs mn kn co bo ho lv so fr nd nc).1) ((wt_mrun pn wd zs mn kn co bo ho lv so fr nd nc).2.1) ((wt_mrun pn wd zs mn kn co bo ho lv so fr nd nc).2.2)).2.2)) H := by exact hP
      have hD9 : va_D A (wM cI cZ cL q kn co bo mn wd zs fp ho lv fr so ((wt_mrun pn wd zs mn kn co bo ho lv so fr nd nc).1) ((wt_mrun pn wd zs mn kn co bo ho lv so fr nd nc).2.1) ((wt_mrun pn wd zs mn kn co bo ho lv so fr nd nc).2.2) ((wt_mrun pn wd zs mn kn co bo ho lv so fr nd nc).1) ((wt_mrun pn wd zs mn kn co bo ho lv so fr nd nc).2.1) ((wt_mrun pn wd zs mn kn co bo ho lv so fr nd nc).2.2) ((wt_wh wd zs mn kn co bo lv ((wt_mrun pn wd zs mn kn co bo ho lv so fr nd nc).1) ((wt_mrun pn wd zs mn kn co bo ho lv so fr nd nc).2.1) ((wt_mrun pn wd zs mn kn co bo ho lv so fr nd nc).2.2)).1) ((wt_wh wd zs mn kn co bo lv ((wt_mrun pn wd zs mn kn co bo ho lv so fr nd nc).1) ((wt_mrun pn wd zs mn kn co bo ho lv so fr nd nc).2.1) ((wt_mrun pn wd zs mn kn co bo ho lv so fr nd nc).2.2)).2.1) ((wt_wh wd zs mn kn co bo lv ((wt_mrun pn wd zs mn kn co bo ho lv so fr nd nc).1) ((wt_mrun pn wd zs mn kn co bo ho lv so fr nd nc).2.1) ((wt_mrun pn wd zs mn kn co bo ho lv so fr nd nc).2.2)).2.2)) := by exact hD
      exact W.iret (v := (-1)) hx hb hr (fun t ht hW => ⟨⟨_, (), rfl, (by first | exact (if_neg (fun h => h.elim c_1 (fun q => q c_2))).symm | exact (if_pos (Or.inr c_2)).symm | exact (if_pos (Or.inl c_1)).symm), by rw [ht]; exact hP9, hD9⟩, hS.F ht⟩) hS.2.2 dM_wordAt_37

set_option maxHeartbeats 4000000 in
set_option maxRecDepth 100000 in
theorem c_M_live_0 (l : Launch) (dC : Nat → ClassId) (dI : Nat → Nat → Nat) (cI cZ cL : ClassId) (q : Nat → Nat) (kn : Nat → Bool) (co : Nat → Int32) (bo : Nat → Int32) (mn : Nat) (wd : Nat → Nat) (zs : Nat → Nat) (fp : Nat → Int32) (ho : Nat → Int32) (lv : Nat → Int32) (fr : Nat) (so : Nat → Int32) (ea : Nat → Int32) (dn : Nat → Int32) (cd : Nat → Int32) (nx : Nat → Int32) (nd : Nat → Int32) (nc : Nat → Int32) (al : Int32) (wo : Int32) (wh : Int32) (ix : Int32) (hbad : decide (1 ≤ ix.toInt ∧ ix.toInt ≤ fr) = false) (hfr : fr ≤ 15) : Met l yM_live (Cond.code yM_live cM_live 4 (some .int) :: tb) ({ frames := 0, cells := 0, slots := 0, locals := 0 }) (va_Pc [.ref (q 0), .int ix] (wt_ro (dC, dI) vwCl [(cI, .int), (cZ, .boolean), (cL, .long)] (wM cI cZ cL q kn co bo mn wd zs fp ho lv fr so ea dn cd nx nd nc al wo wh))) (vp_Si (fun r => r = (nI 0))) 0 0 (fun _ => False) := by
  refine Met.ofW (cc := cM_live) (maxL := 4) (ret := (some .int)) (by decide) rfl ?_
  intro p e s m args below meth c s₁ B hml hv
  obtain ⟨rfl, hP, hK, hN⟩ := hv
  have hx := B.exec
  have hb := B.bytes
  have hr := B.returns
  have hts := atoms_spec (ws := (Cond.code yM_live cM_live 4 (some .int) :: tb)) B.pre
  have ht : ∀ w ∈ tb, w.before _ s = true := fun w h => hts w (List.mem_cons_of_mem _ h)
  have hown : s.vm.findClass RM = some m.cls := findClass_of_methodNamed B.named
  have hlocks := B.notSynchronized
  have hl := lv_entry ([.ref (q 0), .int ix]) (n := 4) (Nat.le_of_ble_eq_true rfl)
  rw [lg_entry_eq]
  generalize (lg_sl ([.ref (q 0), .int ix]) ++ List.replicate (4 - (lg_sl ([.ref (q 0), .int ix])).length) Slot.unset).toArray = ls at hl ⊢
  have hl : lv_has ls 4 [(0, .ref (q 0)), (1, .int ix)] := hl
  refine lv_iload_n hx hb dM_live_0 rfl (lv_at hl 1 rfl) ?_
  refine lv_iconst (v := nI 1) hx hb dM_live_1 (by decide) ?_
  refine lv_icmp_lt (tgt := 13) hx hb dM_live_2 (by decide) (fun c_1 => ?_) (fun c_1 => ?_)
  · skip
    refine lv_iconst (v := nI 0) hx hb dM_live_13 (by decide) ?_
    exact W.iret (v := nI 0) hx hb hr (fun t ht hW => ⟨_, rfl, rfl, ht⟩) (fun q h => by cases h) dM_live_14
  · skip
    refine lv_iload_n hx hb dM_live_5 rfl (lv_at hl 1 rfl) ?_
    refine lv_aload_n hx hb dM_live_6 rfl (lv_at hl 0 rfl) ?_
    refine va_get (D := (dC, dI)) (ci := 5) (v := .int (nI fr)) (C := RM) (T := TM) (N := 20) hx hb ht inM hown hK hP 0 rfl rfl 9 (by decide) (ht _ m_403) (fun _ h9 => h9) rfl dM_live_7 ?_
    refine lv_icmp_le (tgt := 15) hx hb dM_live_10 (by decide) (fun c_2 => ?_) (fun c_2 => ?_)
    · exact absurd hbad (by rw [decide_eq_true (wt_fc4 c_1 c_2 hfr)]; decide)
    · skip
      refine lv_iconst (v := nI 0) hx hb dM_live_13 (by decide) ?_
      exact W.iret (v := nI 0) hx hb hr (fun t ht hW => ⟨_, rfl, rfl, ht⟩) (fun q h => by cases h) dM_live_14

set_option maxHeartbeats 4000000 in
set_option maxRecDepth 100000 in
theorem c_M_best_0 (l : Launch) (dC : Nat → ClassId) (dI : Nat → Nat → Nat) (cI cZ cL : ClassId) (q : Nat → Nat) (kn : Nat → Bool) (co : Nat → Int32) (bo : Nat → Int32) (mn : Nat) (wd : Nat → Nat) (zs : Nat → Nat) (fp : Nat → Int32) (ho : Nat → Int32) (lv : Nat → Int32) (fr : Nat) (so : Nat → Int32) (ea : Nat → Int32) (dn : Nat → Int32) (cd : Nat → Int32) (nx : Nat → Int32) (nd : Nat → Int32) (nc : Nat → Int32) (al : Int32) (wo : Int32) (wh : Int32) (ix : Int32) (hbad : decide (1 ≤ ix.toInt ∧ ix.toInt ≤ fr) = false) (hfr : fr ≤ 15) : Met l yM_best (Cond.code yM_best cM_best 4 (some .int) :: tb) ({ frames := 0, cells := 0, slots := 0, locals := 0 }) (va_Pc [.ref (q 0), .int ix] (wt_ro (dC, dI) vwCl [(cI, .int), (cZ, .boolean), (cL, .long)] (wM cI cZ cL q kn co bo mn wd zs fp ho lv fr so ea dn cd nx nd nc al wo wh))) (vp_Si (fun r => r = (-1))) 0 0 (fun _ => False) := by
  refine Met.ofW (cc := cM_best) (maxL := 4) (ret := (some .int)) (by decide) rfl ?_
  intro p e s m args below meth c s₁ B hml hv
  obtain ⟨rfl, hP, hK, hN⟩ := hv
  have hx := B.exec
  have hb := B.bytes
  have hr := B.returns
  have hts := atoms_spec (ws := (Cond.code yM_best cM_best 4 (some .int) :: tb)) B.pre
  have ht : ∀ w ∈ tb, w.before _ s = true := fun w h => hts w (List.mem_cons_of_mem _ h)
  have hown : s.vm.findClass RM = some m.cls := findClass_of_methodNamed B.named
  have hlocks := B.notSynchronized
  have hl := lv_entry ([.ref (q 0), .int ix]) (n := 4) (Nat.le_of_ble_eq_true rfl)
  rw [lg_entry_eq]
  generalize (lg_sl ([.ref (q 0), .int ix]) ++ List.replicate (4 - (lg_sl ([.ref (q 0), .int ix])).length) Slot.unset).toArray = ls at hl ⊢
  have hl : lv_has ls 4 [(0, .ref (q 0)), (1, .int ix)] := hl
  refine lv_iload_n hx hb dM_best_0 rfl (lv_at hl 1 rfl) ?_
  refine lv_iconst (v := nI 1) hx hb dM_best_1 (by decide) ?_
  refine lv_icmp_lt (tgt := 13) hx hb dM_best_2 (by decide) (fun c_1 => ?_) (fun c_1 => ?_)
  · skip
    refine lv_iconst (v := (-1)) hx hb dM_best_13 (by decide) ?_
    exact W.iret (v := (-1)) hx hb hr (fun t ht hW => ⟨_, rfl, rfl, ht⟩) (fun q h => by cases h) dM_best_14
  · skip
    refine lv_iload_n hx hb dM_best_5 rfl (lv_at hl 1 rfl) ?_
    refine lv_aload_n hx hb dM_best_6 rfl (lv_at hl 0 rfl) ?_
    refine va_get (D := (dC, dI)) (ci := 5) (v := .int (nI fr)) (C := RM) (T := TM) (N := 20) hx hb ht inM hown hK hP 0 rfl rfl 9 (by decide) (ht _ m_403) (fun _ h9 => h9) rfl dM_best_7 ?_
    refine lv_icmp_le (tgt := 15) hx hb dM_best_10 (by decide) (fun c_2 => ?_) (fun c_2 => ?_)
    · exact absurd hbad (by rw [decide_eq_true (wt_fc4 c_1 c_2 hfr)]; decide)
    · skip
      refine lv_iconst (v := (-1)) hx hb dM_best_13 (by decide) ?_
      exact W.iret (v := (-1)) hx hb hr (fun t ht hW => ⟨_, rfl, rfl, ht⟩) (fun q h => by cases h) dM_best_14

set_option maxHeartbeats 4000000 in
set_option maxRecDepth 100000 in
theorem c_M_live_1 (l : Launch) (dC : Nat → ClassId) (dI : Nat → Nat → Nat) (cI cZ cL : ClassId) (q : Nat → Nat) (sz0 : Nat) (kn : Nat → Bool) (co : Nat → Int32) (bo : Nat → Int32) (mn : Nat) (wd : Nat → Nat) (zs : Nat → Nat) (fp : Nat → Int32) (ho : Nat → Int32) (lv : Nat → Int32) (fr : Nat) (so : Nat → Int32) (ea : Nat → Int32) (dn : Nat → Int32) (cd : Nat → Int32) (nx : Nat → Int32) (nd : Nat → Int32) (nc : Nat → Int32) (al : Int32) (wo : Int32) (wh : Int32) (pn : Nat → Nat) (nn : Nat) (h1n : 1 ≤ nn) (hnf : nn ≤ fr) (hfr : fr ≤ 15) (hmn : mn ≤ 8) (hzs : ∀ k, zs k ≤ 3) (hwd : ∀ k, wd k < 4) (hz1 : ∀ k, k < mn → 1 ≤ zs k) (hfp : ∀ k i, k < mn → i < zs k → fp (3 * k + i) = nI (pn (3 * k + i)) ∧ pn (3 * k + i) < 4) : Met l yM_live (Cond.code yM_live cM_live 4 (some .int) :: tb) ({ frames := 5, cells := 0, slots := 0, locals := 120 }) (va_Pc [.ref (q 0), .int (nI nn)] (wt_rw (dC, dI) vwCl [(cI, .int), (cZ, .boolean), (cL, .long)] (wM cI cZ cL q kn co bo mn wd zs fp ho lv fr so ea dn cd nx nd nc al wo wh) sz0)) (va_Qi (fun r (_ : Unit) => r = (nI (wt_live zs mn fp ((wt_mrun pn wd zs mn kn co bo ho lv so nn nd nc).1)))) (wt_B (dC, dI) vwCl (va_A (wM cI cZ cL q kn co bo mn wd zs fp ho lv fr so ea dn cd nx nd nc al wo wh) sz0) (wM cI cZ cL q kn co bo mn wd zs fp ho lv fr so ((wt_mrun pn wd zs mn kn co bo ho lv so nn nd nc).1) ((wt_mrun pn wd zs mn kn co bo ho lv so nn nd nc).2.1) ((wt_mrun pn wd zs mn kn co bo ho lv so nn nd nc).2.2) ((wt_mrun pn wd zs mn kn co bo ho lv so nn nd nc).1) ((wt_mrun pn wd zs mn kn co bo ho lv so nn nd nc).2.1) ((wt_mrun pn wd zs mn kn co bo ho lv so nn nd nc).2.2) al wo wh)) (va_A (wM cI cZ cL q kn co bo mn wd zs fp ho lv fr so ea dn cd nx nd nc al wo wh) sz0)) 0 0 (va_A (wM cI cZ cL q kn co bo mn wd zs fp ho lv fr so ea dn cd nx nd nc al wo wh) sz0) := by
  refine Met.ofW (cc := cM_live) (maxL := 4) (ret := (some .int)) (by decide) rfl ?_
  intro p e s m args below meth c s₁ B hml hv
  obtain ⟨rfl, hsz, hP, hK, hN, hD0⟩ := hv
  have hx := B.exec
  have hb := B.bytes
  have hr := B.returns
  have hts := atoms_spec (ws := (Cond.code yM_live cM_live 4 (some .int) :: tb)) B.pre
  have ht : ∀ w ∈ tb, w.before _ s = true := fun w h => hts w (List.mem_cons_of_mem _ h)
  have hown : s.vm.findClass RM = some m.cls := findClass_of_methodNamed B.named
  have hlocks := B.notSynchronized
  subst hsz
  have hD := hD0.self (sz := s.heap.size)
  generalize hAe : va_A (wM cI cZ cL q kn co bo mn wd zs fp ho lv fr so ea dn cd nx nd nc al wo wh) s.heap.size = A at hD ⊢
  have hA : ∀ q : Nat, s.heap.size ≤ q → A q := fun q h => by rw [← hAe]; exact Or.inr h
  clear hAe hD0
  have hS : va_S A s.heap s.heap [] := va_S.rf
  have hl := lv_entry ([.ref (q 0), .int (nI nn)]) (n := 4) (Nat.le_of_ble_eq_true rfl)
  rw [lg_entry_eq]
  generalize (lg_sl ([.ref (q 0), .int (nI nn)]) ++ List.replicate (4 - (lg_sl ([.ref (q 0), .int (nI nn)])).length) Slot.unset).toArray = ls at hl ⊢
  have hl : lv_has ls 4 [(0, .ref (q 0)), (1, .int (nI nn))] := hl
  refine lv_iload_n hx hb dM_live_0 rfl (lv_at hl 1 rfl) ?_
  refine lv_iconst (v := nI 1) hx hb dM_live_1 (by decide) ?_
  refine wt_icmp_lt (tgt := 13) hx hb dM_live_2 (by decide) (by omega) (by omega) (fun c_1 => ?_) (fun c_1 => ?_)
  · exact absurd c_1 (by omega)
  · skip
    refine lv_iload_n hx hb dM_live_5 rfl (lv_at hl 1 rfl) ?_
    refine lv_aload_n hx hb dM_live_6 rfl (lv_at hl 0 rfl) ?_
    refine va_get (D := (dC, dI)) (ci := 5) (v := .int (nI fr)) (C := RM) (T := TM) (N := 20) hx hb ht inM hown hK hP 0 rfl rfl 9 (by decide) (ht _ m_403) (fun _ h9 => h9) rfl dM_live_7 ?_
    refine wt_icmp_le (tgt := 15) hx hb dM_live_10 (by decide) (by omega) (by omega) (fun c_2 => ?_) (fun c_2 => ?_)
    · skip
      refine lv_aload_n hx hb dM_live_15 rfl (lv_at hl 0 rfl) ?_
      refine lv_iload_n hx hb dM_live_16 rfl (lv_at hl 1 rfl) ?_
      refine wt_rwv (va_runV (As := [.int (nI nn)]) (rest := []) ⟨hx, hb, hml, hown, ht⟩ (c_M_run l dC dI cI cZ cL q s.heap.size kn co bo mn wd zs fp ho lv fr so ea dn cd nx nd nc al wo wh pn nn (by omega) hmn hzs hwd hz1 hfp) (cwV 1 ht (good_V m_526 m_528 ms_16 m_7 m_529) rfl rfl rfl (by decide +kernel) ⟨Nat.le_of_ble_eq_true rfl, Nat.le_of_ble_eq_true rfl⟩) (wt_preVw hK hN hP hD (va_recv hK hP (ci := 5) (q0 := 0) rfl rfl)) rfl rfl hl.1 rfl (lv_room (Nat.le_of_ble_eq_true rfl)) dM_live_17 ⟨Nat.le_of_ble_eq_true rfl, Nat.le_of_ble_eq_true rfl⟩) hD hS hA (fun H locs hP hD hS => ?_)
      have hP : va_P (dC, dI) vwCl (wM cI cZ cL q kn co bo mn wd zs fp ho lv fr so ((wt_mrun pn wd zs mn kn co bo ho lv so nn nd nc).1) ((wt_mrun pn wd zs mn kn co bo ho lv so nn nd nc).2.1) ((wt_mrun pn wd zs mn kn co bo ho lv so nn nd nc).2.2) ((wt_mrun pn wd zs mn kn co bo ho lv so nn nd nc).1) ((wt_mrun pn wd zs mn kn co bo ho lv so nn nd nc).2.1) ((wt_mrun pn wd zs mn kn co bo ho lv so nn nd nc).2.2) al wo wh) H := hP
      have hD : va_D A (wM cI cZ cL q kn co bo mn wd zs fp ho lv fr so ((wt_mrun pn wd zs mn kn co bo ho lv so nn nd nc).1) ((wt_mrun pn wd zs mn kn co bo ho lv so nn nd nc).2.1) ((wt_mrun pn wd zs mn kn co bo ho lv so nn nd nc).2.2) ((wt_mrun pn wd zs mn kn co bo ho lv so nn nd nc).1) ((wt_mrun pn wd zs mn kn co bo ho lv so nn nd nc).2.1) ((wt_mrun pn wd zs mn kn co bo ho lv so nn nd nc).2.2) al wo wh) := hD
      refine lv_iconst (v := nI 0) hx hb dM_live_20 (by decide) ?_
      refine lv_istore_n (lv' := [(2, .int (nI 0)), (0, .ref (q 0)), (1, .int (nI nn))]) hx hb dM_live_21 rfl hl (by decide) rfl (fun ls hl => ?_)
      refine lv_iconst (v := nI 0) hx hb dM_live_22 (by decide) ?_
      refine lv_istore_n (lv' := [(3, .int (nI 0)), (2, .int (nI 0)), (0, .ref (q 0)), (1, .int (nI nn))]) hx hb dM_live_23 rfl hl (by decide) rfl (fun ls hl => ?_)
      have LP24 : ∀ (r : Nat) (i : Nat) (fo : Nat) (hi : i + r = 225 * mn) (hE : wt_up (fun i n => wt_lv1 zs fp ((wt_mrun pn wd zs mn kn co bo ho lv so nn nd nc).1) i n) r i fo = wt_live zs mn fp ((wt_mrun pn wd zs mn kn co bo ho lv so nn nd nc).1)) (H : Heap) (locs : List Loc) (hP : va_P (dC, dI) vwCl (wM cI cZ cL q kn co bo mn wd zs fp ho lv fr so ((wt_mrun pn wd zs mn kn co bo ho lv so nn nd nc).1) ((wt_mrun pn wd zs mn kn co bo ho lv so nn nd nc).2.1) ((wt_mrun pn wd zs mn kn co bo ho lv so nn nd nc).2.2) ((wt_mrun pn wd zs mn kn co bo ho lv so nn nd nc).1) ((wt_mrun pn wd zs mn kn co bo ho lv so nn nd nc).2.1) ((wt_mrun pn wd zs mn kn co bo ho lv so nn nd nc).2.2) al wo wh) H) (hD : va_D A (wM cI cZ cL q kn co bo mn wd zs fp ho lv fr so ((wt_mrun pn wd zs mn kn co bo ho lv so nn nd nc).1) ((wt_mrun pn wd zs mn kn co bo ho lv so nn nd nc).2.1) ((wt_mrun pn wd zs mn kn co bo ho lv so nn nd nc).2.2) ((wt_mrun pn wd zs mn kn co bo ho lv so nn nd nc).1) ((wt_mrun pn wd zs mn kn co bo ho lv so nn nd nc).2.1) ((wt_mrun pn wd zs mn kn co bo ho lv so nn nd nc).2.2) al wo wh)) (hS : va_S A s.heap H locs) (ls : Array Slot) (hl : lv_has ls 4 [(0, .ref (q 0)), (2, .int (nI fo)), (3, .int (nI i))]), W p l e (headSpec (Cond.code yM_live cM_live 4 (some .int) :: tb) ({ frames := 5, cells := 0, slots := 0, locals := 120 })).room s m ([.ref (q 0), .int (nI nn)] : List Value).toArray below meth c H locs 0 0 (MQ below (va_Qi (fun r (_ : Unit) => r = (nI (wt_live zs mn fp ((wt_mrun pn wd zs mn kn co bo ho lv so nn nd nc).1)))) (wt_B (dC, dI) vwCl A (wM cI cZ cL q kn co bo mn wd zs fp ho lv fr so ((wt_mrun pn wd zs mn kn co bo ho lv so nn nd nc).1) ((wt_mrun pn wd zs mn kn co bo ho lv so nn nd nc).2.1) ((wt_mrun pn wd zs mn kn co bo ho lv so nn nd nc).2.2) ((wt_mrun pn wd zs mn kn co bo ho lv so nn nd nc).1) ((wt_mrun pn wd zs mn kn co bo ho lv so nn nd nc).2.1) ((wt_mrun pn wd zs mn kn co bo ho lv so nn nd nc).2.2) al wo wh)) A) ([.ref (q 0), .int (nI nn)] : List Value).toArray s 0 0 A) (F0 m 24 ls []) := by
        intro r
        induction r with
        | zero =>
          intro i fo hi hE H locs hP hD hS ls hl
          have hl : lv_has ls 4 [(0, .ref (q 0)), (2, .int (nI fo)), (3, .int (nI i))] := hl
          refine lv_iload_n hx hb dM_live_24 rfl (lv_at hl 2 rfl) ?_
          refine lv_sipush (v := nI 225) hx hb dM_live_25 (by decide) ?_
          refine lv_aload_n hx hb dM_live_28 rfl (lv_at hl 0 rfl) ?_
          refine va_get (D := (dC, dI)) (ci := 5) (v := .int (nI mn)) (C := RM) (T := TM) (N := 20) hx hb ht inM hown hK hP 0 rfl rfl 3 (by decide) (ht _ m_397) (fun _ h9 => h9) rfl dM_live_29 ?_
          refine wt_imul hx hb dM_live_32 ?_
          refine wt_icmp_ge (tgt := 82) hx hb dM_live_33 (by decide) (by omega) (by omega) (fun c_3 => ?_) (fun c_3 => ?_)
          · skip
            refine lv_iload_n hx hb dM_live_82 rfl (lv_at hl 1 rfl) ?_
            have hP9 : va_P (dC, dI) vwCl (wM cI cZ cL q kn co bo mn wd zs fp ho lv fr so ((wt_mrun pn wd zs mn kn co bo ho lv so nn nd nc).1) ((wt_mrun pn wd zs mn kn co bo ho lv so nn nd nc).2.1) ((wt_mrun pn wd zs mn kn co bo ho lv so nn nd nc).2.2) ((wt_mrun pn wd zs mn kn co bo ho lv so nn nd nc).1) ((wt_mrun pn wd zs mn kn co bo ho lv so nn nd nc).2.1) ((wt_mrun pn wd zs mn kn co bo ho lv so nn nd nc).2.2) al wo wh) H := by exact hP
            have hD9 : va_D A (wM cI cZ cL q kn co bo mn wd zs fp ho lv fr so ((wt_mrun pn wd zs mn kn co bo ho lv so nn nd nc).1) ((wt_mrun pn wd zs mn kn co bo ho lv so nn nd nc).2.1) ((wt_mrun pn wd zs mn kn co bo ho lv so nn nd nc).2.2) ((wt_mrun pn wd zs mn kn co bo ho lv so nn nd nc).1) ((wt_mrun pn wd zs mn kn co bo ho lv so nn nd nc).2.1) ((wt_mrun pn wd zs mn kn co bo ho lv so nn nd nc).2.2) al wo wh) := by exact hD
            exact W.iret (v := nI fo) hx hb hr (fun t ht hW => ⟨⟨_, (), rfl, (congrArg nI hE), by rw [ht]; exact hP9, hD9⟩, hS.F ht⟩) hS.2.2 dM_live_83
          · first | exact absurd c_3 (by omega) | exact absurd c_3 (by decide) | exact absurd (by decide) c_3
        | succ r ih24 =>
          intro i fo hi hE H locs hP hD hS ls hl
          have hl : lv_has ls 4 [(0, .ref (q 0)), (2, .int (nI fo)), (3, .int (nI i))] := hl
          refine lv_iload_n hx hb dM_live_24 rfl (lv_at hl 2 rfl) ?_
          refine lv_sipush (v := nI 225) hx hb dM_live_25 (by decide) ?_
          refine lv_aload_n hx hb dM_live_28 rfl (lv_at hl 0 rfl) ?_
          refine va_get (D := (dC, dI)) (ci := 5) (v := .int (nI mn)) (C := RM) (T := TM) (N := 20) hx hb ht inM hown hK hP 0 rfl rfl 3 (by decide) (ht _ m_397) (fun _ h9 => h9) rfl dM_live_29 ?_
          refine wt_imul hx hb dM_live_32 ?_
          refine wt_icmp_ge (tgt := 82) hx hb dM_live_33 (by decide) (by omega) (by omega) (fun c_4 => ?_) (fun c_4 => ?_)
          · first | exact absurd c_4 (by omega) | exact absurd c_4 (by decide) | exact absurd (by decide) c_4
          · skip
            refine lv_aload_n hx hb dM_live_36 rfl (lv_at hl 0 rfl) ?_
            refine va_get (D := (dC, dI)) (ci := 5) (v := .ref (q 10)) (C := RM) (T := TM) (N := 20) hx hb ht inM hown hK hP 0 rfl rfl 11 (by decide) (ht _ m_405) (fun _ h9 => h9) rfl dM_live_37 ?_
            refine lv_iload_n hx hb dM_live_40 rfl (lv_at hl 2 rfl) ?_
            refine wt_iald hx hb hK hP 10 0 rfl rfl (k := i) (by omega) (by decide) dM_live_41 ?_
            refine lv_if_lt (tgt := 74) hx hb dM_live_42 (by decide) (fun c_5 => ?_) (fun c_5 => ?_)
            · skip
              refine lv_iload_n hx hb dM_live_74 rfl (lv_at hl 1 rfl) ?_
              refine lv_istore_n (lv' := [(2, .int (nI fo)), (0, .ref (q 0)), (3, .int (nI i))]) hx hb dM_live_75 rfl hl (by decide) rfl (fun ls hl => ?_)
              refine lv_iinc (v := nI (i + 1)) (lv' := [(3, .int (nI (i + 1))), (2, .int (nI fo)), (0, .ref (q 0))]) hx hb dM_live_76 hl (k := 2) rfl (wt_inc1 i) (by decide) rfl (fun ls hl => ?_)
              refine lv_goto (tgt := 24) hx hb dM_live_79 (by decide) ?_
              exact ih24 (i + 1) fo (by omega) (by exact (congrArg (fun x => wt_up (fun i n => wt_lv1 zs fp ((wt_mrun pn wd zs mn kn co bo ho lv so nn nd nc).1) i n) r (i + 1) x) (if_neg (fun q => absurd q.1 (Int32.not_le.mpr c_5)))).symm.trans hE) _ _ hP hD hS ls (lv_sub hl [2, 1, 0] rfl)
            · skip
              refine lv_aload_n hx hb dM_live_45 rfl (lv_at hl 0 rfl) ?_
              refine lv_iload_n hx hb dM_live_46 rfl (lv_at hl 2 rfl) ?_
              refine lv_sipush (v := nI 225) hx hb dM_live_47 (by decide) ?_
              refine wt_idiv hx hb dM_live_50 (by omega) (by decide) (by decide) ?_
              refine lv_iload_n hx hb dM_live_51 rfl (lv_at hl 2 rfl) ?_
              refine lv_bipush (v := nI 25) hx hb dM_live_52 (by decide) ?_
              refine wt_idiv hx hb dM_live_54 (by omega) (by decide) (by decide) ?_
              refine lv_bipush (v := nI 9) hx hb dM_live_55 (by decide) ?_
              refine wt_irem hx hb dM_live_57 (by omega) (by decide) (by decide) ?_
              refine lv_iconst (v := nI 3) hx hb dM_live_58 (by decide) ?_
              refine wt_idiv hx hb dM_live_59 (by omega) (by decide) (by decide) ?_
              refine lv_iconst (v := nI 1) hx hb dM_live_60 (by decide) ?_
              refine wt_iadd hx hb dM_live_61 ?_
              refine wt_roi (va_runV (As := [.int (nI (i / 225)), .int (nI (i / 25 % 9 / 3 + 1))]) (rest := []) ⟨hx, hb, hml, hown, ht⟩ (c_M_fresh l dC dI cI cZ cL q kn co bo mn wd zs fp ho lv fr so ((wt_mrun pn wd zs mn kn co bo ho lv so nn nd nc).1) ((wt_mrun pn wd zs mn kn co bo ho lv so nn nd nc).2.1) ((wt_mrun pn wd zs mn kn co bo ho lv so nn nd nc).2.2) ((wt_mrun pn wd zs mn kn co bo ho lv so nn nd nc).1) ((wt_mrun pn wd zs mn kn co bo ho lv so nn nd nc).2.1) ((wt_mrun pn wd zs mn kn co bo ho lv so nn nd nc).2.2) al wo wh (i / 225) (i / 25 % 9 / 3 + 1) (by omega) (by omega) hzs) (cwV 2 ht (good_V m_459 m_461 ms_11 m_7 m_462) rfl rfl rfl (by decide +kernel) ⟨Nat.le_of_ble_eq_true rfl, Nat.le_of_ble_eq_true rfl⟩) (wt_preV hK hN hP (va_recv hK hP (ci := 5) (q0 := 0) rfl rfl)) rfl rfl hl.1 rfl (lv_room (Nat.le_of_ble_eq_true rfl)) dM_live_62 ⟨Nat.le_of_ble_eq_true rfl, Nat.le_of_ble_eq_true rfl⟩) ?_
              refine wt_bif_eq (tgt := 74) hx hb dM_live_65 (by decide) (fun c_6 => ?_) (fun c_6 => ?_)
              · skip
                refine lv_iload_n hx hb dM_live_74 rfl (lv_at hl 1 rfl) ?_
                refine lv_istore_n (lv' := [(2, .int (nI fo)), (0, .ref (q 0)), (3, .int (nI i))]) hx hb dM_live_75 rfl hl (by decide) rfl (fun ls hl => ?_)
                refine lv_iinc (v := nI (i + 1)) (lv' := [(3, .int (nI (i + 1))), (2, .int (nI fo)), (0, .ref (q 0))]) hx hb dM_live_76 hl (k := 2) rfl (wt_inc1 i) (by decide) rfl (fun ls hl => ?_)
                refine lv_goto (tgt := 24) hx hb dM_live_79 (by decide) ?_
                exact ih24 (i + 1) fo (by omega) (by exact (congrArg (fun x => wt_up (fun i n => wt_lv1 zs fp ((wt_mrun pn wd zs mn kn co bo ho lv so nn nd nc).1) i n) r (i + 1) x) (if_neg (fun q => absurd (q.2.symm.trans c_6) (by decide)))).symm.trans hE) _ _ hP hD hS ls (lv_sub hl [2, 1, 0] rfl)
              · skip
                refine lv_iload_n hx hb dM_live_68 rfl (lv_at hl 1 rfl) ?_
                refine lv_iconst (v := nI 1) hx hb dM_live_69 (by decide) ?_
                refine wt_iadd hx hb dM_live_70 ?_
                refine lv_goto (tgt := 75) hx hb dM_live_71 (by decide) ?_
                refine lv_istore_n (lv' := [(2, .int (nI (fo + 1))), (0, .ref (q 0)), (3, .int (nI i))]) hx hb dM_live_75 rfl hl (by decide) rfl (fun ls hl => ?_)
                refine lv_iinc (v := nI (i + 1)) (lv' := [(3, .int (nI (i + 1))), (2, .int (nI (fo + 1))), (0, .ref (q 0))]) hx hb dM_live_76 hl (k := 2) rfl (wt_inc1 i) (by decide) rfl (fun ls hl => ?_)
                refine lv_goto (tgt := 24) hx hb dM_live_79 (by decide) ?_
                exact ih24 (i + 1) (fo + 1) (by omega) (by exact (congrArg (fun x => wt_up (fun i n => wt_lv1 zs fp ((wt_mrun pn wd zs mn kn co bo ho lv so nn nd nc).1) i n) r (i + 1) x) (if_pos ⟨Int32.not_lt.mp c_5, c_6⟩)).symm.trans hE) _ _ hP hD hS ls (lv_sub hl [2, 1, 0] rfl)
      exact LP24 (225 * mn) 0 0 (Nat.zero_add _) rfl _ _ hP hD hS ls (lv_sub hl [2, 1, 0] rfl)
    · exact absurd c_2 (by omega)

set_option maxHeartbeats 4000000 in
set_option maxRecDepth 100000 in
theorem c_M_best_1 (l : Launch) (dC : Nat → ClassId) (dI : Nat → Nat → Nat) (cI cZ cL : ClassId) (q : Nat → Nat) (sz0 : Nat) (kn : Nat → Bool) (co : Nat → Int32) (bo : Nat → Int32) (mn : Nat) (wd : Nat → Nat) (zs : Nat → Nat) (fp : Nat → Int32) (ho : Nat → Int32) (lv : Nat → Int32) (fr : Nat) (so : Nat → Int32) (ea : Nat → Int32) (dn : Nat → Int32) (cd : Nat → Int32) (nx : Nat → Int32) (nd : Nat → Int32) (nc : Nat → Int32) (al : Int32) (wo : Int32) (wh : Int32) (pn : Nat → Nat) (nn : Nat) (h1n : 1 ≤ nn) (hnf : nn ≤ fr) (hfr : fr ≤ 15) (hmn : mn ≤ 8) (hzs : ∀ k, zs k ≤ 3) (hwd : ∀ k, wd k < 4) (hz1 : ∀ k, k < mn → 1 ≤ zs k) (hfp : ∀ k i, k < mn → i < zs k → fp (3 * k + i) = nI (pn (3 * k + i)) ∧ pn (3 * k + i) < 4) : Met l yM_best (Cond.code yM_best cM_best 4 (some .int) :: tb) ({ frames := 5, cells := 0, slots := 0, locals := 120 }) (va_Pc [.ref (q 0), .int (nI nn)] (wt_rw (dC, dI) vwCl [(cI, .int), (cZ, .boolean), (cL, .long)] (wM cI cZ cL q kn co bo mn wd zs fp ho lv fr so ea dn cd nx nd nc al wo wh) sz0)) (va_Qi (fun r (_ : Unit) => r = (wt_best ((wt_mrun pn wd zs mn kn co bo ho lv so nn nd nc).1))) (wt_B (dC, dI) vwCl (va_A (wM cI cZ cL q kn co bo mn wd zs fp ho lv fr so ea dn cd nx nd nc al wo wh) sz0) (wM cI cZ cL q kn co bo mn wd zs fp ho lv fr so ((wt_mrun pn wd zs mn kn co bo ho lv so nn nd nc).1) ((wt_mrun pn wd zs mn kn co bo ho lv so nn nd nc).2.1) ((wt_mrun pn wd zs mn kn co bo ho lv so nn nd nc).2.2) ((wt_mrun pn wd zs mn kn co bo ho lv so nn nd nc).1) ((wt_mrun pn wd zs mn kn co bo ho lv so nn nd nc).2.1) ((wt_mrun pn wd zs mn kn co bo ho lv so nn nd nc).2.2) al wo wh)) (va_A (wM cI cZ cL q kn co bo mn wd zs fp ho lv fr so ea dn cd nx nd nc al wo wh) sz0)) 0 0 (va_A (wM cI cZ cL q kn co bo mn wd zs fp ho lv fr so ea dn cd nx nd nc al wo wh) sz0) := by
  refine Met.ofW (cc := cM_best) (maxL := 4) (ret := (some .int)) (by decide) rfl ?_
  intro p e s m args below meth c s₁ B hml hv
  obtain ⟨rfl, hsz, hP, hK, hN, hD0⟩ := hv
  have hx := B.exec
  have hb := B.bytes
  have hr := B.returns
  have hts := atoms_spec (ws := (Cond.code yM_best cM_best 4 (some .int) :: tb)) B.pre
  have ht : ∀ w ∈ tb, w.before _ s = true := fun w h => hts w (List.mem_cons_of_mem _ h)
  have hown : s.vm.findClass RM = some m.cls := findClass_of_methodNamed B.named
  have hlocks := B.notSynchronized
  subst hsz
  have hD := hD0.self (sz := s.heap.size)
  generalize hAe : va_A (wM cI cZ cL q kn co bo mn wd zs fp ho lv fr so ea dn cd nx nd nc al wo wh) s.heap.size = A at hD ⊢
  have hA : ∀ q : Nat, s.heap.size ≤ q → A q := fun q h => by rw [← hAe]; exact Or.inr h
  clear hAe hD0
  have hS : va_S A s.heap s.heap [] := va_S.rf
  have hl := lv_entry ([.ref (q 0), .int (nI nn)]) (n := 4) (Nat.le_of_ble_eq_true rfl)
  rw [lg_entry_eq]
  generalize (lg_sl ([.ref (q 0), .int (nI nn)]) ++ List.replicate (4 - (lg_sl ([.ref (q 0), .int (nI nn)])).length) Slot.unset).toArray = ls at hl ⊢
  have hl : lv_has ls 4 [(0, .ref (q 0)), (1, .int (nI nn))] := hl
  refine lv_iload_n hx hb dM_best_0 rfl (lv_at hl 1 rfl) ?_
  refine lv_iconst (v := nI 1) hx hb dM_best_1 (by decide) ?_
  refine wt_icmp_lt (tgt := 13) hx hb dM_best_2 (by decide) (by omega) (by omega) (fun c_1 => ?_) (fun c_1 => ?_)
  · exact absurd c_1 (by omega)
  · skip
    refine lv_iload_n hx hb dM_best_5 rfl (lv_at hl 1 rfl) ?_
    refine lv_aload_n hx hb dM_best_6 rfl (lv_at hl 0 rfl) ?_
    refine va_get (D := (dC, dI)) (ci := 5) (v := .int (nI fr)) (C := RM) (T := TM) (N := 20) hx hb ht inM hown hK hP 0 rfl rfl 9 (by decide) (ht _ m_403) (fun _ h9 => h9) rfl dM_best_7 ?_
    refine wt_icmp_le (tgt := 15) hx hb dM_best_10 (by decide) (by omega) (by omega) (fun c_2 => ?_) (fun c_2 => ?_)
    · skip
      refine lv_aload_n hx hb dM_best_15 rfl (lv_at hl 0 rfl) ?_
      refine lv_iload_n hx hb dM_best_16 rfl (lv_at hl 1 rfl) ?_
      refine wt_rwv (va_runV (As := [.int (nI nn)]) (rest := []) ⟨hx, hb, hml, hown, ht⟩ (c_M_run l dC dI cI cZ cL q s.heap.size kn co bo mn wd zs fp ho lv fr so ea dn cd nx nd nc al wo wh pn nn (by omega) hmn hzs hwd hz1 hfp) (cwV 1 ht (good_V m_526 m_528 ms_16 m_7 m_529) rfl rfl rfl (by decide +kernel) ⟨Nat.le_of_ble_eq_true rfl, Nat.le_of_ble_eq_true rfl⟩) (wt_preVw hK hN hP hD (va_recv hK hP (ci := 5) (q0 := 0) rfl rfl)) rfl rfl hl.1 rfl (lv_room (Nat.le_of_ble_eq_true rfl)) dM_best_17 ⟨Nat.le_of_ble_eq_true rfl, Nat.le_of_ble_eq_true rfl⟩) hD hS hA (fun H locs hP hD hS => ?_)
      have hP : va_P (dC, dI) vwCl (wM cI cZ cL q kn co bo mn wd zs fp ho lv fr so ((wt_mrun pn wd zs mn kn co bo ho lv so nn nd nc).1) ((wt_mrun pn wd zs mn kn co bo ho lv so nn nd nc).2.1) ((wt_mrun pn wd zs mn kn co bo ho lv so nn nd nc).2.2) ((wt_mrun pn wd zs mn kn co bo ho lv so nn nd nc).1) ((wt_mrun pn wd zs mn kn co bo ho lv so nn nd nc).2.1) ((wt_mrun pn wd zs mn kn co bo ho lv so nn nd nc).2.2) al wo wh) H := hP
      have hD : va_D A (wM cI cZ cL q kn co bo mn wd zs fp ho lv fr so ((wt_mrun pn wd zs mn kn co bo ho lv so nn nd nc).1) ((wt_mrun pn wd zs mn kn co bo ho lv so nn nd nc).2.1) ((wt_mrun pn wd zs mn kn co bo ho lv so nn nd nc).2.2) ((wt_mrun pn wd zs mn kn co bo ho lv so nn nd nc).1) ((wt_mrun pn wd zs mn kn co bo ho lv so nn nd nc).2.1) ((wt_mrun pn wd zs mn kn co bo ho lv so nn nd nc).2.2) al wo wh) := hD
      refine lv_iconst (v := (-1)) hx hb dM_best_20 (by decide) ?_
      refine lv_istore_n (lv' := [(2, .int (-1)), (0, .ref (q 0)), (1, .int (nI nn))]) hx hb dM_best_21 rfl hl (by decide) rfl (fun ls hl => ?_)
      refine lv_iconst (v := nI 0) hx hb dM_best_22 (by decide) ?_
      refine lv_istore_n (lv' := [(3, .int (nI 0)), (2, .int (-1)), (0, .ref (q 0)), (1, .int (nI nn))]) hx hb dM_best_23 rfl hl (by decide) rfl (fun ls hl => ?_)
      have LP24 : ∀ (r : Nat) (i : Nat) (cx : Int32) (hi : i + r = 1800) (hE : wt_up (fun i c => wt_be1 ((wt_mrun pn wd zs mn kn co bo ho lv so nn nd nc).1) i c) r i cx = wt_best ((wt_mrun pn wd zs mn kn co bo ho lv so nn nd nc).1)) (H : Heap) (locs : List Loc) (hP : va_P (dC, dI) vwCl (wM cI cZ cL q kn co bo mn wd zs fp ho lv fr so ((wt_mrun pn wd zs mn kn co bo ho lv so nn nd nc).1) ((wt_mrun pn wd zs mn kn co bo ho lv so nn nd nc).2.1) ((wt_mrun pn wd zs mn kn co bo ho lv so nn nd nc).2.2) ((wt_mrun pn wd zs mn kn co bo ho lv so nn nd nc).1) ((wt_mrun pn wd zs mn kn co bo ho lv so nn nd nc).2.1) ((wt_mrun pn wd zs mn kn co bo ho lv so nn nd nc).2.2) al wo wh) H) (hD : va_D A (wM cI cZ cL q kn co bo mn wd zs fp ho lv fr so ((wt_mrun pn wd zs mn kn co bo ho lv so nn nd nc).1) ((wt_mrun pn wd zs mn kn co bo ho lv so nn nd nc).2.1) ((wt_mrun pn wd zs mn kn co bo ho lv so nn nd nc).2.2) ((wt_mrun pn wd zs mn kn co bo ho lv so nn nd nc).1) ((wt_mrun pn wd zs mn kn co bo ho lv so nn nd nc).2.1) ((wt_mrun pn wd zs mn kn co bo ho lv so nn nd nc).2.2) al wo wh)) (hS : va_S A s.heap H locs) (ls : Array Slot) (hl : lv_has ls 4 [(0, .ref (q 0)), (2, .int cx), (3, .int (nI i))]), W p l e (headSpec (Cond.code yM_best cM_best 4 (some .int) :: tb) ({ frames := 5, cells := 0, slots := 0, locals := 120 })).room s m ([.ref (q 0), .int (nI nn)] : List Value).toArray below meth c H locs 0 0 (MQ below (va_Qi (fun r (_ : Unit) => r = (wt_best ((wt_mrun pn wd zs mn kn co bo ho lv so nn nd nc).1))) (wt_B (dC, dI) vwCl A (wM cI cZ cL q kn co bo mn wd zs fp ho lv fr so ((wt_mrun pn wd zs mn kn co bo ho lv so nn nd nc).1) ((wt_mrun pn wd zs mn kn co bo ho lv so nn nd nc).2.1) ((wt_mrun pn wd zs mn kn co bo ho lv so nn nd nc).2.2) ((wt_mrun pn wd zs mn kn co bo ho lv so nn nd nc).1) ((wt_mrun pn wd zs mn kn co bo ho lv so nn nd nc).2.1) ((wt_mrun pn wd zs mn kn co bo ho lv so nn nd nc).2.2) al wo wh)) A) ([.ref (q 0), .int (nI nn)] : List Value).toArray s 0 0 A) (F0 m 24 ls []) := by
        intro r
        induction r with
        | zero =>
          intro i cx hi hE H locs hP hD hS ls hl
          have hl : lv_has ls 4 [(0, .ref (q 0)), (2, .int cx), (3, .int (nI i))] := hl
          refine lv_iload_n hx hb dM_best_24 rfl (lv_at hl 2 rfl) ?_
          refine lv_sipush (v := nI 1800) hx hb dM_best_25 (by decide) ?_
          refine wt_icmp_ge (tgt := 71) hx hb dM_best_28 (by decide) (by omega) (by omega) (fun c_3 => ?_) (fun c_3 => ?_)
          · skip
            refine lv_iload_n hx hb dM_best_71 rfl (lv_at hl 1 rfl) ?_
            have hP9 : va_P (dC, dI) vwCl (wM cI cZ cL q kn co bo mn wd zs fp ho lv fr so ((wt_mrun pn wd zs mn kn co bo ho lv so nn nd nc).1) ((wt_mrun pn wd zs mn kn co bo ho lv so nn nd nc).2.1) ((wt_mrun pn wd zs mn kn co bo ho lv so nn nd nc).2.2) ((wt_mrun pn wd zs mn kn co bo ho lv so nn nd nc).1) ((wt_mrun pn wd zs mn kn co bo ho lv so nn nd nc).2.1) ((wt_mrun pn wd zs mn kn co bo ho lv so nn nd nc).2.2) al wo wh) H := by exact hP
            have hD9 : va_D A (wM cI cZ cL q kn co bo mn wd zs fp ho lv fr so ((wt_mrun pn wd zs mn kn co bo ho lv so nn nd nc).1) ((wt_mrun pn wd zs mn kn co bo ho lv so nn nd nc).2.1) ((wt_mrun pn wd zs mn kn co bo ho lv so nn nd nc).2.2) ((wt_mrun pn wd zs mn kn co bo ho lv so nn nd nc).1) ((wt_mrun pn wd zs mn kn co bo ho lv so nn nd nc).2.1) ((wt_mrun pn wd zs mn kn co bo ho lv so nn nd nc).2.2) al wo wh) := by exact hD
            exact W.iret (v := cx) hx hb hr (fun t ht hW => ⟨⟨_, (), rfl, hE, by rw [ht]; exact hP9, hD9⟩, hS.F ht⟩) hS.2.2 dM_best_72
          · first | exact absurd c_3 (by omega) | exact absurd c_3 (by decide) | exact absurd (by decide) c_3
        | succ r ih24 =>
          intro i cx hi hE H locs hP hD hS ls hl
          have hl : lv_has ls 4 [(0, .ref (q 0)), (2, .int cx), (3, .int (nI i))] := hl
          refine lv_iload_n hx hb dM_best_24 rfl (lv_at hl 2 rfl) ?_
          refine lv_sipush (v := nI 1800) hx hb dM_best_25 (by decide) ?_
          refine wt_icmp_ge (tgt := 71) hx hb dM_best_28 (by decide) (by omega) (by omega) (fun c_4 => ?_) (fun c_4 => ?_)
          · first | exact absurd c_4 (by omega) | exact absurd c_4 (by decide) | exact absurd (by decide) c_4
          · skip
            refine lv_aload_n hx hb dM_best_31 rfl (lv_at hl 0 rfl) ?_
            refine va_get (D := (dC, dI)) (ci := 5) (v := .ref (q 10)) (C := RM) (T := TM) (N := 20) hx hb ht inM hown hK hP 0 rfl rfl 11 (by decide) (ht _ m_405) (fun _ h9 => h9) rfl dM_best_32 ?_
            refine lv_iload_n hx hb dM_best_35 rfl (lv_at hl 2 rfl) ?_
            refine wt_iald hx hb hK hP 10 0 rfl rfl (k := i) (by omega) (by decide) dM_best_36 ?_
            refine lv_if_lt (tgt := 63) hx hb dM_best_37 (by decide) (fun c_5 => ?_) (fun c_5 => ?_)
            · skip
              refine lv_iload_n hx hb dM_best_63 rfl (lv_at hl 1 rfl) ?_
              refine lv_istore_n (lv' := [(2, .int cx), (0, .ref (q 0)), (3, .int (nI i))]) hx hb dM_best_64 rfl hl (by decide) rfl (fun ls hl => ?_)
              refine lv_iinc (v := nI (i + 1)) (lv' := [(3, .int (nI (i + 1))), (2, .int cx), (0, .ref (q 0))]) hx hb dM_best_65 hl (k := 2) rfl (wt_inc1 i) (by decide) rfl (fun ls hl => ?_)
              refine lv_goto (tgt := 24) hx hb dM_best_68 (by decide) ?_
              exact ih24 (i + 1) cx (by omega) (by exact (congrArg (fun x => wt_up (fun i c => wt_be1 ((wt_mrun pn wd zs mn kn co bo ho lv so nn nd nc).1) i c) r (i + 1) x) (be_1 c_5)).symm.trans hE) _ _ hP hD hS ls (lv_sub hl [2, 1, 0] rfl)
            · skip
              refine lv_iload_n hx hb dM_best_40 rfl (lv_at hl 1 rfl) ?_
              refine lv_if_lt (tgt := 54) hx hb dM_best_41 (by decide) (fun c_6 => ?_) (fun c_6 => ?_)
              · skip
                refine lv_aload_n hx hb dM_best_54 rfl (lv_at hl 0 rfl) ?_
                refine va_get (D := (dC, dI)) (ci := 5) (v := .ref (q 10)) (C := RM) (T := TM) (N := 20) hx hb ht inM hown hK hP 0 rfl rfl 11 (by decide) (ht _ m_405) (fun _ h9 => h9) rfl dM_best_55 ?_
                refine lv_iload_n hx hb dM_best_58 rfl (lv_at hl 2 rfl) ?_
                refine wt_iald hx hb hK hP 10 0 rfl rfl (k := i) (by omega) (by decide) dM_best_59 ?_
                refine lv_goto (tgt := 64) hx hb dM_best_60 (by decide) ?_
                refine lv_istore_n (lv' := [(2, .int (((wt_mrun pn wd zs mn kn co bo ho lv so nn nd nc).1) i)), (0, .ref (q 0)), (3, .int (nI i))]) hx hb dM_best_64 rfl hl (by decide) rfl (fun ls hl => ?_)
                refine lv_iinc (v := nI (i + 1)) (lv' := [(3, .int (nI (i + 1))), (2, .int (((wt_mrun pn wd zs mn kn co bo ho lv so nn nd nc).1) i)), (0, .ref (q 0))]) hx hb dM_best_65 hl (k := 2) rfl (wt_inc1 i) (by decide) rfl (fun ls hl => ?_)
                refine lv_goto (tgt := 24) hx hb dM_best_68 (by decide) ?_
                exact ih24 (i + 1) (((wt_mrun pn wd zs mn kn co bo ho lv so nn nd nc).1) i) (by omega) (by exact (congrArg (fun x => wt_up (fun i c => wt_be1 ((wt_mrun pn wd zs mn kn co bo ho lv so nn nd nc).1) i c) r (i + 1) x) (be_2 c_5 c_6)).symm.trans hE) _ _ hP hD hS ls (lv_sub hl [2, 1, 0] rfl)
              · skip
                refine lv_aload_n hx hb dM_best_44 rfl (lv_at hl 0 rfl) ?_
                refine va_get (D := (dC, dI)) (ci := 5) (v := .ref (q 10)) (C := RM) (T := TM) (N := 20) hx hb ht inM hown hK hP 0 rfl rfl 11 (by decide) (ht _ m_405) (fun _ h9 => h9) rfl dM_best_45 ?_
                refine lv_iload_n hx hb dM_best_48 rfl (lv_at hl 2 rfl) ?_
                refine wt_iald hx hb hK hP 10 0 rfl rfl (k := i) (by omega) (by decide) dM_best_49 ?_
                refine lv_iload_n hx hb dM_best_50 rfl (lv_at hl 1 rfl) ?_
                refine lv_icmp_ge (tgt := 63) hx hb dM_best_51 (by decide) (fun c_7 => ?_) (fun c_7 => ?_)
                · skip
                  refine lv_iload_n hx hb dM_best_63 rfl (lv_at hl 1 rfl) ?_
                  refine lv_istore_n (lv' := [(2, .int cx), (0, .ref (q 0)), (3, .int (nI i))]) hx hb dM_best_64 rfl hl (by decide) rfl (fun ls hl => ?_)
                  refine lv_iinc (v := nI (i + 1)) (lv' := [(3, .int (nI (i + 1))), (2, .int cx), (0, .ref (q 0))]) hx hb dM_best_65 hl (k := 2) rfl (wt_inc1 i) (by decide) rfl (fun ls hl => ?_)
                  refine lv_goto (tgt := 24) hx hb dM_best_68 (by decide) ?_
                  exact ih24 (i + 1) cx (by omega) (by exact (congrArg (fun x => wt_up (fun i c => wt_be1 ((wt_mrun pn wd zs mn kn co bo ho lv so nn nd nc).1) i c) r (i + 1) x) (be_3 c_6 c_7)).symm.trans hE) _ _ hP hD hS ls (lv_sub hl [2, 1, 0] rfl)
                · skip
                  refine lv_aload_n hx hb dM_best_54 rfl (lv_at hl 0 rfl) ?_
                  refine va_get (D := (dC, dI)) (ci := 5) (v := .ref (q 10)) (C := RM) (T := TM) (N := 20) hx hb ht inM hown hK hP 0 rfl rfl 11 (by decide) (ht _ m_405) (fun _ h9 => h9) rfl dM_best_55 ?_
                  refine lv_iload_n hx hb dM_best_58 rfl (lv_at hl 2 rfl) ?_
                  refine wt_iald hx hb hK hP 10 0 rfl rfl (k := i) (by omega) (by decide) dM_best_59 ?_
                  refine lv_goto (tgt := 64) hx hb dM_best_60 (by decide) ?_
                  refine lv_istore_n (lv' := [(2, .int (((wt_mrun pn wd zs mn kn co bo ho lv so nn nd nc).1) i)), (0, .ref (q 0)), (3, .int (nI i))]) hx hb dM_best_64 rfl hl (by decide) rfl (fun ls hl => ?_)
                  refine lv_iinc (v := nI (i + 1)) (lv' := [(3, .int (nI (i + 1))), (2, .int (((wt_mrun pn wd zs mn kn co bo ho lv so nn nd nc).1) i)), (0, .ref (q 0))]) hx hb dM_best_65 hl (k := 2) rfl (wt_inc1 i) (by decide) rfl (fun ls hl => ?_)
                  refine lv_goto (tgt := 24) hx hb dM_best_68 (by decide) ?_
                  exact ih24 (i + 1) (((wt_mrun pn wd zs mn kn co bo ho lv so nn nd nc).1) i) (by omega) (by exact (congrArg (fun x => wt_up (fun i c => wt_be1 ((wt_mrun pn wd zs mn kn co bo ho lv so nn nd nc).1) i c) r (i + 1) x) (be_4 c_5 c_7)).symm.trans hE) _ _ hP hD hS ls (lv_sub hl [2, 1, 0] rfl)
      exact LP24 1800 0 (-1) rfl rfl _ _ hP hD hS ls (lv_sub hl [2, 1, 0] rfl)
    · exact absurd c_2 (by omega)
