/-- what the tables say of the classes -/
theorem law_K {s : State} {av : Array Value} (ht : ∀ w ∈ tb, w.before av s = true) : ∃ (dC : Nat → ClassId) (dI : Nat → Nat → Nat) (cI cZ cL : ClassId), va_K (dC, dI) vwCl [(cI, .int), (cZ, .boolean), (cL, .long)] s := by
  obtain ⟨cX, iX, kX⟩ := u_known ht inX (ht _ m_11)
  obtain ⟨cT, iT, kT⟩ := u_known ht inT (ht _ m_19)
  obtain ⟨cG, iG, kG⟩ := u_known ht inG (ht _ m_46)
  obtain ⟨cS, iS, kS⟩ := u_known ht inS (ht _ m_62)
  obtain ⟨cQ, iQ, kQ⟩ := u_known ht inQ (ht _ m_81)
  obtain ⟨cM, iM, kM⟩ := u_known ht inM (ht _ m_389)
  obtain ⟨aI, bI, dI, eI, fI, gI⟩ := Cond.arrayClass_spec (ht _ m_43)
  obtain ⟨aZ, bZ, dZ, eZ, fZ, gZ⟩ := Cond.arrayClass_spec (ht _ m_44)
  obtain ⟨aL, bL, dL, eL, fL, gL⟩ := Cond.arrayClass_spec (ht _ m_112)
  refine ⟨(fun k => match k with | 0 => cX | 1 => cT | 2 => cG | 3 => cS | 4 => cQ | _ => cM), (fun k => match k with | 0 => iX | 1 => iT | 2 => iG | 3 => iS | 4 => iQ | _ => iM), aI, aZ, aL, fun k r hr => ?_, fun k r hr => ?_⟩
  · have hk : k < 6 := (List.getElem?_eq_some_iff.mp hr).1
    rcases (show k = 0 ∨ k = 1 ∨ k = 2 ∨ k = 3 ∨ k = 4 ∨ k = 5 by omega) with rfl | rfl | rfl | rfl | rfl | rfl
    · cases hr; exact kX
    · cases hr; exact kT
    · cases hr; exact kG
    · cases hr; exact kS
    · cases hr; exact kQ
    · cases hr; exact kM
  · have hk : k < 3 := (List.getElem?_eq_some_iff.mp hr).1
    rcases (show k = 0 ∨ k = 1 ∨ k = 2 by omega) with rfl | rfl | rfl
    · cases hr; exact ⟨fun n z => ⟨fun k h => (by cases h), bI, fI, dI, gI⟩, eI⟩
    · cases hr; exact ⟨fun n z => ⟨fun k h => (by cases h), bZ, fZ, dZ, gZ⟩, eZ⟩
    · cases hr; exact ⟨fun n z => ⟨fun k h => (by cases h), bL, fL, dL, gL⟩, eL⟩

theorem rel_init : rel (fun _ => 0) (fun _ => 0) (fun _ => 0) (fun _ => false) 0 (fun _ => (-1)) (fun _ => 0) (fun _ => 0) (fun _ => 0) (fun _ => 0) 0 (fun _ => false) (fun _ => 0) (fun _ => 0) 0 (fun _ => 0) (fun _ => 0) (fun _ => 0) (fun _ => 0) := by
  have hz : ∃ a : Nat, a < 10000 ∧ (0 : Int32) = nI a := ⟨0, by omega, rfl⟩
  have hg : ∀ k j : Nat, gr_at (fun _ => false) (fun _ => 0) (fun _ => 0) (fun _ => (-1)) (fun _ => 0) k j := fun k j => ⟨rfl, rfl, fun h => absurd h Bool.false_ne_true⟩
  refine ⟨⟨by omega, fun k hk => absurd hk (by omega), ⟨fun k hk => absurd hk (by omega), fun n h1 h2 => absurd h1 (by omega), fun n p _ h => absurd rfl h⟩, by omega, fun n w h1 h2 => absurd h1 (by omega), ⟨fun w _ => hg _ _, fun v w _ _ => hg _ _, fun u v w _ _ _ => hg _ _⟩, fun j _ => hz, fun j _ => hz, fun j _ => hz⟩, by omega, by omega, fun f => rfl, fun k => Nat.zero_le 3, fun k => (show 0 < 4 by omega), fun n => (show 0 < 4 by omega), fun n => (show 0 < 25 by omega), fun j => Nat.zero_le 24, fun k i hk => absurd hk (by omega), fun n w _ _ => rfl⟩

set_option maxHeartbeats 4000000 in
set_option maxRecDepth 100000 in
theorem whole_start {p : Program} {e : Env} {s : State} {m : MethodId} {below : List Frame} {meth : Method} {c : Code} (l : Launch) {b L : Nat} {xs : Nat → Int32} (hL : L ≤ 3072) (C0 : lw_At p s m meth c b L xs) : W p l e room_1 s m #[Value.ref b] below meth c s.heap [] 0 0 (lw_Z below #[Value.ref b] s) (entryFrame m ([Value.ref b] : List Value).toArray 4) := by
  obtain ⟨hx, hb, hr, hml, hown0, hts, hX, hbl, hlocks, hgv⟩ := id C0
  have hown : s.vm.findClass RL = some m.cls := hown0
  have ht : ∀ w ∈ tb, w.before _ s = true := fun w h => hts w (tb_in w h)
  have hA : ∀ a : Nat, s.heap.size ≤ a → (fun a : Nat => s.heap.size ≤ a) a := fun _ h => h
  have hbA : ¬ (fun a : Nat => s.heap.size ≤ a) b := Nat.not_le.mpr hbl
  have hN : wt_nest s := ⟨va_Nw.of rfl (hts _ mn_177), va_Nw.of rfl (hts _ mn_180)⟩
  obtain ⟨dC, dI, cI, cZ, cL, hK⟩ := law_K ht
  have hS : va_S (fun a : Nat => s.heap.size ≤ a) s.heap s.heap [] := va_S.rf
  have hP : va_P (dC, dI) vwCl [] s.heap := fun k r h => absurd h (by rw [List.getElem?_nil]; exact fun z => nomatch z)
  have hD : va_D (fun a : Nat => s.heap.size ≤ a) [] := ⟨fun i j r t h => absurd h (by rw [List.getElem?_nil]; exact fun z => nomatch z), fun k r h => absurd h (by rw [List.getElem?_nil]; exact fun z => nomatch z)⟩
  have hl := lv_entry ([.ref b]) (n := 4) (Nat.le_of_ble_eq_true rfl)
  rw [lg_entry_eq]
  generalize (lg_sl ([.ref b]) ++ List.replicate (4 - (lg_sl ([.ref b])).length) Slot.unset).toArray = ls at hl ⊢
  have hl : lv_has ls 4 [(0, .ref b)] := hl
  refine va_new (ci := 0) (fs := [.null, .null, .null, .null, .int (wt_bI false)]) (C := RX) (T := TX) (N := 5) hx hb ht inX tyX tyX_ok hown (ht _ m_10) (ht _ m_11) (ht _ m_1) hK hP hD hS hA rfl (fun j hj => by rcases (show j = 0 ∨ j = 1 ∨ j = 2 ∨ j = 3 ∨ j = 4 by omega) with rfl | rfl | rfl | rfl | rfl <;> rfl) (Nat.le_of_ble_eq_true rfl) (Nat.le_of_ble_eq_true rfl) dL_law_0 (fun qx H hP hD hS => ?_)
  have hP : va_P (dC, dI) vwCl [(qx, .inr (0, [.null, .null, .null, .null, .int (wt_bI false)]))] H := hP
  have hD : va_D (fun a : Nat => s.heap.size ≤ a) [(qx, .inr (0, [.null, .null, .null, .null, .int (wt_bI false)]))] := hD
  refine W.widen (k := 1) (n := 5) (Nat.le_of_ble_eq_true rfl) (Nat.le_of_ble_eq_true rfl) ?_
  refine lv_dup hx hb dL_law_3 rfl ?_
  refine wt_cutn (wr := []) (va_runI (As := []) (rest := [.ref qx]) ⟨hx, hb, hml, hown, ht⟩ (c_X_init l dC dI cI cZ cL qx H.size) (cwI 0 ht (good_C m_14) rfl rfl rfl (ht _ m_1) (ht _ m_12) (ht _ m_13) rfl (by decide +kernel) ⟨(Nat.le_of_ble_eq_true rfl), (Nat.le_of_ble_eq_true rfl)⟩) (wt_preSw hK hN (hP.sub [0] rfl) (hD.sub [0] (by decide) rfl)) rfl rfl hl.1 rfl (lv_room (Nat.le_of_ble_eq_true rfl)) dL_law_4 ⟨(Nat.le_of_ble_eq_true rfl), (Nat.le_of_ble_eq_true rfl)⟩) hP hD hS hA [0] [] rfl rfl (by decide) (by decide) (fun u H locs hu hP hD hS => ?_)
  have hP : va_P (dC, dI) vwCl (wX cI cZ cL u (fun _ => 0) (fun _ => 0) (fun _ => 0) (fun _ => false) 0 0 (fun _ => (-1)) (fun _ => 0) (fun _ => 0) (fun _ => 0) (fun _ => 0) 0 (fun _ => 0) (fun _ => 0) (fun _ => 0) (fun _ => 0) wt_dead false) H := hP
  have hD : va_D (fun a : Nat => s.heap.size ≤ a) (wX cI cZ cL u (fun _ => 0) (fun _ => 0) (fun _ => 0) (fun _ => false) 0 0 (fun _ => (-1)) (fun _ => 0) (fun _ => 0) (fun _ => 0) (fun _ => 0) 0 (fun _ => 0) (fun _ => 0) (fun _ => 0) (fun _ => 0) wt_dead false) := hD
  rw [← hu]
  clear hu
  refine W.widen (k := 18) (n := 2825) (Nat.le_of_ble_eq_true rfl) (Nat.le_of_ble_eq_true rfl) ?_
  refine lv_astore_n (lv' := [(1, .ref (u 0)), (0, .ref b)]) hx hb dL_law_7 rfl hl (by decide) rfl (fun ls hl => ?_)
  refine va_new (ci := 5) (fs := [.null, .null, .null, .int (nI 0), .null, .null, .null, .null, .null, .int (nI 0), .null, .null, .null, .null, .null, .null, .null, .int 0, .int 0, .int 0]) (C := RM) (T := TM) (N := 20) hx hb ht inM tyM tyM_ok hown (ht _ m_388) (ht _ m_389) (ht _ m_7) hK hP hD hS hA rfl (fun j hj => by rcases (show j = 0 ∨ j = 1 ∨ j = 2 ∨ j = 3 ∨ j = 4 ∨ j = 5 ∨ j = 6 ∨ j = 7 ∨ j = 8 ∨ j = 9 ∨ j = 10 ∨ j = 11 ∨ j = 12 ∨ j = 13 ∨ j = 14 ∨ j = 15 ∨ j = 16 ∨ j = 17 ∨ j = 18 ∨ j = 19 by omega) with rfl | rfl | rfl | rfl | rfl | rfl | rfl | rfl | rfl | rfl | rfl | rfl | rfl | rfl | rfl | rfl | rfl | rfl | rfl | rfl <;> rfl) (Nat.le_of_ble_eq_true rfl) (Nat.le_of_ble_eq_true rfl) dL_law_8 (fun qy H hP hD hS => ?_)
  refine W.widen (k := 19) (n := 2845) (Nat.le_of_ble_eq_true rfl) (Nat.le_of_ble_eq_true rfl) ?_
  refine lv_dup hx hb dL_law_11 rfl ?_
  refine wt_cutn (wr := (wX cI cZ cL u (fun _ => 0) (fun _ => 0) (fun _ => 0) (fun _ => false) 0 0 (fun _ => (-1)) (fun _ => 0) (fun _ => 0) (fun _ => 0) (fun _ => 0) 0 (fun _ => 0) (fun _ => 0) (fun _ => 0) (fun _ => 0) wt_dead false)) (va_runI (As := []) (rest := [.ref qy]) ⟨hx, hb, hml, hown, ht⟩ (c_M_init l dC dI cI cZ cL qy H.size) (cwI 0 ht (good_C m_392) rfl rfl rfl (ht _ m_7) (ht _ m_390) (ht _ m_391) rfl (by decide +kernel) ⟨(Nat.le_of_ble_eq_true rfl), (Nat.le_of_ble_eq_true rfl)⟩) (wt_preSw hK hN (hP.sub [18] rfl) (hD.sub [18] (by decide) rfl)) rfl rfl hl.1 rfl (lv_room (Nat.le_of_ble_eq_true rfl)) dL_law_12 ⟨(Nat.le_of_ble_eq_true rfl), (Nat.le_of_ble_eq_true rfl)⟩) hP hD hS hA [18] [0, 1, 2, 3, 4, 5, 6, 7, 8, 9, 10, 11, 12, 13, 14, 15, 16, 17] rfl rfl (by decide) (by decide) (fun um H locs hum hP hD hS => ?_)
  rw [← hum]
  clear hum
  refine W.widen (k := 34) (n := 14336) (Nat.le_of_ble_eq_true rfl) (Nat.le_of_ble_eq_true rfl) ?_
  refine lv_astore_n (lv' := [(2, .ref (um 0)), (1, .ref (u 0)), (0, .ref b)]) hx hb dL_law_15 rfl hl (by decide) rfl (fun ls hl => ?_)
  refine lv_iconst (v := nI 0) hx hb dL_law_16 (by decide) ?_
  refine lv_istore_n (lv' := [(3, .int (nI 0)), (2, .ref (um 0)), (1, .ref (u 0)), (0, .ref b)]) hx hb dL_law_17 rfl hl (by decide) rfl (fun ls hl => ?_)
  refine law_loop hL C0 hK hN (L + 1) 0 (by omega) (by omega) H locs ls ?_ (lv_sub hl [3, 2, 1, 0] rfl)
  exact ⟨(fun _ => 0), (fun _ => 0), (fun _ => 0), (fun _ => false), 0, 0, (fun _ => (-1)), (fun _ => 0), (fun _ => 0), (fun _ => 0), (fun _ => 0), 0, (fun _ => 0), (fun _ => 0), (fun _ => 0), (fun _ => 0), wt_dead, false, (fun _ => false), (fun _ => 0), (fun _ => 0), (fun _ => 0), (fun _ => 0), (fun _ => 0), (fun _ => 0), (fun _ => 0), (fun _ => 0), (fun _ => 0), (fun _ => 0), (fun _ => 0), 0, 0, 0, (fun _ => 0), hP, hD, hS, rel_init, fun h => absurd h (by decide)⟩
