set_option maxHeartbeats 4000000 in
set_option maxRecDepth 100000 in
theorem c_X8_shares (l : Launch) (dC : Nat → ClassId) (dI : Nat → Nat → Nat) (cI cZ cK : ClassId) (tS : Nat) (aK aV : Nat → Nat) (n : Nat) (i0 : Int32) (i1 : Int32) (i2 : Int32) (mleft : Int32) (mmetres : Int32) (mshut : Int32) (mshield : Int32) (mtoday : Int32) (mbagged : Int32) (mwarmed : Int32) (nW : Nat) (nC : Nat) (mmeals : Int32) (nQ : Nat) (nM : Nat) (nD : Nat) (nA : Nat) (nK : Nat) (msights : Int32) (nP : Nat) (mpadMany : Int32) (nE : Nat) (nF : Nat) (nG : Nat) (macts : Int32) (mgusty : Int32) (mleakAct : Int32) (mleakMuch : Int32) (mendOfCan : Int32) (mbadAct : Int32) (mbadWhy : Int32) (mburnt : Int32) (mboiled : Int32) (nH : Nat) (nI : Nat) (nJ : Nat) (nL : Nat) (mhadLeft : Int32) (mhadToday : Int32) (mhadBagged : Int32) (mhadWarmed : Int32) (mleaves : Int32) (mdayThen : Int32) (mcoldThen : Int32) (nO : Nat) (mportionMany : Int32) (nT : Nat) (nU : Nat) (mleakMany : Int32) (mleakActs : Int32) (nV : Nat) (nX : Nat) (nY : Nat) (nZ : Nat) (mkeptAt : Int32) (misWriting : Int32) (gQ : Nat → Int32) (gM : Nat → Int32) (gW : Nat → Int32) (gX : Nat → Int32) (sz : Nat) (h_gQ : rg gQ 6 0 4) (h_gM : rg gM 6 0 60) (h_gW : rg gW 14 0 4) (h_mtoday : 0 ≤ mtoday.toInt ∧ mtoday.toInt ≤ 13) (h_mshield : 0 ≤ mshield.toInt ∧ mshield.toInt ≤ 1) (hmq : mqOK mmeals gQ) : Ci l yX8_shares (wq yX8_shares cX8_shares 9 (some .int)) ({ frames := 2, cells := 0, slots := 0, locals := 47 }) dC dI cI cZ cK tS aK aV [.ref n, .int i0, .int i1, .int i2] sz [(n, .inr (8, [.int mleft, .int mmetres, .int mshut, .int mshield, .int mtoday, .int mbagged, .int mwarmed, .ref nW, .ref nC, .int mmeals, .ref nQ, .ref nM, .ref nD, .ref nA, .ref nK, .int msights, .ref nP, .int mpadMany, .ref nE, .ref nF, .ref nG, .int macts, .int mgusty, .int mleakAct, .int mleakMuch, .int mendOfCan, .int mbadAct, .int mbadWhy, .int mburnt, .int mboiled, .ref nH, .ref nI, .ref nJ, .ref nL, .int mhadLeft, .int mhadToday, .int mhadBagged, .int mhadWarmed, .int mleaves, .int mdayThen, .int mcoldThen, .ref nO, .int mportionMany, .ref nT, .ref nU, .int mleakMany, .int mleakActs, .ref nV, .ref nX, .ref nY, .ref nZ, .int mkeptAt, .int misWriting])), (nQ, .inl (cI, 6, .inl gQ)), (nM, .inl (cI, 6, .inl gM)), (nW, .inl (cI, 14, .inl gW)), (nX, .inl (cI, 4, .inl gX))] (fun (r : Int32) (u : (Nat → Nat → Int32) × (Nat → Int32) × (Nat → Int64)) => True) (fun u => [(n, .inr (8, [.int mleft, .int mmetres, .int mshut, .int mshield, .int mtoday, .int mbagged, .int mwarmed, .ref nW, .ref nC, .int mmeals, .ref nQ, .ref nM, .ref nD, .ref nA, .ref nK, .int msights, .ref nP, .int mpadMany, .ref nE, .ref nF, .ref nG, .int macts, .int mgusty, .int mleakAct, .int mleakMuch, .int mendOfCan, .int mbadAct, .int mbadWhy, .int mburnt, .int mboiled, .ref nH, .ref nI, .ref nJ, .ref nL, .int mhadLeft, .int mhadToday, .int mhadBagged, .int mhadWarmed, .int mleaves, .int mdayThen, .int mcoldThen, .ref nO, .int mportionMany, .ref nT, .ref nU, .int mleakMany, .int mleakActs, .ref nV, .ref nX, .ref nY, .ref nZ, .int mkeptAt, .int misWriting])), (nQ, .inl (cI, 6, .inl gQ)), (nM, .inl (cI, 6, .inl gM)), (nW, .inl (cI, 14, .inl gW)), (nX, .inl (cI, 4, .inl (u.1 0)))]) := by
  refine Met.ofW (cc := cX8_shares) (maxL := 9) (ret := (some .int)) (by decide) rfl ?_
  intro p e s m args below meth c s₁ B hml hv
  obtain ⟨rfl, hsz, hP, hKx, hD0⟩ := hv
  have hx := B.exec
  have hb := B.bytes
  have hr := B.returns
  have hts := atoms_spec (ws := wq yX8_shares cX8_shares 9 (some .int)) B.pre
  have hown : s.vm.findClass RX8 = some m.cls := findClass_of_methodNamed B.named
  have hlocks := B.notSynchronized
  subst hsz
  have hD := hD0.self (sz := s.heap.size)
  generalize hAe : va_A [(n, .inr (8, [.int mleft, .int mmetres, .int mshut, .int mshield, .int mtoday, .int mbagged, .int mwarmed, .ref nW, .ref nC, .int mmeals, .ref nQ, .ref nM, .ref nD, .ref nA, .ref nK, .int msights, .ref nP, .int mpadMany, .ref nE, .ref nF, .ref nG, .int macts, .int mgusty, .int mleakAct, .int mleakMuch, .int mendOfCan, .int mbadAct, .int mbadWhy, .int mburnt, .int mboiled, .ref nH, .ref nI, .ref nJ, .ref nL, .int mhadLeft, .int mhadToday, .int mhadBagged, .int mhadWarmed, .int mleaves, .int mdayThen, .int mcoldThen, .ref nO, .int mportionMany, .ref nT, .ref nU, .int mleakMany, .int mleakActs, .ref nV, .ref nX, .ref nY, .ref nZ, .int mkeptAt, .int misWriting])), (nQ, .inl (cI, 6, .inl gQ)), (nM, .inl (cI, 6, .inl gM)), (nW, .inl (cI, 14, .inl gW)), (nX, .inl (cI, 4, .inl gX))] s.heap.size = A at hD hKx ⊢
  have hA : ∀ q : Nat, s.heap.size ≤ q → A q := fun q h => by rw [← hAe]; exact Or.inr h
  have hS : va_S A s.heap s.heap [] := va_S.rf
  have hP : va_P (dC, dI) vwCl [(n, .inr (8, [.int mleft, .int mmetres, .int mshut, .int mshield, .int mtoday, .int mbagged, .int mwarmed, .ref nW, .ref nC, .int mmeals, .ref nQ, .ref nM, .ref nD, .ref nA, .ref nK, .int msights, .ref nP, .int mpadMany, .ref nE, .ref nF, .ref nG, .int macts, .int mgusty, .int mleakAct, .int mleakMuch, .int mendOfCan, .int mbadAct, .int mbadWhy, .int mburnt, .int mboiled, .ref nH, .ref nI, .ref nJ, .ref nL, .int mhadLeft, .int mhadToday, .int mhadBagged, .int mhadWarmed, .int mleaves, .int mdayThen, .int mcoldThen, .ref nO, .int mportionMany, .ref nT, .ref nU, .int mleakMany, .int mleakActs, .ref nV, .ref nX, .ref nY, .ref nZ, .int mkeptAt, .int misWriting])), (nQ, .inl (cI, 6, .inl gQ)), (nM, .inl (cI, 6, .inl gM)), (nW, .inl (cI, 14, .inl gW)), (nX, .inl (cI, 4, .inl gX))] s.heap := hP
  have hl := lv_entry ([.ref n, .int i0, .int i1, .int i2]) (n := 9) (Nat.le_of_ble_eq_true rfl)
  rw [lg_entry_eq]
  generalize (lg_sl ([.ref n, .int i0, .int i1, .int i2]) ++ List.replicate (9 - (lg_sl ([.ref n, .int i0, .int i1, .int i2])).length) Slot.unset).toArray = ls at hl ⊢
  have hl : lv_has ls 9 [(0, .ref n), (1, .int i0), (2, .int i1), (3, .int i2)] := hl
  have hK := hKx.1
  have hin8 := fun w9 h9 => List.mem_cons_of_mem (Cond.code yX8_shares cX8_shares 9 (some .int)) (inlX8 w9 h9)
  have hw0 := hts (.constantLong RX8 240 3) (List.mem_cons_of_mem _ wm_431)
  have hw1 := hts (.constantLong RX8 322 99999999) (List.mem_cons_of_mem _ wm_925)
  have hw2 := hts (.fieldLink RX8 67 "OneCanModel" "cups" "[I") (List.mem_cons_of_mem _ wm_131)
  have hw3 := hts (.fieldLink RX8 77 "OneCanModel" "left" "I") (List.mem_cons_of_mem _ wm_134)
  have hw4 := hts (.fieldLink RX8 7 "OneCanModel" "wind" "[I") (List.mem_cons_of_mem _ wm_112)
  have hw5 := hts (.fieldLink RX8 101 "OneCanModel" "today" "I") (List.mem_cons_of_mem _ wm_152)
  refine lv_aload_n hx hb dX8_shares_0 rfl (lv_at hl 0 rfl) ?_
  refine lv_iload_n hx hb dX8_shares_1 rfl (lv_at hl 1 rfl) ?_
  refine mx_i (wr := [(nQ, .inl (cI, 6, .inl gQ)), (nM, .inl (cI, 6, .inl gM)), (nW, .inl (cI, 14, .inl gW)), (nX, .inl (cI, 4, .inl gX))]) (va_runV (As := [.int i0]) (rest := []) ⟨hx, hb, hml, hown, hts⟩ (c_X8_isMeal l dC dI cI cZ cK tS aK aV n i0 mleft mmetres mshut mshield mtoday mbagged mwarmed nW nC mmeals nQ nM nD nA nK msights nP mpadMany nE nF nG macts mgusty mleakAct mleakMuch mendOfCan mbadAct mbadWhy mburnt mboiled nH nI nJ nL mhadLeft mhadToday mhadBagged mhadWarmed mleaves mdayThen mcoldThen nO mportionMany nT nU mleakMany mleakActs nV nX nY nZ mkeptAt misWriting s.heap.size) (cwV 1 hts (gw_v (fun _ h9 => List.mem_cons_of_mem _ h9) wm_468 wm_469 wm_470 wm_5 wm_471) rfl rfl rfl (by decide +kernel) ⟨Nat.le_of_ble_eq_true rfl, Nat.le_of_ble_eq_true rfl⟩) (mx_preV (C := RX8) (T := TX8) (N := 53) (ci := 8) hKx hP hD hS hA [0] (by decide) rfl rfl rfl) rfl rfl hl.1 rfl (lv_room (Nat.le_of_ble_eq_true rfl)) dX8_shares_2 ⟨Nat.le_of_ble_eq_true rfl, Nat.le_of_ble_eq_true rfl⟩) hP hD hS hA [0] [1, 2, 3, 4] rfl rfl (by decide) (by decide) (fun r1 u1 H locs hq1 hP hD hS => ?_)
  replace hP : va_P (dC, dI) vwCl [(nQ, .inl (cI, 6, .inl gQ)), (nM, .inl (cI, 6, .inl gM)), (nW, .inl (cI, 14, .inl gW)), (nX, .inl (cI, 4, .inl gX)), (n, .inr (8, [.int mleft, .int mmetres, .int mshut, .int mshield, .int mtoday, .int mbagged, .int mwarmed, .ref nW, .ref nC, .int mmeals, .ref nQ, .ref nM, .ref nD, .ref nA, .ref nK, .int msights, .ref nP, .int mpadMany, .ref nE, .ref nF, .ref nG, .int macts, .int mgusty, .int mleakAct, .int mleakMuch, .int mendOfCan, .int mbadAct, .int mbadWhy, .int mburnt, .int mboiled, .ref nH, .ref nI, .ref nJ, .ref nL, .int mhadLeft, .int mhadToday, .int mhadBagged, .int mhadWarmed, .int mleaves, .int mdayThen, .int mcoldThen, .ref nO, .int mportionMany, .ref nT, .ref nU, .int mleakMany, .int mleakActs, .ref nV, .ref nX, .ref nY, .ref nZ, .int mkeptAt, .int misWriting]))] H := hP
  replace hD : va_D A [(nQ, .inl (cI, 6, .inl gQ)), (nM, .inl (cI, 6, .inl gM)), (nW, .inl (cI, 14, .inl gW)), (nX, .inl (cI, 4, .inl gX)), (n, .inr (8, [.int mleft, .int mmetres, .int mshut, .int mshield, .int mtoday, .int mbagged, .int mwarmed, .ref nW, .ref nC, .int mmeals, .ref nQ, .ref nM, .ref nD, .ref nA, .ref nK, .int msights, .ref nP, .int mpadMany, .ref nE, .ref nF, .ref nG, .int macts, .int mgusty, .int mleakAct, .int mleakMuch, .int mendOfCan, .int mbadAct, .int mbadWhy, .int mburnt, .int mboiled, .ref nH, .ref nI, .ref nJ, .ref nL, .int mhadLeft, .int mhadToday, .int mhadBagged, .int mhadWarmed, .int mleaves, .int mdayThen, .int mcoldThen, .ref nO, .int mportionMany, .ref nT, .ref nU, .int mleakMany, .int mleakActs, .ref nV, .ref nX, .ref nY, .ref nZ, .int mkeptAt, .int misWriting]))] := hD
  obtain ⟨hx1_0, hx1_1, hr1⟩ := hq1
  replace hx1_0 : r1.toInt ≠ 1 ∨ bt mmeals i0.toNatClampNeg = true := hx1_0
  replace hx1_1 : r1 = hsF mmeals i0 := hx1_1
  rcases hr1 with ⟨rfl, hf1⟩ | ⟨rfl, hf1⟩
  · have hf1 : 0 ≤ i0.toInt ∧ i0.toInt ≤ 5 := hf1
    refine lv_if_eq (tgt := 20) hx hb dX8_shares_5 (by decide) (fun c2 => absurd c2 (by decide)) (fun c2 => ?_)
    refine lv_iload_n hx hb dX8_shares_8 rfl (lv_at hl 3 rfl) ?_
    refine lv_i2l (v := i2.toInt64) hx hb dX8_shares_9 rfl ?_
    refine lv_lconst (v := 0) hx hb dX8_shares_10 (by decide) ?_
    refine lv_ldc2 (v := 3) hx hb hown hw0 dX8_shares_11 ?_
    refine mx_i (wr := [(nQ, .inl (cI, 6, .inl gQ)), (nM, .inl (cI, 6, .inl gM)), (nW, .inl (cI, 14, .inl gW)), (nX, .inl (cI, 4, .inl gX)), (n, .inr (8, [.int mleft, .int mmetres, .int mshut, .int mshield, .int mtoday, .int mbagged, .int mwarmed, .ref nW, .ref nC, .int mmeals, .ref nQ, .ref nM, .ref nD, .ref nA, .ref nK, .int msights, .ref nP, .int mpadMany, .ref nE, .ref nF, .ref nG, .int macts, .int mgusty, .int mleakAct, .int mleakMuch, .int mendOfCan, .int mbadAct, .int mbadWhy, .int mburnt, .int mboiled, .ref nH, .ref nI, .ref nJ, .ref nL, .int mhadLeft, .int mhadToday, .int mhadBagged, .int mhadWarmed, .int mleaves, .int mdayThen, .int mcoldThen, .ref nO, .int mportionMany, .ref nT, .ref nU, .int mleakMany, .int mleakActs, .ref nV, .ref nX, .ref nY, .ref nZ, .int mkeptAt, .int misWriting]))]) (va_runS (As := [.long (i2.toInt64), .long 0, .long 3]) (rest := []) ⟨hx, hb, hml, hown, hts⟩ (c_X8_in l dC dI cI cZ cK tS aK aV (i2.toInt64) 0 3 H.size) (va_cwS 3 hts (gw_s (fun _ h9 => List.mem_cons_of_mem _ h9) wm_155 wm_156 wm_5 wm_157) rfl rfl rfl (by decide +kernel) ⟨Nat.le_of_ble_eq_true rfl, Nat.le_of_ble_eq_true rfl⟩) (mx_preS hKx hP hD hS hA [] (by decide) rfl) rfl rfl hl.1 rfl (lv_room (Nat.le_of_ble_eq_true rfl)) dX8_shares_14 ⟨Nat.le_of_ble_eq_true rfl, Nat.le_of_ble_eq_true rfl⟩) hP hD hS hA [] [0, 1, 2, 3, 4] rfl rfl (by decide) (by decide) (fun r3 u3 H locs hq3 hP hD hS => ?_)
    replace hP : va_P (dC, dI) vwCl [(nQ, .inl (cI, 6, .inl gQ)), (nM, .inl (cI, 6, .inl gM)), (nW, .inl (cI, 14, .inl gW)), (nX, .inl (cI, 4, .inl gX)), (n, .inr (8, [.int mleft, .int mmetres, .int mshut, .int mshield, .int mtoday, .int mbagged, .int mwarmed, .ref nW, .ref nC, .int mmeals, .ref nQ, .ref nM, .ref nD, .ref nA, .ref nK, .int msights, .ref nP, .int mpadMany, .ref nE, .ref nF, .ref nG, .int macts, .int mgusty, .int mleakAct, .int mleakMuch, .int mendOfCan, .int mbadAct, .int mbadWhy, .int mburnt, .int mboiled, .ref nH, .ref nI, .ref nJ, .ref nL, .int mhadLeft, .int mhadToday, .int mhadBagged, .int mhadWarmed, .int mleaves, .int mdayThen, .int mcoldThen, .ref nO, .int mportionMany, .ref nT, .ref nU, .int mleakMany, .int mleakActs, .ref nV, .ref nX, .ref nY, .ref nZ, .int mkeptAt, .int misWriting]))] H := hP
    replace hD : va_D A [(nQ, .inl (cI, 6, .inl gQ)), (nM, .inl (cI, 6, .inl gM)), (nW, .inl (cI, 14, .inl gW)), (nX, .inl (cI, 4, .inl gX)), (n, .inr (8, [.int mleft, .int mmetres, .int mshut, .int mshield, .int mtoday, .int mbagged, .int mwarmed, .ref nW, .ref nC, .int mmeals, .ref nQ, .ref nM, .ref nD, .ref nA, .ref nK, .int msights, .ref nP, .int mpadMany, .ref nE, .ref nF, .ref nG, .int macts, .int mgusty, .int mleakAct, .int mleakMuch, .int mendOfCan, .int mbadAct, .int mbadWhy, .int mburnt, .int mboiled, .ref nH, .ref nI, .ref nJ, .ref nL, .int mhadLeft, .int mhadToday, .int mhadBagged, .int mhadWarmed, .int mleaves, .int mdayThen, .int mcoldThen, .ref nO, .int mportionMany, .ref nT, .ref nU, .int mleakMany, .int mleakActs, .ref nV, .ref nX, .ref nY, .ref nZ, .int mkeptAt, .int misWriting]))] := hD
    rcases hq3 with ⟨rfl, hf3⟩ | ⟨rfl, hf3⟩
    · have hf3 : (0 : Int) ≤ i2.toInt ∧ i2.toInt ≤ (3 : Int) := (by have h9 := hf3; simp only [Int32.toInt_toInt64] at h9; exact h9)
      refine lv_if_ne (tgt := 22) hx hb dX8_shares_17 (by decide) (fun c4 => ?_) (fun c4 => absurd c4 (by decide))
      refine lv_iload_n hx hb dX8_shares_22 rfl (lv_at hl 2 rfl) ?_
      refine lv_i2l (v := i1.toInt64) hx hb dX8_shares_23 rfl ?_
      refine lv_lconst (v := 0) hx hb dX8_shares_24 (by decide) ?_
      refine lv_ldc2 (v := 99999999) hx hb hown hw1 dX8_shares_25 ?_
      refine mx_i (wr := [(nQ, .inl (cI, 6, .inl gQ)), (nM, .inl (cI, 6, .inl gM)), (nW, .inl (cI, 14, .inl gW)), (nX, .inl (cI, 4, .inl gX)), (n, .inr (8, [.int mleft, .int mmetres, .int mshut, .int mshield, .int mtoday, .int mbagged, .int mwarmed, .ref nW, .ref nC, .int mmeals, .ref nQ, .ref nM, .ref nD, .ref nA, .ref nK, .int msights, .ref nP, .int mpadMany, .ref nE, .ref nF, .ref nG, .int macts, .int mgusty, .int mleakAct, .int mleakMuch, .int mendOfCan, .int mbadAct, .int mbadWhy, .int mburnt, .int mboiled, .ref nH, .ref nI, .ref nJ, .ref nL, .int mhadLeft, .int mhadToday, .int mhadBagged, .int mhadWarmed, .int mleaves, .int mdayThen, .int mcoldThen, .ref nO, .int mportionMany, .ref nT, .ref nU, .int mleakMany, .int mleakActs, .ref nV, .ref nX, .ref nY, .ref nZ, .int mkeptAt, .int misWriting]))]) (va_runS (As := [.long (i1.toInt64), .long 0, .long 99999999]) (rest := []) ⟨hx, hb, hml, hown, hts⟩ (c_X8_in l dC dI cI cZ cK tS aK aV (i1.toInt64) 0 99999999 H.size) (va_cwS 3 hts (gw_s (fun _ h9 => List.mem_cons_of_mem _ h9) wm_155 wm_156 wm_5 wm_157) rfl rfl rfl (by decide +kernel) ⟨Nat.le_of_ble_eq_true rfl, Nat.le_of_ble_eq_true rfl⟩) (mx_preS hKx hP hD hS hA [] (by decide) rfl) rfl rfl hl.1 rfl (lv_room (Nat.le_of_ble_eq_true rfl)) dX8_shares_28 ⟨Nat.le_of_ble_eq_true rfl, Nat.le_of_ble_eq_true rfl⟩) hP hD hS hA [] [0, 1, 2, 3, 4] rfl rfl (by decide) (by decide) (fun r5 u5 H locs hq5 hP hD hS => ?_)
      replace hP : va_P (dC, dI) vwCl [(nQ, .inl (cI, 6, .inl gQ)), (nM, .inl (cI, 6, .inl gM)), (nW, .inl (cI, 14, .inl gW)), (nX, .inl (cI, 4, .inl gX)), (n, .inr (8, [.int mleft, .int mmetres, .int mshut, .int mshield, .int mtoday, .int mbagged, .int mwarmed, .ref nW, .ref nC, .int mmeals, .ref nQ, .ref nM, .ref nD, .ref nA, .ref nK, .int msights, .ref nP, .int mpadMany, .ref nE, .ref nF, .ref nG, .int macts, .int mgusty, .int mleakAct, .int mleakMuch, .int mendOfCan, .int mbadAct, .int mbadWhy, .int mburnt, .int mboiled, .ref nH, .ref nI, .ref nJ, .ref nL, .int mhadLeft, .int mhadToday, .int mhadBagged, .int mhadWarmed, .int mleaves, .int mdayThen, .int mcoldThen, .ref nO, .int mportionMany, .ref nT, .ref nU, .int mleakMany, .int mleakActs, .ref nV, .ref nX, .ref nY, .ref nZ, .int mkeptAt, .int misWriting]))] H := hP
      replace hD : va_D A [(nQ, .inl (cI, 6, .inl gQ)), (nM, .inl (cI, 6, .inl gM)), (nW, .inl (cI, 14, .inl gW)), (nX, .inl (cI, 4, .inl gX)), (n, .inr (8, [.int mleft, .int mmetres, .int mshut, .int mshield, .int mtoday, .int mbagged, .int mwarmed, .ref nW, .ref nC, .int mmeals, .ref nQ, .ref nM, .ref nD, .ref nA, .ref nK, .int msights, .ref nP, .int mpadMany, .ref nE, .ref nF, .ref nG, .int macts, .int mgusty, .int mleakAct, .int mleakMuch, .int mendOfCan, .int mbadAct, .int mbadWhy, .int mburnt, .int mboiled, .ref nH, .ref nI, .ref nJ, .ref nL, .int mhadLeft, .int mhadToday, .int mhadBagged, .int mhadWarmed, .int mleaves, .int mdayThen, .int mcoldThen, .ref nO, .int mportionMany, .ref nT, .ref nU, .int mleakMany, .int mleakActs, .ref nV, .ref nX, .ref nY, .ref nZ, .int mkeptAt, .int misWriting]))] := hD
      rcases hq5 with ⟨rfl, hf5⟩ | ⟨rfl, hf5⟩
      · have hf5 : (0 : Int) ≤ i1.toInt ∧ i1.toInt ≤ (99999999 : Int) := (by have h9 := hf5; simp only [Int32.toInt_toInt64] at h9; exact h9)
        refine lv_if_ne (tgt := 37) hx hb dX8_shares_31 (by decide) (fun c6 => ?_) (fun c6 => absurd c6 (by decide))
        refine lv_iload_n hx hb dX8_shares_37 rfl (lv_at hl 2 rfl) ?_
        refine lv_istore (lv' := [(4, .int i1), (0, .ref n), (1, .int i0), (2, .int i1), (3, .int i2)]) hx hb dX8_shares_38 hl (by decide) rfl (fun ls hl => ?_)
        refine lv_iconst (v := 3) hx hb dX8_shares_40 (by decide) ?_
        refine lv_istore (lv' := [(5, .int 3), (4, .int i1), (0, .ref n), (1, .int i0), (2, .int i1), (3, .int i2)]) hx hb dX8_shares_41 hl (by decide) rfl (fun ls hl => ?_)
        refine lv_iload hx hb dX8_shares_43 (lv_at hl 0 rfl) ?_
        refine lv_if_lt (tgt := 73) hx hb dX8_shares_45 (by decide) (fun c7 => absurd c7 (by decide)) (fun c7 => ?_)
        refine lv_aload_n hx hb dX8_shares_48 rfl (lv_at hl 2 rfl) ?_
        refine va_get (D := (dC, dI)) (ci := 8) (v := .ref nX) (C := RX8) (T := TX8) (N := 53) hx hb hts hin8 hown hK hP 4 rfl rfl 48 (by decide) hw2 (fun _ h9 => h9) rfl dX8_shares_49 ?_
        refine lv_iload hx hb dX8_shares_52 (lv_at hl 0 rfl) ?_
        refine lv_iload hx hb dX8_shares_54 (lv_at hl 1 rfl) ?_
        refine lv_bipush (v := 100) hx hb dX8_shares_56 (by decide) ?_
        refine lv_irem hx hb dX8_shares_58 (by decide) ?_
        refine lv_topi (fun x8 e8 => ?_)
        have f8 : x8.toInt = i1.toInt % 100 := by rw [e8]; exact tremc (by omega) (by decide)
        refine va_iast hx hb hK hP hD hS 3 0 rfl rfl (vin (by decide) (by decide)) dX8_shares_59 (fun H locs hP hD hS => ?_)
        replace hP : va_P (dC, dI) vwCl [(nQ, .inl (cI, 6, .inl gQ)), (nM, .inl (cI, 6, .inl gM)), (nW, .inl (cI, 14, .inl gW)), (nX, .inl (cI, 4, .inl (upd gX 3 x8))), (n, .inr (8, [.int mleft, .int mmetres, .int mshut, .int mshield, .int mtoday, .int mbagged, .int mwarmed, .ref nW, .ref nC, .int mmeals, .ref nQ, .ref nM, .ref nD, .ref nA, .ref nK, .int msights, .ref nP, .int mpadMany, .ref nE, .ref nF, .ref nG, .int macts, .int mgusty, .int mleakAct, .int mleakMuch, .int mendOfCan, .int mbadAct, .int mbadWhy, .int mburnt, .int mboiled, .ref nH, .ref nI, .ref nJ, .ref nL, .int mhadLeft, .int mhadToday, .int mhadBagged, .int mhadWarmed, .int mleaves, .int mdayThen, .int mcoldThen, .ref nO, .int mportionMany, .ref nT, .ref nU, .int mleakMany, .int mleakActs, .ref nV, .ref nX, .ref nY, .ref nZ, .int mkeptAt, .int misWriting]))] H := hP
        replace hD : va_D A [(nQ, .inl (cI, 6, .inl gQ)), (nM, .inl (cI, 6, .inl gM)), (nW, .inl (cI, 14, .inl gW)), (nX, .inl (cI, 4, .inl (upd gX 3 x8))), (n, .inr (8, [.int mleft, .int mmetres, .int mshut, .int mshield, .int mtoday, .int mbagged, .int mwarmed, .ref nW, .ref nC, .int mmeals, .ref nQ, .ref nM, .ref nD, .ref nA, .ref nK, .int msights, .ref nP, .int mpadMany, .ref nE, .ref nF, .ref nG, .int macts, .int mgusty, .int mleakAct, .int mleakMuch, .int mendOfCan, .int mbadAct, .int mbadWhy, .int mburnt, .int mboiled, .ref nH, .ref nI, .ref nJ, .ref nL, .int mhadLeft, .int mhadToday, .int mhadBagged, .int mhadWarmed, .int mleaves, .int mdayThen, .int mcoldThen, .ref nO, .int mportionMany, .ref nT, .ref nU, .int mleakMany, .int mleakActs, .ref nV, .ref nX, .ref nY, .ref nZ, .int mkeptAt, .int misWriting]))] := hD
        refine lv_iload hx hb dX8_shares_60 (lv_at hl 1 rfl) ?_
        refine lv_bipush (v := 100) hx hb dX8_shares_62 (by decide) ?_
        refine lv_idiv hx hb dX8_shares_64 (by decide) ?_
        refine lv_topi (fun x9 e9 => ?_)
        have f9 : x9.toInt = i1.toInt / 100 := by rw [e9]; exact tdivc (by omega) (by decide)
        refine lv_istore (lv' := [(4, .int x9), (5, .int 3), (0, .ref n), (1, .int i0), (2, .int i1), (3, .int i2)]) hx hb dX8_shares_65 hl (by decide) rfl (fun ls hl => ?_)
        refine lv_iinc (v := 2) (lv' := [(5, .int 2), (4, .int x9), (0, .ref n), (1, .int i0), (2, .int i1), (3, .int i2)]) hx hb dX8_shares_67 hl (k := 1) rfl (by decide) (by decide) rfl (fun ls hl => ?_)
        refine lv_goto (tgt := 43) hx hb dX8_shares_70 (by decide) ?_
        refine lv_iload hx hb dX8_shares_43 (lv_at hl 0 rfl) ?_
        refine lv_if_lt (tgt := 73) hx hb dX8_shares_45 (by decide) (fun c10 => absurd c10 (by decide)) (fun c10 => ?_)
        refine lv_aload_n hx hb dX8_shares_48 rfl (lv_at hl 2 rfl) ?_
        refine va_get (D := (dC, dI)) (ci := 8) (v := .ref nX) (C := RX8) (T := TX8) (N := 53) hx hb hts hin8 hown hK hP 4 rfl rfl 48 (by decide) hw2 (fun _ h9 => h9) rfl dX8_shares_49 ?_
        refine lv_iload hx hb dX8_shares_52 (lv_at hl 0 rfl) ?_
        refine lv_iload hx hb dX8_shares_54 (lv_at hl 1 rfl) ?_
        refine lv_bipush (v := 100) hx hb dX8_shares_56 (by decide) ?_
        refine lv_irem hx hb dX8_shares_58 (by decide) ?_
        refine lv_topi (fun x11 e11 => ?_)
        have f11 : x11.toInt = x9.toInt % 100 := by rw [e11]; exact tremc (by omega) (by decide)
        refine va_iast hx hb hK hP hD hS 3 0 rfl rfl (vin (by decide) (by decide)) dX8_shares_59 (fun H locs hP hD hS => ?_)
        replace hP : va_P (dC, dI) vwCl [(nQ, .inl (cI, 6, .inl gQ)), (nM, .inl (cI, 6, .inl gM)), (nW, .inl (cI, 14, .inl gW)), (nX, .inl (cI, 4, .inl (upd (upd gX 3 x8) 2 x11))), (n, .inr (8, [.int mleft, .int mmetres, .int mshut, .int mshield, .int mtoday, .int mbagged, .int mwarmed, .ref nW, .ref nC, .int mmeals, .ref nQ, .ref nM, .ref nD, .ref nA, .ref nK, .int msights, .ref nP, .int mpadMany, .ref nE, .ref nF, .ref nG, .int macts, .int mgusty, .int mleakAct, .int mleakMuch, .int mendOfCan, .int mbadAct, .int mbadWhy, .int mburnt, .int mboiled, .ref nH, .ref nI, .ref nJ, .ref nL, .int mhadLeft, .int mhadToday, .int mhadBagged, .int mhadWarmed, .int mleaves, .int mdayThen, .int mcoldThen, .ref nO, .int mportionMany, .ref nT, .ref nU, .int mleakMany, .int mleakActs, .ref nV, .ref nX, .ref nY, .ref nZ, .int mkeptAt, .int misWriting]))] H := hP
        replace hD : va_D A [(nQ, .inl (cI, 6, .inl gQ)), (nM, .inl (cI, 6, .inl gM)), (nW, .inl (cI, 14, .inl gW)), (nX, .inl (cI, 4, .inl (upd (upd gX 3 x8) 2 x11))), (n, .inr (8, [.int mleft, .int mmetres, .int mshut, .int mshield, .int mtoday, .int mbagged, .int mwarmed, .ref nW, .ref nC, .int mmeals, .ref nQ, .ref nM, .ref nD, .ref nA, .ref nK, .int msights, .ref nP, .int mpadMany, .ref nE, .ref nF, .ref nG, .int macts, .int mgusty, .int mleakAct, .int mleakMuch, .int mendOfCan, .int mbadAct, .int mbadWhy, .int mburnt, .int mboiled, .ref nH, .ref nI, .ref nJ, .ref nL, .int mhadLeft, .int mhadToday, .int mhadBagged, .int mhadWarmed, .int mleaves, .int mdayThen, .int mcoldThen, .ref nO, .int mportionMany, .ref nT, .ref nU, .int mleakMany, .int mleakActs, .ref nV, .ref nX, .ref nY, .ref nZ, .int mkeptAt, .int misWriting]))] := hD
        refine lv_iload hx hb dX8_shares_60 (lv_at hl 1 rfl) ?_
        refine lv_bipush (v := 100) hx hb dX8_shares_62 (by decide) ?_
        refine lv_idiv hx hb dX8_shares_64 (by decide) ?_
        refine lv_topi (fun x12 e12 => ?_)
        have f12 : x12.toInt = x9.toInt / 100 := by rw [e12]; exact tdivc (by omega) (by decide)
        refine lv_istore (lv' := [(4, .int x12), (5, .int 2), (0, .ref n), (1, .int i0), (2, .int i1), (3, .int i2)]) hx hb dX8_shares_65 hl (by decide) rfl (fun ls hl => ?_)
        refine lv_iinc (v := 1) (lv' := [(5, .int 1), (4, .int x12), (0, .ref n), (1, .int i0), (2, .int i1), (3, .int i2)]) hx hb dX8_shares_67 hl (k := 1) rfl (by decide) (by decide) rfl (fun ls hl => ?_)
        refine lv_goto (tgt := 43) hx hb dX8_shares_70 (by decide) ?_
        refine lv_iload hx hb dX8_shares_43 (lv_at hl 0 rfl) ?_
        refine lv_if_lt (tgt := 73) hx hb dX8_shares_45 (by decide) (fun c13 => absurd c13 (by decide)) (fun c13 => ?_)
        refine lv_aload_n hx hb dX8_shares_48 rfl (lv_at hl 2 rfl) ?_
        refine va_get (D := (dC, dI)) (ci := 8) (v := .ref nX) (C := RX8) (T := TX8) (N := 53) hx hb hts hin8 hown hK hP 4 rfl rfl 48 (by decide) hw2 (fun _ h9 => h9) rfl dX8_shares_49 ?_
        refine lv_iload hx hb dX8_shares_52 (lv_at hl 0 rfl) ?_
        refine lv_iload hx hb dX8_shares_54 (lv_at hl 1 rfl) ?_
        refine lv_bipush (v := 100) hx hb dX8_shares_56 (by decide) ?_
        refine lv_irem hx hb dX8_shares_58 (by decide) ?_
        refine lv_topi (fun x14 e14 => ?_)
        have f14 : x14.toInt = x12.toInt % 100 := by rw [e14]; exact tremc (by omega) (by decide)
        refine va_iast hx hb hK hP hD hS 3 0 rfl rfl (vin (by decide) (by decide)) dX8_shares_59 (fun H locs hP hD hS => ?_)
        replace hP : va_P (dC, dI) vwCl [(nQ, .inl (cI, 6, .inl gQ)), (nM, .inl (cI, 6, .inl gM)), (nW, .inl (cI, 14, .inl gW)), (nX, .inl (cI, 4, .inl (upd (upd (upd gX 3 x8) 2 x11) 1 x14))), (n, .inr (8, [.int mleft, .int mmetres, .int mshut, .int mshield, .int mtoday, .int mbagged, .int mwarmed, .ref nW, .ref nC, .int mmeals, .ref nQ, .ref nM, .ref nD, .ref nA, .ref nK, .int msights, .ref nP, .int mpadMany, .ref nE, .ref nF, .ref nG, .int macts, .int mgusty, .int mleakAct, .int mleakMuch, .int mendOfCan, .int mbadAct, .int mbadWhy, .int mburnt, .int mboiled, .ref nH, .ref nI, .ref nJ, .ref nL, .int mhadLeft, .int mhadToday, .int mhadBagged, .int mhadWarmed, .int mleaves, .int mdayThen, .int mcoldThen, .ref nO, .int mportionMany, .ref nT, .ref nU, .int mleakMany, .int mleakActs, .ref nV, .ref nX, .ref nY, .ref nZ, .int mkeptAt, .int misWriting]))] H := hP
        replace hD : va_D A [(nQ, .inl (cI, 6, .inl gQ)), (nM, .inl (cI, 6, .inl gM)), (nW, .inl (cI, 14, .inl gW)), (nX, .inl (cI, 4, .inl (upd (upd (upd gX 3 x8) 2 x11) 1 x14))), (n, .inr (8, [.int mleft, .int mmetres, .int mshut, .int mshield, .int mtoday, .int mbagged, .int mwarmed, .ref nW, .ref nC, .int mmeals, .ref nQ, .ref nM, .ref nD, .ref nA, .ref nK, .int msights, .ref nP, .int mpadMany, .ref nE, .ref nF, .ref nG, .int macts, .int mgusty, .int mleakAct, .int mleakMuch, .int mendOfCan, .int mbadAct, .int mbadWhy, .int mburnt, .int mboiled, .ref nH, .ref nI, .ref nJ, .ref nL, .int mhadLeft, .int mhadToday, .int mhadBagged, .int mhadWarmed, .int mleaves, .int mdayThen, .int mcoldThen, .ref nO, .int mportionMany, .ref nT, .ref nU, .int mleakMany, .int mleakActs, .ref nV, .ref nX, .ref nY, .ref nZ, .int mkeptAt, .int misWriting]))] := hD
        refine lv_iload hx hb dX8_shares_60 (lv_at hl 1 rfl) ?_
        refine lv_bipush (v := 100) hx hb dX8_shares_62 (by decide) ?_
        refine lv_idiv hx hb dX8_shares_64 (by decide) ?_
        refine lv_topi (fun x15 e15 => ?_)
        have f15 : x15.toInt = x12.toInt / 100 := by rw [e15]; exact tdivc (by omega) (by decide)
        refine lv_istore (lv' := [(4, .int x15), (5, .int 1), (0, .ref n), (1, .int i0), (2, .int i1), (3, .int i2)]) hx hb dX8_shares_65 hl (by decide) rfl (fun ls hl => ?_)
        refine lv_iinc (v := 0) (lv' := [(5, .int 0), (4, .int x15), (0, .ref n), (1, .int i0), (2, .int i1), (3, .int i2)]) hx hb dX8_shares_67 hl (k := 1) rfl (by decide) (by decide) rfl (fun ls hl => ?_)
        refine lv_goto (tgt := 43) hx hb dX8_shares_70 (by decide) ?_
        refine lv_iload hx hb dX8_shares_43 (lv_at hl 0 rfl) ?_
        refine lv_if_lt (tgt := 73) hx hb dX8_shares_45 (by decide) (fun c16 => absurd c16 (by decide)) (fun c16 => ?_)
        refine lv_aload_n hx hb dX8_shares_48 rfl (lv_at hl 2 rfl) ?_
        refine va_get (D := (dC, dI)) (ci := 8) (v := .ref nX) (C := RX8) (T := TX8) (N := 53) hx hb hts hin8 hown hK hP 4 rfl rfl 48 (by decide) hw2 (fun _ h9 => h9) rfl dX8_shares_49 ?_
        refine lv_iload hx hb dX8_shares_52 (lv_at hl 0 rfl) ?_
        refine lv_iload hx hb dX8_shares_54 (lv_at hl 1 rfl) ?_
        refine lv_bipush (v := 100) hx hb dX8_shares_56 (by decide) ?_
        refine lv_irem hx hb dX8_shares_58 (by decide) ?_
        refine lv_topi (fun x17 e17 => ?_)
        have f17 : x17.toInt = x15.toInt % 100 := by rw [e17]; exact tremc (by omega) (by decide)
        refine va_iast hx hb hK hP hD hS 3 0 rfl rfl (vin (by decide) (by decide)) dX8_shares_59 (fun H locs hP hD hS => ?_)
        replace hP : va_P (dC, dI) vwCl [(nQ, .inl (cI, 6, .inl gQ)), (nM, .inl (cI, 6, .inl gM)), (nW, .inl (cI, 14, .inl gW)), (nX, .inl (cI, 4, .inl (upd (upd (upd (upd gX 3 x8) 2 x11) 1 x14) 0 x17))), (n, .inr (8, [.int mleft, .int mmetres, .int mshut, .int mshield, .int mtoday, .int mbagged, .int mwarmed, .ref nW, .ref nC, .int mmeals, .ref nQ, .ref nM, .ref nD, .ref nA, .ref nK, .int msights, .ref nP, .int mpadMany, .ref nE, .ref nF, .ref nG, .int macts, .int mgusty, .int mleakAct, .int mleakMuch, .int mendOfCan, .int mbadAct, .int mbadWhy, .int mburnt, .int mboiled, .ref nH, .ref nI, .ref nJ, .ref nL, .int mhadLeft, .int mhadToday, .int mhadBagged, .int mhadWarmed, .int mleaves, .int mdayThen, .int mcoldThen, .ref nO, .int mportionMany, .ref nT, .ref nU, .int mleakMany, .int mleakActs, .ref nV, .ref nX, .ref nY, .ref nZ, .int mkeptAt, .int misWriting]))] H := hP
        replace hD : va_D A [(nQ, .inl (cI, 6, .inl gQ)), (nM, .inl (cI, 6, .inl gM)), (nW, .inl (cI, 14, .inl gW)), (nX, .inl (cI, 4, .inl (upd (upd (upd (upd gX 3 x8) 2 x11) 1 x14) 0 x17))), (n, .inr (8, [.int mleft, .int mmetres, .int mshut, .int mshield, .int mtoday, .int mbagged, .int mwarmed, .ref nW, .ref nC, .int mmeals, .ref nQ, .ref nM, .ref nD, .ref nA, .ref nK, .int msights, .ref nP, .int mpadMany, .ref nE, .ref nF, .ref nG, .int macts, .int mgusty, .int mleakAct, .int mleakMuch, .int mendOfCan, .int mbadAct, .int mbadWhy, .int mburnt, .int mboiled, .ref nH, .ref nI, .ref nJ, .ref nL, .int mhadLeft, .int mhadToday, .int mhadBagged, .int mhadWarmed, .int mleaves, .int mdayThen, .int mcoldThen, .ref nO, .int mportionMany, .ref nT, .ref nU, .int mleakMany, .int mleakActs, .ref nV, .ref nX, .ref nY, .ref nZ, .int mkeptAt, .int misWriting]))] := hD
        refine lv_iload hx hb dX8_shares_60 (lv_at hl 1 rfl) ?_
        refine lv_bipush (v := 100) hx hb dX8_shares_62 (by decide) ?_
        refine lv_idiv hx hb dX8_shares_64 (by decide) ?_
        refine lv_topi (fun x18 e18 => ?_)
        have f18 : x18.toInt = x15.toInt / 100 := by rw [e18]; exact tdivc (by omega) (by decide)
        refine lv_istore (lv' := [(4, .int x18), (5, .int 0), (0, .ref n), (1, .int i0), (2, .int i1), (3, .int i2)]) hx hb dX8_shares_65 hl (by decide) rfl (fun ls hl => ?_)
        refine lv_iinc (v := (-1)) (lv' := [(5, .int (-1)), (4, .int x18), (0, .ref n), (1, .int i0), (2, .int i1), (3, .int i2)]) hx hb dX8_shares_67 hl (k := 1) rfl (by decide) (by decide) rfl (fun ls hl => ?_)
        refine lv_goto (tgt := 43) hx hb dX8_shares_70 (by decide) ?_
        refine lv_iload hx hb dX8_shares_43 (lv_at hl 0 rfl) ?_
        refine lv_if_lt (tgt := 73) hx hb dX8_shares_45 (by decide) (fun c19 => ?_) (fun c19 => absurd c19 (by decide))
        refine lv_iconst (v := 0) hx hb dX8_shares_73 (by decide) ?_
        refine lv_istore (lv' := [(5, .int 0), (4, .int x18), (0, .ref n), (1, .int i0), (2, .int i1), (3, .int i2)]) hx hb dX8_shares_74 hl (by decide) rfl (fun ls hl => ?_)
        refine lv_aload_n hx hb dX8_shares_76 rfl (lv_at hl 2 rfl) ?_
        refine va_get (D := (dC, dI)) (ci := 8) (v := .int mleft) (C := RX8) (T := TX8) (N := 53) hx hb hts hin8 hown hK hP 4 rfl rfl 0 (by decide) hw3 (fun _ h9 => h9) rfl dX8_shares_77 ?_
        refine lv_aload_n hx hb dX8_shares_80 rfl (lv_at hl 2 rfl) ?_
        refine lv_iload_n hx hb dX8_shares_81 rfl (lv_at hl 3 rfl) ?_
        refine lv_aload_n hx hb dX8_shares_82 rfl (lv_at hl 2 rfl) ?_
        refine va_get (D := (dC, dI)) (ci := 8) (v := .ref nW) (C := RX8) (T := TX8) (N := 53) hx hb hts hin8 hown hK hP 4 rfl rfl 7 (by decide) hw4 (fun _ h9 => h9) rfl dX8_shares_83 ?_
        refine lv_aload_n hx hb dX8_shares_86 rfl (lv_at hl 2 rfl) ?_
        refine va_get (D := (dC, dI)) (ci := 8) (v := .int mtoday) (C := RX8) (T := TX8) (N := 53) hx hb hts hin8 hown hK hP 4 rfl rfl 4 (by decide) hw5 (fun _ h9 => h9) rfl dX8_shares_87 ?_
        refine va_iald hx hb hK hP 2 0 rfl rfl (vin (by omega) (by omega)) dX8_shares_90 ?_
        refine lv_topi (fun y20 e20 => ?_)
        obtain rfl : gW mtoday.toNatClampNeg = y20 := e20.symm
        have g20 : 0 ≤ (gW mtoday.toNatClampNeg).toInt ∧ (gW mtoday.toNatClampNeg).toInt ≤ 4 := rgI h_gW (by omega) (by omega)
        refine lv_iconst (v := 0) hx hb dX8_shares_91 (by decide) ?_
        refine mx_i (wr := [(nW, .inl (cI, 14, .inl gW)), (nX, .inl (cI, 4, .inl (upd (upd (upd (upd gX 3 x8) 2 x11) 1 x14) 0 x17)))]) (va_runV (As := [.int i0, .int (gW mtoday.toNatClampNeg), .int 0]) (rest := [.int mleft]) ⟨hx, hb, hml, hown, hts⟩ (c_X8_costBy l dC dI cI cZ cK tS aK aV n i0 (gW mtoday.toNatClampNeg) 0 mleft mmetres mshut mshield mtoday mbagged mwarmed nW nC mmeals nQ nM nD nA nK msights nP mpadMany nE nF nG macts mgusty mleakAct mleakMuch mendOfCan mbadAct mbadWhy mburnt mboiled nH nI nJ nL mhadLeft mhadToday mhadBagged mhadWarmed mleaves mdayThen mcoldThen nO mportionMany nT nU mleakMany mleakActs nV nX nY nZ mkeptAt misWriting gQ gM H.size h_gQ h_gM (by have z8 : (0 : Int32).toInt = 0 := rfl; first | omega | decide | assumption | trivial)) (cwV 3 hts (gw_v (fun _ h9 => List.mem_cons_of_mem _ h9) wm_484 wm_485 wm_486 wm_5 wm_487) rfl rfl rfl (by decide +kernel) ⟨Nat.le_of_ble_eq_true rfl, Nat.le_of_ble_eq_true rfl⟩) (mx_preV (C := RX8) (T := TX8) (N := 53) (ci := 8) hKx hP hD hS hA [4, 0, 1] (by decide) rfl rfl rfl) rfl rfl hl.1 rfl (lv_room (Nat.le_of_ble_eq_true rfl)) dX8_shares_92 ⟨Nat.le_of_ble_eq_true rfl, Nat.le_of_ble_eq_true rfl⟩) hP hD hS hA [4, 0, 1] [2, 3] rfl rfl (by decide) (by decide) (fun r21 u21 H locs hq21 hP hD hS => ?_)
        replace hP : va_P (dC, dI) vwCl [(nW, .inl (cI, 14, .inl gW)), (nX, .inl (cI, 4, .inl (upd (upd (upd (upd gX 3 x8) 2 x11) 1 x14) 0 x17))), (n, .inr (8, [.int mleft, .int mmetres, .int mshut, .int mshield, .int mtoday, .int mbagged, .int mwarmed, .ref nW, .ref nC, .int mmeals, .ref nQ, .ref nM, .ref nD, .ref nA, .ref nK, .int msights, .ref nP, .int mpadMany, .ref nE, .ref nF, .ref nG, .int macts, .int mgusty, .int mleakAct, .int mleakMuch, .int mendOfCan, .int mbadAct, .int mbadWhy, .int mburnt, .int mboiled, .ref nH, .ref nI, .ref nJ, .ref nL, .int mhadLeft, .int mhadToday, .int mhadBagged, .int mhadWarmed, .int mleaves, .int mdayThen, .int mcoldThen, .ref nO, .int mportionMany, .ref nT, .ref nU, .int mleakMany, .int mleakActs, .ref nV, .ref nX, .ref nY, .ref nZ, .int mkeptAt, .int misWriting])), (nQ, .inl (cI, 6, .inl gQ)), (nM, .inl (cI, 6, .inl gM))] H := hP
        replace hD : va_D A [(nW, .inl (cI, 14, .inl gW)), (nX, .inl (cI, 4, .inl (upd (upd (upd (upd gX 3 x8) 2 x11) 1 x14) 0 x17))), (n, .inr (8, [.int mleft, .int mmetres, .int mshut, .int mshield, .int mtoday, .int mbagged, .int mwarmed, .ref nW, .ref nC, .int mmeals, .ref nQ, .ref nM, .ref nD, .ref nA, .ref nK, .int msights, .ref nP, .int mpadMany, .ref nE, .ref nF, .ref nG, .int macts, .int mgusty, .int mleakAct, .int mleakMuch, .int mendOfCan, .int mbadAct, .int mbadWhy, .int mburnt, .int mboiled, .ref nH, .ref nI, .ref nJ, .ref nL, .int mhadLeft, .int mhadToday, .int mhadBagged, .int mhadWarmed, .int mleaves, .int mdayThen, .int mcoldThen, .ref nO, .int mportionMany, .ref nT, .ref nU, .int mleakMany, .int mleakActs, .ref nV, .ref nX, .ref nY, .ref nZ, .int mkeptAt, .int misWriting])), (nQ, .inl (cI, 6, .inl gQ)), (nM, .inl (cI, 6, .inl gM))] := hD
        have hr21 := hq21
        obtain rfl : (cbF (gQ i0.toNatClampNeg) (gM i0.toNatClampNeg) mshield (gW mtoday.toNatClampNeg) 0) = r21 := hr21.symm
        have hq9 : 1 ≤ (gQ i0.toNatClampNeg).toInt := hmq _ (by show i0.toInt.toNat < 6; omega) (hx1_0.resolve_left (by decide))
        have hc9 : 1 ≤ ((cbF (gQ i0.toNatClampNeg) (gM i0.toNatClampNeg) mshield (gW mtoday.toNatClampNeg) 0)).toInt := (cbF_rng (rgI h_gQ (i := i0) (by omega) (by omega)) (rgI h_gM (i := i0) (by omega) (by omega)) h_mshield (rgI h_gW (i := mtoday) (by omega) (by omega))).2.2 hq9
        refine lv_idiv hx hb dX8_shares_95 (by intro h9; have := teq h9; have h8 : (0 : Int32).toInt = 0 := rfl; omega) ?_
        refine lv_topi (fun x22 e22 => ?_)
        refine lv_istore (lv' := [(6, .int x22), (5, .int 0), (4, .int x18), (0, .ref n), (1, .int i0), (2, .int i1), (3, .int i2)]) hx hb dX8_shares_96 hl (by decide) rfl (fun ls hl => ?_)
        have z24 : (0 : Int32).toInt = 0 := rfl
        have hl0 := hl
        clear hl
        have hP0 := hP
        clear hP
        have hD0 := hD
        clear hD
        obtain ⟨y5, y6, yX, ex, hl, hP, hD⟩ : ∃ (y5 y6 : Int32) (yX : Nat → Int32), (y6.toInt ≤ y6.toInt) ∧ lv_has ls 9 [(6, .int y6), (5, .int y5), (4, .int x18), (0, .ref n), (1, .int i0), (2, .int i1), (3, .int i2)] ∧ va_P (dC, dI) vwCl [(nW, .inl (cI, 14, .inl gW)), (nX, .inl (cI, 4, .inl yX)), (n, .inr (8, [.int mleft, .int mmetres, .int mshut, .int mshield, .int mtoday, .int mbagged, .int mwarmed, .ref nW, .ref nC, .int mmeals, .ref nQ, .ref nM, .ref nD, .ref nA, .ref nK, .int msights, .ref nP, .int mpadMany, .ref nE, .ref nF, .ref nG, .int macts, .int mgusty, .int mleakAct, .int mleakMuch, .int mendOfCan, .int mbadAct, .int mbadWhy, .int mburnt, .int mboiled, .ref nH, .ref nI, .ref nJ, .ref nL, .int mhadLeft, .int mhadToday, .int mhadBagged, .int mhadWarmed, .int mleaves, .int mdayThen, .int mcoldThen, .ref nO, .int mportionMany, .ref nT, .ref nU, .int mleakMany, .int mleakActs, .ref nV, .ref nX, .ref nY, .ref nZ, .int mkeptAt, .int misWriting])), (nQ, .inl (cI, 6, .inl gQ)), (nM, .inl (cI, 6, .inl gM))] H ∧ va_D A [(nW, .inl (cI, 14, .inl gW)), (nX, .inl (cI, 4, .inl yX)), (n, .inr (8, [.int mleft, .int mmetres, .int mshut, .int mshield, .int mtoday, .int mbagged, .int mwarmed, .ref nW, .ref nC, .int mmeals, .ref nQ, .ref nM, .ref nD, .ref nA, .ref nK, .int msights, .ref nP, .int mpadMany, .ref nE, .ref nF, .ref nG, .int macts, .int mgusty, .int mleakAct, .int mleakMuch, .int mendOfCan, .int mbadAct, .int mbadWhy, .int mburnt, .int mboiled, .ref nH, .ref nI, .ref nJ, .ref nL, .int mhadLeft, .int mhadToday, .int mhadBagged, .int mhadWarmed, .int mleaves, .int mdayThen, .int mcoldThen, .ref nO, .int mportionMany, .ref nT, .ref nU, .int mleakMany, .int mleakActs, .ref nV, .ref nX, .ref nY, .ref nZ, .int mkeptAt, .int misWriting])), (nQ, .inl (cI, 6, .inl gQ)), (nM, .inl (cI, 6, .inl gM))] := ⟨0, x22, (upd (upd (upd (upd gX 3 x8) 2 x11) 1 x14) 0 x17), by omega, hl0, hP0, hD0⟩
        clear hl0 hP0 hD0
        obtain ⟨n23, hn⟩ : ∃ n : Nat, y6.toInt ≤ (n : Int) := ⟨(y6.toInt).toNat, by omega⟩
        induction n23 generalizing y5 y6 yX ls H locs with
        | zero =>
          skip
          refine lv_iload hx hb dX8_shares_98 (lv_at hl 0 rfl) ?_
          refine lv_if_le (tgt := 180) hx hb dX8_shares_100 (by decide) (fun c25 => ?_) (fun c25 => by exfalso; have t25 : (0 : Int) < y6.toInt := (tnle c25); omega)
          refine lv_iload hx hb dX8_shares_180 (lv_at hl 1 rfl) ?_
          have hP9 := mx_subP (wc := [(n, .inr (8, [.int mleft, .int mmetres, .int mshut, .int mshield, .int mtoday, .int mbagged, .int mwarmed, .ref nW, .ref nC, .int mmeals, .ref nQ, .ref nM, .ref nD, .ref nA, .ref nK, .int msights, .ref nP, .int mpadMany, .ref nE, .ref nF, .ref nG, .int macts, .int mgusty, .int mleakAct, .int mleakMuch, .int mendOfCan, .int mbadAct, .int mbadWhy, .int mburnt, .int mboiled, .ref nH, .ref nI, .ref nJ, .ref nL, .int mhadLeft, .int mhadToday, .int mhadBagged, .int mhadWarmed, .int mleaves, .int mdayThen, .int mcoldThen, .ref nO, .int mportionMany, .ref nT, .ref nU, .int mleakMany, .int mleakActs, .ref nV, .ref nX, .ref nY, .ref nZ, .int mkeptAt, .int misWriting])), (nQ, .inl (cI, 6, .inl gQ)), (nM, .inl (cI, 6, .inl gM)), (nW, .inl (cI, 14, .inl gW)), (nX, .inl (cI, 4, .inl yX))]) hP [2, 3, 4, 0, 1] rfl
          have hD9 := hD.sub (ws' := [(n, .inr (8, [.int mleft, .int mmetres, .int mshut, .int mshield, .int mtoday, .int mbagged, .int mwarmed, .ref nW, .ref nC, .int mmeals, .ref nQ, .ref nM, .ref nD, .ref nA, .ref nK, .int msights, .ref nP, .int mpadMany, .ref nE, .ref nF, .ref nG, .int macts, .int mgusty, .int mleakAct, .int mleakMuch, .int mendOfCan, .int mbadAct, .int mbadWhy, .int mburnt, .int mboiled, .ref nH, .ref nI, .ref nJ, .ref nL, .int mhadLeft, .int mhadToday, .int mhadBagged, .int mhadWarmed, .int mleaves, .int mdayThen, .int mcoldThen, .ref nO, .int mportionMany, .ref nT, .ref nU, .int mleakMany, .int mleakActs, .ref nV, .ref nX, .ref nY, .ref nZ, .int mkeptAt, .int misWriting])), (nQ, .inl (cI, 6, .inl gQ)), (nM, .inl (cI, 6, .inl gM)), (nW, .inl (cI, 14, .inl gW)), (nX, .inl (cI, 4, .inl yX))]) [2, 3, 4, 0, 1] (by decide) rfl
          exact W.iret (v := y5) hx hb hr (fun t ht hW => ⟨⟨y5, ((fun u9 => ([yX] : List (Nat → Int32)).getD u9 (fun _ => 0)), (fun u9 => ([] : List Int32).getD u9 0), (fun u9 => ([] : List Int64).getD u9 0)), rfl, trivial, by rw [ht]; exact hP9, hD9⟩, hS.F ht⟩) hS.2.2 dX8_shares_182
        | succ n23 ih =>
          skip
          refine lv_iload hx hb dX8_shares_98 (lv_at hl 0 rfl) ?_
          refine lv_if_le (tgt := 180) hx hb dX8_shares_100 (by decide) (fun c26 => ?_) (fun c26 => ?_)
          · have t26 : y6.toInt ≤ (0 : Int) := (tle c26)
            refine lv_iload hx hb dX8_shares_180 (lv_at hl 1 rfl) ?_
            have hP9 := mx_subP (wc := [(n, .inr (8, [.int mleft, .int mmetres, .int mshut, .int mshield, .int mtoday, .int mbagged, .int mwarmed, .ref nW, .ref nC, .int mmeals, .ref nQ, .ref nM, .ref nD, .ref nA, .ref nK, .int msights, .ref nP, .int mpadMany, .ref nE, .ref nF, .ref nG, .int macts, .int mgusty, .int mleakAct, .int mleakMuch, .int mendOfCan, .int mbadAct, .int mbadWhy, .int mburnt, .int mboiled, .ref nH, .ref nI, .ref nJ, .ref nL, .int mhadLeft, .int mhadToday, .int mhadBagged, .int mhadWarmed, .int mleaves, .int mdayThen, .int mcoldThen, .ref nO, .int mportionMany, .ref nT, .ref nU, .int mleakMany, .int mleakActs, .ref nV, .ref nX, .ref nY, .ref nZ, .int mkeptAt, .int misWriting])), (nQ, .inl (cI, 6, .inl gQ)), (nM, .inl (cI, 6, .inl gM)), (nW, .inl (cI, 14, .inl gW)), (nX, .inl (cI, 4, .inl yX))]) hP [2, 3, 4, 0, 1] rfl
            have hD9 := hD.sub (ws' := [(n, .inr (8, [.int mleft, .int mmetres, .int mshut, .int mshield, .int mtoday, .int mbagged, .int mwarmed, .ref nW, .ref nC, .int mmeals, .ref nQ, .ref nM, .ref nD, .ref nA, .ref nK, .int msights, .ref nP, .int mpadMany, .ref nE, .ref nF, .ref nG, .int macts, .int mgusty, .int mleakAct, .int mleakMuch, .int mendOfCan, .int mbadAct, .int mbadWhy, .int mburnt, .int mboiled, .ref nH, .ref nI, .ref nJ, .ref nL, .int mhadLeft, .int mhadToday, .int mhadBagged, .int mhadWarmed, .int mleaves, .int mdayThen, .int mcoldThen, .ref nO, .int mportionMany, .ref nT, .ref nU, .int mleakMany, .int mleakActs, .ref nV, .ref nX, .ref nY, .ref nZ, .int mkeptAt, .int misWriting])), (nQ, .inl (cI, 6, .inl gQ)), (nM, .inl (cI, 6, .inl gM)), (nW, .inl (cI, 14, .inl gW)), (nX, .inl (cI, 4, .inl yX))]) [2, 3, 4, 0, 1] (by decide) rfl
            exact W.iret (v := y5) hx hb hr (fun t ht hW => ⟨⟨y5, ((fun u9 => ([yX] : List (Nat → Int32)).getD u9 (fun _ => 0)), (fun u9 => ([] : List Int32).getD u9 0), (fun u9 => ([] : List Int64).getD u9 0)), rfl, trivial, by rw [ht]; exact hP9, hD9⟩, hS.F ht⟩) hS.2.2 dX8_shares_182
          · have t26 : (0 : Int) < y6.toInt := (tnle c26)
            refine lv_iconst (v := 0) hx hb dX8_shares_103 (by decide) ?_
            refine lv_istore (lv' := [(7, .int 0), (6, .int y6), (5, .int y5), (4, .int x18), (0, .ref n), (1, .int i0), (2, .int i1), (3, .int i2)]) hx hb dX8_shares_104 hl (by decide) rfl (fun ls hl => ?_)
            refine lv_iconst (v := 1) hx hb dX8_shares_106 (by decide) ?_
            refine lv_istore (lv' := [(8, .int 1), (7, .int 0), (6, .int y6), (5, .int y5), (4, .int x18), (0, .ref n), (1, .int i0), (2, .int i1), (3, .int i2)]) hx hb dX8_shares_107 hl (by decide) rfl (fun ls hl => ?_)
            refine lv_iload hx hb dX8_shares_109 (lv_at hl 0 rfl) ?_
            refine lv_iconst (v := 4) hx hb dX8_shares_111 (by decide) ?_
            refine lv_icmp_ge (tgt := 147) hx hb dX8_shares_112 (by decide) (fun c27 => absurd c27 (by decide)) (fun c27 => ?_)
            refine lv_aload_n hx hb dX8_shares_115 rfl (lv_at hl 5 rfl) ?_
            refine va_get (D := (dC, dI)) (ci := 8) (v := .ref nX) (C := RX8) (T := TX8) (N := 53) hx hb hts hin8 hown hK hP 2 rfl rfl 48 (by decide) hw2 (fun _ h9 => h9) rfl dX8_shares_116 ?_
            refine lv_iload hx hb dX8_shares_119 (lv_at hl 0 rfl) ?_
            refine va_iald hx hb hK hP 1 0 rfl rfl (vin (by decide) (by decide)) dX8_shares_121 ?_
            refine lv_topi (fun y28 e28 => ?_)
            obtain rfl : yX 1 = y28 := e28.symm
            refine lv_aload_n hx hb dX8_shares_122 rfl (lv_at hl 5 rfl) ?_
            refine va_get (D := (dC, dI)) (ci := 8) (v := .ref nX) (C := RX8) (T := TX8) (N := 53) hx hb hts hin8 hown hK hP 2 rfl rfl 48 (by decide) hw2 (fun _ h9 => h9) rfl dX8_shares_123 ?_
            refine lv_iload hx hb dX8_shares_126 (lv_at hl 1 rfl) ?_
            refine va_iald hx hb hK hP 1 0 rfl rfl (vin (by decide) (by decide)) dX8_shares_128 ?_
            refine lv_topi (fun y29 e29 => ?_)
            obtain rfl : yX 0 = y29 := e29.symm
            refine lv_icmp_ge (tgt := 137) hx hb dX8_shares_129 (by decide) (fun c30 => ?_) (fun c30 => ?_)
            · have t30 : (yX 0).toInt ≤ (yX 1).toInt := (tle c30)
              refine lv_iload hx hb dX8_shares_137 (lv_at hl 1 rfl) ?_
              refine lv_istore (lv' := [(7, .int 0), (8, .int 1), (6, .int y6), (5, .int y5), (4, .int x18), (0, .ref n), (1, .int i0), (2, .int i1), (3, .int i2)]) hx hb dX8_shares_139 hl (by decide) rfl (fun ls hl => ?_)
              refine lv_iinc (v := 2) (lv' := [(8, .int 2), (7, .int 0), (6, .int y6), (5, .int y5), (4, .int x18), (0, .ref n), (1, .int i0), (2, .int i1), (3, .int i2)]) hx hb dX8_shares_141 hl (k := 1) rfl (by decide) (by decide) rfl (fun ls hl => ?_)
              refine lv_goto (tgt := 109) hx hb dX8_shares_144 (by decide) ?_
              refine lv_iload hx hb dX8_shares_109 (lv_at hl 0 rfl) ?_
              refine lv_iconst (v := 4) hx hb dX8_shares_111 (by decide) ?_
              refine lv_icmp_ge (tgt := 147) hx hb dX8_shares_112 (by decide) (fun c31 => absurd c31 (by decide)) (fun c31 => ?_)
              refine lv_aload_n hx hb dX8_shares_115 rfl (lv_at hl 5 rfl) ?_
              refine va_get (D := (dC, dI)) (ci := 8) (v := .ref nX) (C := RX8) (T := TX8) (N := 53) hx hb hts hin8 hown hK hP 2 rfl rfl 48 (by decide) hw2 (fun _ h9 => h9) rfl dX8_shares_116 ?_
              refine lv_iload hx hb dX8_shares_119 (lv_at hl 0 rfl) ?_
              refine va_iald hx hb hK hP 1 0 rfl rfl (vin (by decide) (by decide)) dX8_shares_121 ?_
              refine lv_topi (fun y32 e32 => ?_)
              obtain rfl : yX 2 = y32 := e32.symm
              refine lv_aload_n hx hb dX8_shares_122 rfl (lv_at hl 5 rfl) ?_
              refine va_get (D := (dC, dI)) (ci := 8) (v := .ref nX) (C := RX8) (T := TX8) (N := 53) hx hb hts hin8 hown hK hP 2 rfl rfl 48 (by decide) hw2 (fun _ h9 => h9) rfl dX8_shares_123 ?_
              refine lv_iload hx hb dX8_shares_126 (lv_at hl 1 rfl) ?_
              refine va_iald hx hb hK hP 1 0 rfl rfl (vin (by decide) (by decide)) dX8_shares_128 ?_
              refine lv_topi (fun y33 e33 => ?_)
              obtain rfl : yX 0 = y33 := e33.symm
              refine lv_icmp_ge (tgt := 137) hx hb dX8_shares_129 (by decide) (fun c34 => ?_) (fun c34 => ?_)
              · have t34 : (yX 0).toInt ≤ (yX 2).toInt := (tle c34)
                refine lv_iload hx hb dX8_shares_137 (lv_at hl 1 rfl) ?_
                refine lv_istore (lv' := [(7, .int 0), (8, .int 2), (6, .int y6), (5, .int y5), (4, .int x18), (0, .ref n), (1, .int i0), (2, .int i1), (3, .int i2)]) hx hb dX8_shares_139 hl (by decide) rfl (fun ls hl => ?_)
                refine lv_iinc (v := 3) (lv' := [(8, .int 3), (7, .int 0), (6, .int y6), (5, .int y5), (4, .int x18), (0, .ref n), (1, .int i0), (2, .int i1), (3, .int i2)]) hx hb dX8_shares_141 hl (k := 1) rfl (by decide) (by decide) rfl (fun ls hl => ?_)
                refine lv_goto (tgt := 109) hx hb dX8_shares_144 (by decide) ?_
                refine lv_iload hx hb dX8_shares_109 (lv_at hl 0 rfl) ?_
                refine lv_iconst (v := 4) hx hb dX8_shares_111 (by decide) ?_
                refine lv_icmp_ge (tgt := 147) hx hb dX8_shares_112 (by decide) (fun c35 => absurd c35 (by decide)) (fun c35 => ?_)
                refine lv_aload_n hx hb dX8_shares_115 rfl (lv_at hl 5 rfl) ?_
                refine va_get (D := (dC, dI)) (ci := 8) (v := .ref nX) (C := RX8) (T := TX8) (N := 53) hx hb hts hin8 hown hK hP 2 rfl rfl 48 (by decide) hw2 (fun _ h9 => h9) rfl dX8_shares_116 ?_
                refine lv_iload hx hb dX8_shares_119 (lv_at hl 0 rfl) ?_
                refine va_iald hx hb hK hP 1 0 rfl rfl (vin (by decide) (by decide)) dX8_shares_121 ?_
                refine lv_topi (fun y36 e36 => ?_)
                obtain rfl : yX 3 = y36 := e36.symm
                refine lv_aload_n hx hb dX8_shares_122 rfl (lv_at hl 5 rfl) ?_
                refine va_get (D := (dC, dI)) (ci := 8) (v := .ref nX) (C := RX8) (T := TX8) (N := 53) hx hb hts hin8 hown hK hP 2 rfl rfl 48 (by decide) hw2 (fun _ h9 => h9) rfl dX8_shares_123 ?_
                refine lv_iload hx hb dX8_shares_126 (lv_at hl 1 rfl) ?_
                refine va_iald hx hb hK hP 1 0 rfl rfl (vin (by decide) (by decide)) dX8_shares_128 ?_
                refine lv_topi (fun y37 e37 => ?_)
                obtain rfl : yX 0 = y37 := e37.symm
                refine lv_icmp_ge (tgt := 137) hx hb dX8_shares_129 (by decide) (fun c38 => ?_) (fun c38 => ?_)
                · have t38 : (yX 0).toInt ≤ (yX 3).toInt := (tle c38)
                  refine lv_iload hx hb dX8_shares_137 (lv_at hl 1 rfl) ?_
                  refine lv_istore (lv' := [(7, .int 0), (8, .int 3), (6, .int y6), (5, .int y5), (4, .int x18), (0, .ref n), (1, .int i0), (2, .int i1), (3, .int i2)]) hx hb dX8_shares_139 hl (by decide) rfl (fun ls hl => ?_)
                  refine lv_iinc (v := 4) (lv' := [(8, .int 4), (7, .int 0), (6, .int y6), (5, .int y5), (4, .int x18), (0, .ref n), (1, .int i0), (2, .int i1), (3, .int i2)]) hx hb dX8_shares_141 hl (k := 1) rfl (by decide) (by decide) rfl (fun ls hl => ?_)
                  refine lv_goto (tgt := 109) hx hb dX8_shares_144 (by decide) ?_
                  refine lv_iload hx hb dX8_shares_109 (lv_at hl 0 rfl) ?_
                  refine lv_iconst (v := 4) hx hb dX8_shares_111 (by decide) ?_
                  refine lv_icmp_ge (tgt := 147) hx hb dX8_shares_112 (by decide) (fun c39 => ?_) (fun c39 => absurd c39 (by decide))
                  refine lv_aload_n hx hb dX8_shares_147 rfl (lv_at hl 5 rfl) ?_
                  refine va_get (D := (dC, dI)) (ci := 8) (v := .ref nX) (C := RX8) (T := TX8) (N := 53) hx hb hts hin8 hown hK hP 2 rfl rfl 48 (by decide) hw2 (fun _ h9 => h9) rfl dX8_shares_148 ?_
                  refine lv_iload hx hb dX8_shares_151 (lv_at hl 1 rfl) ?_
                  refine lv_dup2_11 hx hb dX8_shares_153 rfl rfl ?_
                  refine va_iald hx hb hK hP 1 0 rfl rfl (vin (by decide) (by decide)) dX8_shares_154 ?_
                  refine lv_topi (fun y40 e40 => ?_)
                  obtain rfl : yX 0 = y40 := e40.symm
                  refine lv_iconst (v := 1) hx hb dX8_shares_155 (by decide) ?_
                  refine lv_iadd hx hb dX8_shares_156 ?_
                  refine lv_topi (fun x41 e41 => ?_)
                  refine va_iast hx hb hK hP hD hS 1 0 rfl rfl (vin (by decide) (by decide)) dX8_shares_157 (fun H locs hP hD hS => ?_)
                  replace hP : va_P (dC, dI) vwCl [(nW, .inl (cI, 14, .inl gW)), (nX, .inl (cI, 4, .inl (upd yX 0 x41))), (n, .inr (8, [.int mleft, .int mmetres, .int mshut, .int mshield, .int mtoday, .int mbagged, .int mwarmed, .ref nW, .ref nC, .int mmeals, .ref nQ, .ref nM, .ref nD, .ref nA, .ref nK, .int msights, .ref nP, .int mpadMany, .ref nE, .ref nF, .ref nG, .int macts, .int mgusty, .int mleakAct, .int mleakMuch, .int mendOfCan, .int mbadAct, .int mbadWhy, .int mburnt, .int mboiled, .ref nH, .ref nI, .ref nJ, .ref nL, .int mhadLeft, .int mhadToday, .int mhadBagged, .int mhadWarmed, .int mleaves, .int mdayThen, .int mcoldThen, .ref nO, .int mportionMany, .ref nT, .ref nU, .int mleakMany, .int mleakActs, .ref nV, .ref nX, .ref nY, .ref nZ, .int mkeptAt, .int misWriting])), (nQ, .inl (cI, 6, .inl gQ)), (nM, .inl (cI, 6, .inl gM))] H := hP
                  replace hD : va_D A [(nW, .inl (cI, 14, .inl gW)), (nX, .inl (cI, 4, .inl (upd yX 0 x41))), (n, .inr (8, [.int mleft, .int mmetres, .int mshut, .int mshield, .int mtoday, .int mbagged, .int mwarmed, .ref nW, .ref nC, .int mmeals, .ref nQ, .ref nM, .ref nD, .ref nA, .ref nK, .int msights, .ref nP, .int mpadMany, .ref nE, .ref nF, .ref nG, .int macts, .int mgusty, .int mleakAct, .int mleakMuch, .int mendOfCan, .int mbadAct, .int mbadWhy, .int mburnt, .int mboiled, .ref nH, .ref nI, .ref nJ, .ref nL, .int mhadLeft, .int mhadToday, .int mhadBagged, .int mhadWarmed, .int mleaves, .int mdayThen, .int mcoldThen, .ref nO, .int mportionMany, .ref nT, .ref nU, .int mleakMany, .int mleakActs, .ref nV, .ref nX, .ref nY, .ref nZ, .int mkeptAt, .int misWriting])), (nQ, .inl (cI, 6, .inl gQ)), (nM, .inl (cI, 6, .inl gM))] := hD
                  refine lv_iload hx hb dX8_shares_158 (lv_at hl 3 rfl) ?_
                  refine lv_iload hx hb dX8_shares_160 (lv_at hl 1 rfl) ?_
                  refine lv_iload_n hx hb dX8_shares_162 rfl (lv_at hl 8 rfl) ?_
                  refine lv_icmp_ne (tgt := 170) hx hb dX8_shares_163 (by decide) (fun c42 => ?_) (fun c42 => ?_)
                  · have t42 : (0 : Int) ≠ i2.toInt := (tne c42)
                    refine lv_iconst (v := 0) hx hb dX8_shares_170 (by decide) ?_
                    refine lv_iadd hx hb dX8_shares_171 ?_
                    refine lv_topi (fun y43 e43 => ?_)
                    obtain rfl : y5 = y43 := (e43.trans (by simp)).symm
                    refine lv_istore (lv' := [(5, .int y5), (8, .int 4), (7, .int 0), (6, .int y6), (4, .int x18), (0, .ref n), (1, .int i0), (2, .int i1), (3, .int i2)]) hx hb dX8_shares_172 hl (by decide) rfl (fun ls hl => ?_)
                    obtain ⟨x44, e44⟩ : ∃ y : Int32, y = y6 + Int32.ofInt (-1) := ⟨_, rfl⟩
                    refine lv_iinc (v := x44) (lv' := [(6, .int x44), (5, .int y5), (8, .int 4), (7, .int 0), (4, .int x18), (0, .ref n), (1, .int i0), (2, .int i1), (3, .int i2)]) hx hb dX8_shares_174 hl (k := 3) rfl e44.symm (by decide) rfl (fun ls hl => ?_)
                    have f44 : x44.toInt = y6.toInt + (-1) := by rw [e44]; exact tinc (by decide) (by have t8 := tb y6; omega) (by have t8 := tb y6; omega)
                    refine lv_goto (tgt := 98) hx hb dX8_shares_177 (by decide) ?_
                    exact ih (H := H) (locs := locs) (ls := ls) (y5 := y5) (y6 := x44) (yX := (upd yX 0 x41)) hS (by omega)  (show lv_has ls 9 [(6, .int x44), (5, .int y5), (4, .int x18), (0, .ref n), (1, .int i0), (2, .int i1), (3, .int i2)] from lv_sub hl [0, 1, 4, 5, 6, 7, 8] rfl) (mx_subP (wc := [(nW, .inl (cI, 14, .inl gW)), (nX, .inl (cI, 4, .inl (upd yX 0 x41))), (n, .inr (8, [.int mleft, .int mmetres, .int mshut, .int mshield, .int mtoday, .int mbagged, .int mwarmed, .ref nW, .ref nC, .int mmeals, .ref nQ, .ref nM, .ref nD, .ref nA, .ref nK, .int msights, .ref nP, .int mpadMany, .ref nE, .ref nF, .ref nG, .int macts, .int mgusty, .int mleakAct, .int mleakMuch, .int mendOfCan, .int mbadAct, .int mbadWhy, .int mburnt, .int mboiled, .ref nH, .ref nI, .ref nJ, .ref nL, .int mhadLeft, .int mhadToday, .int mhadBagged, .int mhadWarmed, .int mleaves, .int mdayThen, .int mcoldThen, .ref nO, .int mportionMany, .ref nT, .ref nU, .int mleakMany, .int mleakActs, .ref nV, .ref nX, .ref nY, .ref nZ, .int mkeptAt, .int misWriting])), (nQ, .inl (cI, 6, .inl gQ)), (nM, .inl (cI, 6, .inl gM))]) hP [0, 1, 2, 3, 4] rfl) (hD.sub (ws' := [(nW, .inl (cI, 14, .inl gW)), (nX, .inl (cI, 4, .inl (upd yX 0 x41))), (n, .inr (8, [.int mleft, .int mmetres, .int mshut, .int mshield, .int mtoday, .int mbagged, .int mwarmed, .ref nW, .ref nC, .int mmeals, .ref nQ, .ref nM, .ref nD, .ref nA, .ref nK, .int msights, .ref nP, .int mpadMany, .ref nE, .ref nF, .ref nG, .int macts, .int mgusty, .int mleakAct, .int mleakMuch, .int mendOfCan, .int mbadAct, .int mbadWhy, .int mburnt, .int mboiled, .ref nH, .ref nI, .ref nJ, .ref nL, .int mhadLeft, .int mhadToday, .int mhadBagged, .int mhadWarmed, .int mleaves, .int mdayThen, .int mcoldThen, .ref nO, .int mportionMany, .ref nT, .ref nU, .int mleakMany, .int mleakActs, .ref nV, .ref nX, .ref nY, .ref nZ, .int mkeptAt, .int misWriting])), (nQ, .inl (cI, 6, .inl gQ)), (nM, .inl (cI, 6, .inl gM))]) [0, 1, 2, 3, 4] (by decide) rfl) (by omega)
                  · have t42 : (0 : Int) = i2.toInt := (teq c42)
                    refine lv_iconst (v := 1) hx hb dX8_shares_166 (by decide) ?_
                    refine lv_goto (tgt := 171) hx hb dX8_shares_167 (by decide) ?_
                    refine lv_iadd hx hb dX8_shares_171 ?_
                    refine lv_topi (fun x45 e45 => ?_)
                    refine lv_istore (lv' := [(5, .int x45), (8, .int 4), (7, .int 0), (6, .int y6), (4, .int x18), (0, .ref n), (1, .int i0), (2, .int i1), (3, .int i2)]) hx hb dX8_shares_172 hl (by decide) rfl (fun ls hl => ?_)
                    obtain ⟨x46, e46⟩ : ∃ y : Int32, y = y6 + Int32.ofInt (-1) := ⟨_, rfl⟩
                    refine lv_iinc (v := x46) (lv' := [(6, .int x46), (5, .int x45), (8, .int 4), (7, .int 0), (4, .int x18), (0, .ref n), (1, .int i0), (2, .int i1), (3, .int i2)]) hx hb dX8_shares_174 hl (k := 3) rfl e46.symm (by decide) rfl (fun ls hl => ?_)
                    have f46 : x46.toInt = y6.toInt + (-1) := by rw [e46]; exact tinc (by decide) (by have t8 := tb y6; omega) (by have t8 := tb y6; omega)
                    refine lv_goto (tgt := 98) hx hb dX8_shares_177 (by decide) ?_
                    exact ih (H := H) (locs := locs) (ls := ls) (y5 := x45) (y6 := x46) (yX := (upd yX 0 x41)) hS (by omega)  (show lv_has ls 9 [(6, .int x46), (5, .int x45), (4, .int x18), (0, .ref n), (1, .int i0), (2, .int i1), (3, .int i2)] from lv_sub hl [0, 1, 4, 5, 6, 7, 8] rfl) (mx_subP (wc := [(nW, .inl (cI, 14, .inl gW)), (nX, .inl (cI, 4, .inl (upd yX 0 x41))), (n, .inr (8, [.int mleft, .int mmetres, .int mshut, .int mshield, .int mtoday, .int mbagged, .int mwarmed, .ref nW, .ref nC, .int mmeals, .ref nQ, .ref nM, .ref nD, .ref nA, .ref nK, .int msights, .ref nP, .int mpadMany, .ref nE, .ref nF, .ref nG, .int macts, .int mgusty, .int mleakAct, .int mleakMuch, .int mendOfCan, .int mbadAct, .int mbadWhy, .int mburnt, .int mboiled, .ref nH, .ref nI, .ref nJ, .ref nL, .int mhadLeft, .int mhadToday, .int mhadBagged, .int mhadWarmed, .int mleaves, .int mdayThen, .int mcoldThen, .ref nO, .int mportionMany, .ref nT, .ref nU, .int mleakMany, .int mleakActs, .ref nV, .ref nX, .ref nY, .ref nZ, .int mkeptAt, .int misWriting])), (nQ, .inl (cI, 6, .inl gQ)), (nM, .inl (cI, 6, .inl gM))]) hP [0, 1, 2, 3, 4] rfl) (hD.sub (ws' := [(nW, .inl (cI, 14, .inl gW)), (nX, .inl (cI, 4, .inl (upd yX 0 x41))), (n, .inr (8, [.int mleft, .int mmetres, .int mshut, .int mshield, .int mtoday, .int mbagged, .int mwarmed, .ref nW, .ref nC, .int mmeals, .ref nQ, .ref nM, .ref nD, .ref nA, .ref nK, .int msights, .ref nP, .int mpadMany, .ref nE, .ref nF, .ref nG, .int macts, .int mgusty, .int mleakAct, .int mleakMuch, .int mendOfCan, .int mbadAct, .int mbadWhy, .int mburnt, .int mboiled, .ref nH, .ref nI, .ref nJ, .ref nL, .int mhadLeft, .int mhadToday, .int mhadBagged, .int mhadWarmed, .int mleaves, .int mdayThen, .int mcoldThen, .ref nO, .int mportionMany, .ref nT, .ref nU, .int mleakMany, .int mleakActs, .ref nV, .ref nX, .ref nY, .ref nZ, .int mkeptAt, .int misWriting])), (nQ, .inl (cI, 6, .inl gQ)), (nM, .inl (cI, 6, .inl gM))]) [0, 1, 2, 3, 4] (by decide) rfl) (by omega)
                · have t38 : (yX 3).toInt < (yX 0).toInt := (tnle c38)
                  refine lv_iload hx hb dX8_shares_132 (lv_at hl 0 rfl) ?_
                  refine lv_goto (tgt := 139) hx hb dX8_shares_134 (by decide) ?_
                  refine lv_istore (lv' := [(7, .int 3), (8, .int 3), (6, .int y6), (5, .int y5), (4, .int x18), (0, .ref n), (1, .int i0), (2, .int i1), (3, .int i2)]) hx hb dX8_shares_139 hl (by decide) rfl (fun ls hl => ?_)
                  refine lv_iinc (v := 4) (lv' := [(8, .int 4), (7, .int 3), (6, .int y6), (5, .int y5), (4, .int x18), (0, .ref n), (1, .int i0), (2, .int i1), (3, .int i2)]) hx hb dX8_shares_141 hl (k := 1) rfl (by decide) (by decide) rfl (fun ls hl => ?_)
                  refine lv_goto (tgt := 109) hx hb dX8_shares_144 (by decide) ?_
                  refine lv_iload hx hb dX8_shares_109 (lv_at hl 0 rfl) ?_
                  refine lv_iconst (v := 4) hx hb dX8_shares_111 (by decide) ?_
                  refine lv_icmp_ge (tgt := 147) hx hb dX8_shares_112 (by decide) (fun c47 => ?_) (fun c47 => absurd c47 (by decide))
                  refine lv_aload_n hx hb dX8_shares_147 rfl (lv_at hl 5 rfl) ?_
                  refine va_get (D := (dC, dI)) (ci := 8) (v := .ref nX) (C := RX8) (T := TX8) (N := 53) hx hb hts hin8 hown hK hP 2 rfl rfl 48 (by decide) hw2 (fun _ h9 => h9) rfl dX8_shares_148 ?_
                  refine lv_iload hx hb dX8_shares_151 (lv_at hl 1 rfl) ?_
                  refine lv_dup2_11 hx hb dX8_shares_153 rfl rfl ?_
                  refine va_iald hx hb hK hP 1 0 rfl rfl (vin (by decide) (by decide)) dX8_shares_154 ?_
                  refine lv_topi (fun y48 e48 => ?_)
                  obtain rfl : yX 3 = y48 := e48.symm
                  refine lv_iconst (v := 1) hx hb dX8_shares_155 (by decide) ?_
                  refine lv_iadd hx hb dX8_shares_156 ?_
                  refine lv_topi (fun x49 e49 => ?_)
                  refine va_iast hx hb hK hP hD hS 1 0 rfl rfl (vin (by decide) (by decide)) dX8_shares_157 (fun H locs hP hD hS => ?_)
                  replace hP : va_P (dC, dI) vwCl [(nW, .inl (cI, 14, .inl gW)), (nX, .inl (cI, 4, .inl (upd yX 3 x49))), (n, .inr (8, [.int mleft, .int mmetres, .int mshut, .int mshield, .int mtoday, .int mbagged, .int mwarmed, .ref nW, .ref nC, .int mmeals, .ref nQ, .ref nM, .ref nD, .ref nA, .ref nK, .int msights, .ref nP, .int mpadMany, .ref nE, .ref nF, .ref nG, .int macts, .int mgusty, .int mleakAct, .int mleakMuch, .int mendOfCan, .int mbadAct, .int mbadWhy, .int mburnt, .int mboiled, .ref nH, .ref nI, .ref nJ, .ref nL, .int mhadLeft, .int mhadToday, .int mhadBagged, .int mhadWarmed, .int mleaves, .int mdayThen, .int mcoldThen, .ref nO, .int mportionMany, .ref nT, .ref nU, .int mleakMany, .int mleakActs, .ref nV, .ref nX, .ref nY, .ref nZ, .int mkeptAt, .int misWriting])), (nQ, .inl (cI, 6, .inl gQ)), (nM, .inl (cI, 6, .inl gM))] H := hP
                  replace hD : va_D A [(nW, .inl (cI, 14, .inl gW)), (nX, .inl (cI, 4, .inl (upd yX 3 x49))), (n, .inr (8, [.int mleft, .int mmetres, .int mshut, .int mshield, .int mtoday, .int mbagged, .int mwarmed, .ref nW, .ref nC, .int mmeals, .ref nQ, .ref nM, .ref nD, .ref nA, .ref nK, .int msights, .ref nP, .int mpadMany, .ref nE, .ref nF, .ref nG, .int macts, .int mgusty, .int mleakAct, .int mleakMuch, .int mendOfCan, .int mbadAct, .int mbadWhy, .int mburnt, .int mboiled, .ref nH, .ref nI, .ref nJ, .ref nL, .int mhadLeft, .int mhadToday, .int mhadBagged, .int mhadWarmed, .int mleaves, .int mdayThen, .int mcoldThen, .ref nO, .int mportionMany, .ref nT, .ref nU, .int mleakMany, .int mleakActs, .ref nV, .ref nX, .ref nY, .ref nZ, .int mkeptAt, .int misWriting])), (nQ, .inl (cI, 6, .inl gQ)), (nM, .inl (cI, 6, .inl gM))] := hD
                  refine lv_iload hx hb dX8_shares_158 (lv_at hl 3 rfl) ?_
                  refine lv_iload hx hb dX8_shares_160 (lv_at hl 1 rfl) ?_
                  refine lv_iload_n hx hb dX8_shares_162 rfl (lv_at hl 8 rfl) ?_
                  refine lv_icmp_ne (tgt := 170) hx hb dX8_shares_163 (by decide) (fun c50 => ?_) (fun c50 => ?_)
                  · have t50 : (3 : Int) ≠ i2.toInt := (tne c50)
                    refine lv_iconst (v := 0) hx hb dX8_shares_170 (by decide) ?_
                    refine lv_iadd hx hb dX8_shares_171 ?_
                    refine lv_topi (fun y51 e51 => ?_)
                    obtain rfl : y5 = y51 := (e51.trans (by simp)).symm
                    refine lv_istore (lv' := [(5, .int y5), (8, .int 4), (7, .int 3), (6, .int y6), (4, .int x18), (0, .ref n), (1, .int i0), (2, .int i1), (3, .int i2)]) hx hb dX8_shares_172 hl (by decide) rfl (fun ls hl => ?_)
                    obtain ⟨x52, e52⟩ : ∃ y : Int32, y = y6 + Int32.ofInt (-1) := ⟨_, rfl⟩
                    refine lv_iinc (v := x52) (lv' := [(6, .int x52), (5, .int y5), (8, .int 4), (7, .int 3), (4, .int x18), (0, .ref n), (1, .int i0), (2, .int i1), (3, .int i2)]) hx hb dX8_shares_174 hl (k := 3) rfl e52.symm (by decide) rfl (fun ls hl => ?_)
                    have f52 : x52.toInt = y6.toInt + (-1) := by rw [e52]; exact tinc (by decide) (by have t8 := tb y6; omega) (by have t8 := tb y6; omega)
                    refine lv_goto (tgt := 98) hx hb dX8_shares_177 (by decide) ?_
                    exact ih (H := H) (locs := locs) (ls := ls) (y5 := y5) (y6 := x52) (yX := (upd yX 3 x49)) hS (by omega)  (show lv_has ls 9 [(6, .int x52), (5, .int y5), (4, .int x18), (0, .ref n), (1, .int i0), (2, .int i1), (3, .int i2)] from lv_sub hl [0, 1, 4, 5, 6, 7, 8] rfl) (mx_subP (wc := [(nW, .inl (cI, 14, .inl gW)), (nX, .inl (cI, 4, .inl (upd yX 3 x49))), (n, .inr (8, [.int mleft, .int mmetres, .int mshut, .int mshield, .int mtoday, .int mbagged, .int mwarmed, .ref nW, .ref nC, .int mmeals, .ref nQ, .ref nM, .ref nD, .ref nA, .ref nK, .int msights, .ref nP, .int mpadMany, .ref nE, .ref nF, .ref nG, .int macts, .int mgusty, .int mleakAct, .int mleakMuch, .int mendOfCan, .int mbadAct, .int mbadWhy, .int mburnt, .int mboiled, .ref nH, .ref nI, .ref nJ, .ref nL, .int mhadLeft, .int mhadToday, .int mhadBagged, .int mhadWarmed, .int mleaves, .int mdayThen, .int mcoldThen, .ref nO, .int mportionMany, .ref nT, .ref nU, .int mleakMany, .int mleakActs, .ref nV, .ref nX, .ref nY, .ref nZ, .int mkeptAt, .int misWriting])), (nQ, .inl (cI, 6, .inl gQ)), (nM, .inl (cI, 6, .inl gM))]) hP [0, 1, 2, 3, 4] rfl) (hD.sub (ws' := [(nW, .inl (cI, 14, .inl gW)), (nX, .inl (cI, 4, .inl (upd yX 3 x49))), (n, .inr (8, [.int mleft, .int mmetres, .int mshut, .int mshield, .int mtoday, .int mbagged, .int mwarmed, .ref nW, .ref nC, .int mmeals, .ref nQ, .ref nM, .ref nD, .ref nA, .ref nK, .int msights, .ref nP, .int mpadMany, .ref nE, .ref nF, .ref nG, .int macts, .int mgusty, .int mleakAct, .int mleakMuch, .int mendOfCan, .int mbadAct, .int mbadWhy, .int mburnt, .int mboiled, .ref nH, .ref nI, .ref nJ, .ref nL, .int mhadLeft, .int mhadToday, .int mhadBagged, .int mhadWarmed, .int mleaves, .int mdayThen, .int mcoldThen, .ref nO, .int mportionMany, .ref nT, .ref nU, .int mleakMany, .int mleakActs, .ref nV, .ref nX, .ref nY, .ref nZ, .int mkeptAt, .int misWriting])), (nQ, .inl (cI, 6, .inl gQ)), (nM, .inl (cI, 6, .inl gM))]) [0, 1, 2, 3, 4] (by decide) rfl) (by omega)
                  · have t50 : (3 : Int) = i2.toInt := (teq c50)
                    refine lv_iconst (v := 1) hx hb dX8_shares_166 (by decide) ?_
                    refine lv_goto (tgt := 171) hx hb dX8_shares_167 (by decide) ?_
                    refine lv_iadd hx hb dX8_shares_171 ?_
                    refine lv_topi (fun x53 e53 => ?_)
                    refine lv_istore (lv' := [(5, .int x53), (8, .int 4), (7, .int 3), (6, .int y6), (4, .int x18), (0, .ref n), (1, .int i0), (2, .int i1), (3, .int i2)]) hx hb dX8_shares_172 hl (by decide) rfl (fun ls hl => ?_)
                    obtain ⟨x54, e54⟩ : ∃ y : Int32, y = y6 + Int32.ofInt (-1) := ⟨_, rfl⟩
                    refine lv_iinc (v := x54) (lv' := [(6, .int x54), (5, .int x53), (8, .int 4), (7, .int 3), (4, .int x18), (0, .ref n), (1, .int i0), (2, .int i1), (3, .int i2)]) hx hb dX8_shares_174 hl (k := 3) rfl e54.symm (by decide) rfl (fun ls hl => ?_)
                    have f54 : x54.toInt = y6.toInt + (-1) := by rw [e54]; exact tinc (by decide) (by have t8 := tb y6; omega) (by have t8 := tb y6; omega)
                    refine lv_goto (tgt := 98) hx hb dX8_shares_177 (by decide) ?_
                    exact ih (H := H) (locs := locs) (ls := ls) (y5 := x53) (y6 := x54) (yX := (upd yX 3 x49)) hS (by omega)  (show lv_has ls 9 [(6, .int x54), (5, .int x53), (4, .int x18), (0, .ref n), (1, .int i0), (2, .int i1), (3, .int i2)] from lv_sub hl [0, 1, 4, 5, 6, 7, 8] rfl) (mx_subP (wc := [(nW, .inl (cI, 14, .inl gW)), (nX, .inl (cI, 4, .inl (upd yX 3 x49))), (n, .inr (8, [.int mleft, .int mmetres, .int mshut, .int mshield, .int mtoday, .int mbagged, .int mwarmed, .ref nW, .ref nC, .int mmeals, .ref nQ, .ref nM, .ref nD, .ref nA, .ref nK, .int msights, .ref nP, .int mpadMany, .ref nE, .ref nF, .ref nG, .int macts, .int mgusty, .int mleakAct, .int mleakMuch, .int mendOfCan, .int mbadAct, .int mbadWhy, .int mburnt, .int mboiled, .ref nH, .ref nI, .ref nJ, .ref nL, .int mhadLeft, .int mhadToday, .int mhadBagged, .int mhadWarmed, .int mleaves, .int mdayThen, .int mcoldThen, .ref nO, .int mportionMany, .ref nT, .ref nU, .int mleakMany, .int mleakActs, .ref nV, .ref nX, .ref nY, .ref nZ, .int mkeptAt, .int misWriting])), (nQ, .inl (cI, 6, .inl gQ)), (nM, .inl (cI, 6, .inl gM))]) hP [0, 1, 2, 3, 4] rfl) (hD.sub (ws' := [(nW, .inl (cI, 14, .inl gW)), (nX, .inl (cI, 4, .inl (upd yX 3 x49))), (n, .inr (8, [.int mleft, .int mmetres, .int mshut, .int mshield, .int mtoday, .int mbagged, .int mwarmed, .ref nW, .ref nC, .int mmeals, .ref nQ, .ref nM, .ref nD, .ref nA, .ref nK, .int msights, .ref nP, .int mpadMany, .ref nE, .ref nF, .ref nG, .int macts, .int mgusty, .int mleakAct, .int mleakMuch, .int mendOfCan, .int mbadAct, .int mbadWhy, .int mburnt, .int mboiled, .ref nH, .ref nI, .ref nJ, .ref nL, .int mhadLeft, .int mhadToday, .int mhadBagged, .int mhadWarmed, .int mleaves, .int mdayThen, .int mcoldThen, .ref nO, .int mportionMany, .ref nT, .ref nU, .int mleakMany, .int mleakActs, .ref nV, .ref nX, .ref nY, .ref nZ, .int mkeptAt, .int misWriting])), (nQ, .inl (cI, 6, .inl gQ)), (nM, .inl (cI, 6, .inl gM))]) [0, 1, 2, 3, 4] (by decide) rfl) (by omega)
              · have t34 : (yX 2).toInt < (yX 0).toInt := (tnle c34)
                refine lv_iload hx hb dX8_shares_132 (lv_at hl 0 rfl) ?_
                refine lv_goto (tgt := 139) hx hb dX8_shares_134 (by decide) ?_
                refine lv_istore (lv' := [(7, .int 2), (8, .int 2), (6, .int y6), (5, .int y5), (4, .int x18), (0, .ref n), (1, .int i0), (2, .int i1), (3, .int i2)]) hx hb dX8_shares_139 hl (by decide) rfl (fun ls hl => ?_)
                refine lv_iinc (v := 3) (lv' := [(8, .int 3), (7, .int 2), (6, .int y6), (5, .int y5), (4, .int x18), (0, .ref n), (1, .int i0), (2, .int i1), (3, .int i2)]) hx hb dX8_shares_141 hl (k := 1) rfl (by decide) (by decide) rfl (fun ls hl => ?_)
                refine lv_goto (tgt := 109) hx hb dX8_shares_144 (by decide) ?_
                refine lv_iload hx hb dX8_shares_109 (lv_at hl 0 rfl) ?_
                refine lv_iconst (v := 4) hx hb dX8_shares_111 (by decide) ?_
                refine lv_icmp_ge (tgt := 147) hx hb dX8_shares_112 (by decide) (fun c55 => absurd c55 (by decide)) (fun c55 => ?_)
                refine lv_aload_n hx hb dX8_shares_115 rfl (lv_at hl 5 rfl) ?_
                refine va_get (D := (dC, dI)) (ci := 8) (v := .ref nX) (C := RX8) (T := TX8) (N := 53) hx hb hts hin8 hown hK hP 2 rfl rfl 48 (by decide) hw2 (fun _ h9 => h9) rfl dX8_shares_116 ?_
                refine lv_iload hx hb dX8_shares_119 (lv_at hl 0 rfl) ?_
                refine va_iald hx hb hK hP 1 0 rfl rfl (vin (by decide) (by decide)) dX8_shares_121 ?_
                refine lv_topi (fun y56 e56 => ?_)
                obtain rfl : yX 3 = y56 := e56.symm
                refine lv_aload_n hx hb dX8_shares_122 rfl (lv_at hl 5 rfl) ?_
                refine va_get (D := (dC, dI)) (ci := 8) (v := .ref nX) (C := RX8) (T := TX8) (N := 53) hx hb hts hin8 hown hK hP 2 rfl rfl 48 (by decide) hw2 (fun _ h9 => h9) rfl dX8_shares_123 ?_
                refine lv_iload hx hb dX8_shares_126 (lv_at hl 1 rfl) ?_
                refine va_iald hx hb hK hP 1 0 rfl rfl (vin (by decide) (by decide)) dX8_shares_128 ?_
                refine lv_topi (fun y57 e57 => ?_)
                obtain rfl : yX 2 = y57 := e57.symm
                refine lv_icmp_ge (tgt := 137) hx hb dX8_shares_129 (by decide) (fun c58 => ?_) (fun c58 => ?_)
                · have t58 : (yX 2).toInt ≤ (yX 3).toInt := (tle c58)
                  refine lv_iload hx hb dX8_shares_137 (lv_at hl 1 rfl) ?_
                  refine lv_istore (lv' := [(7, .int 2), (8, .int 3), (6, .int y6), (5, .int y5), (4, .int x18), (0, .ref n), (1, .int i0), (2, .int i1), (3, .int i2)]) hx hb dX8_shares_139 hl (by decide) rfl (fun ls hl => ?_)
                  refine lv_iinc (v := 4) (lv' := [(8, .int 4), (7, .int 2), (6, .int y6), (5, .int y5), (4, .int x18), (0, .ref n), (1, .int i0), (2, .int i1), (3, .int i2)]) hx hb dX8_shares_141 hl (k := 1) rfl (by decide) (by decide) rfl (fun ls hl => ?_)
                  refine lv_goto (tgt := 109) hx hb dX8_shares_144 (by decide) ?_
                  refine lv_iload hx hb dX8_shares_109 (lv_at hl 0 rfl) ?_
                  refine lv_iconst (v := 4) hx hb dX8_shares_111 (by decide) ?_
                  refine lv_icmp_ge (tgt := 147) hx hb dX8_shares_112 (by decide) (fun c59 => ?_) (fun c59 => absurd c59 (by decide))
                  refine lv_aload_n hx hb dX8_shares_147 rfl (lv_at hl 5 rfl) ?_
                  refine va_get (D := (dC, dI)) (ci := 8) (v := .ref nX) (C := RX8) (T := TX8) (N := 53) hx hb hts hin8 hown hK hP 2 rfl rfl 48 (by decide) hw2 (fun _ h9 => h9) rfl dX8_shares_148 ?_
                  refine lv_iload hx hb dX8_shares_151 (lv_at hl 1 rfl) ?_
                  refine lv_dup2_11 hx hb dX8_shares_153 rfl rfl ?_
                  refine va_iald hx hb hK hP 1 0 rfl rfl (vin (by decide) (by decide)) dX8_shares_154 ?_
                  refine lv_topi (fun y60 e60 => ?_)
                  obtain rfl : yX 2 = y60 := e60.symm
                  refine lv_iconst (v := 1) hx hb dX8_shares_155 (by decide) ?_
                  refine lv_iadd hx hb dX8_shares_156 ?_
                  refine lv_topi (fun x61 e61 => ?_)
                  refine va_iast hx hb hK hP hD hS 1 0 rfl rfl (vin (by decide) (by decide)) dX8_shares_157 (fun H locs hP hD hS => ?_)
                  replace hP : va_P (dC, dI) vwCl [(nW, .inl (cI, 14, .inl gW)), (nX, .inl (cI, 4, .inl (upd yX 2 x61))), (n, .inr (8, [.int mleft, .int mmetres, .int mshut, .int mshield, .int mtoday, .int mbagged, .int mwarmed, .ref nW, .ref nC, .int mmeals, .ref nQ, .ref nM, .ref nD, .ref nA, .ref nK, .int msights, .ref nP, .int mpadMany, .ref nE, .ref nF, .ref nG, .int macts, .int mgusty, .int mleakAct, .int mleakMuch, .int mendOfCan, .int mbadAct, .int mbadWhy, .int mburnt, .int mboiled, .ref nH, .ref nI, .ref nJ, .ref nL, .int mhadLeft, .int mhadToday, .int mhadBagged, .int mhadWarmed, .int mleaves, .int mdayThen, .int mcoldThen, .ref nO, .int mportionMany, .ref nT, .ref nU, .int mleakMany, .int mleakActs, .ref nV, .ref nX, .ref nY, .ref nZ, .int mkeptAt, .int misWriting])), (nQ, .inl (cI, 6, .inl gQ)), (nM, .inl (cI, 6, .inl gM))] H := hP
                  replace hD : va_D A [(nW, .inl (cI, 14, .inl gW)), (nX, .inl (cI, 4, .inl (upd yX 2 x61))), (n, .inr (8, [.int mleft, .int mmetres, .int mshut, .int mshield, .int mtoday, .int mbagged, .int mwarmed, .ref nW, .ref nC, .int mmeals, .ref nQ, .ref nM, .ref nD, .ref nA, .ref nK, .int msights, .ref nP, .int mpadMany, .ref nE, .ref nF, .ref nG, .int macts, .int mgusty, .int mleakAct, .int mleakMuch, .int mendOfCan, .int mbadAct, .int mbadWhy, .int mburnt, .int mboiled, .ref nH, .ref nI, .ref nJ, .ref nL, .int mhadLeft, .int mhadToday, .int mhadBagged, .int mhadWarmed, .int mleaves, .int mdayThen, .int mcoldThen, .ref nO, .int mportionMany, .ref nT, .ref nU, .int mleakMany, .int mleakActs, .ref nV, .ref nX, .ref nY, .ref nZ, .int mkeptAt, .int misWriting])), (nQ, .inl (cI, 6, .inl gQ)), (nM, .inl (cI, 6, .inl gM))] := hD
                  refine lv_iload hx hb dX8_shares_158 (lv_at hl 3 rfl) ?_
                  refine lv_iload hx hb dX8_shares_160 (lv_at hl 1 rfl) ?_
                  refine lv_iload_n hx hb dX8_shares_162 rfl (lv_at hl 8 rfl) ?_
                  refine lv_icmp_ne (tgt := 170) hx hb dX8_shares_163 (by decide) (fun c62 => ?_) (fun c62 => ?_)
                  · have t62 : (2 : Int) ≠ i2.toInt := (tne c62)
                    refine lv_iconst (v := 0) hx hb dX8_shares_170 (by decide) ?_
                    refine lv_iadd hx hb dX8_shares_171 ?_
                    refine lv_topi (fun y63 e63 => ?_)
                    obtain rfl : y5 = y63 := (e63.trans (by simp)).symm
                    refine lv_istore (lv' := [(5, .int y5), (8, .int 4), (7, .int 2), (6, .int y6), (4, .int x18), (0, .ref n), (1, .int i0), (2, .int i1), (3, .int i2)]) hx hb dX8_shares_172 hl (by decide) rfl (fun ls hl => ?_)
                    obtain ⟨x64, e64⟩ : ∃ y : Int32, y = y6 + Int32.ofInt (-1) := ⟨_, rfl⟩
                    refine lv_iinc (v := x64) (lv' := [(6, .int x64), (5, .int y5), (8, .int 4), (7, .int 2), (4, .int x18), (0, .ref n), (1, .int i0), (2, .int i1), (3, .int i2)]) hx hb dX8_shares_174 hl (k := 3) rfl e64.symm (by decide) rfl (fun ls hl => ?_)
                    have f64 : x64.toInt = y6.toInt + (-1) := by rw [e64]; exact tinc (by decide) (by have t8 := tb y6; omega) (by have t8 := tb y6; omega)
                    refine lv_goto (tgt := 98) hx hb dX8_shares_177 (by decide) ?_
                    exact ih (H := H) (locs := locs) (ls := ls) (y5 := y5) (y6 := x64) (yX := (upd yX 2 x61)) hS (by omega)  (show lv_has ls 9 [(6, .int x64), (5, .int y5), (4, .int x18), (0, .ref n), (1, .int i0), (2, .int i1), (3, .int i2)] from lv_sub hl [0, 1, 4, 5, 6, 7, 8] rfl) (mx_subP (wc := [(nW, .inl (cI, 14, .inl gW)), (nX, .inl (cI, 4, .inl (upd yX 2 x61))), (n, .inr (8, [.int mleft, .int mmetres, .int mshut, .int mshield, .int mtoday, .int mbagged, .int mwarmed, .ref nW, .ref nC, .int mmeals, .ref nQ, .ref nM, .ref nD, .ref nA, .ref nK, .int msights, .ref nP, .int mpadMany, .ref nE, .ref nF, .ref nG, .int macts, .int mgusty, .int mleakAct, .int mleakMuch, .int mendOfCan, .int mbadAct, .int mbadWhy, .int mburnt, .int mboiled, .ref nH, .ref nI, .ref nJ, .ref nL, .int mhadLeft, .int mhadToday, .int mhadBagged, .int mhadWarmed, .int mleaves, .int mdayThen, .int mcoldThen, .ref nO, .int mportionMany, .ref nT, .ref nU, .int mleakMany, .int mleakActs, .ref nV, .ref nX, .ref nY, .ref nZ, .int mkeptAt, .int misWriting])), (nQ, .inl (cI, 6, .inl gQ)), (nM, .inl (cI, 6, .inl gM))]) hP [0, 1, 2, 3, 4] rfl) (hD.sub (ws' := [(nW, .inl (cI, 14, .inl gW)), (nX, .inl (cI, 4, .inl (upd yX 2 x61))), (n, .inr (8, [.int mleft, .int mmetres, .int mshut, .int mshield, .int mtoday, .int mbagged, .int mwarmed, .ref nW, .ref nC, .int mmeals, .ref nQ, .ref nM, .ref nD, .ref nA, .ref nK, .int msights, .ref nP, .int mpadMany, .ref nE, .ref nF, .ref nG, .int macts, .int mgusty, .int mleakAct, .int mleakMuch, .int mendOfCan, .int mbadAct, .int mbadWhy, .int mburnt, .int mboiled, .ref nH, .ref nI, .ref nJ, .ref nL, .int mhadLeft, .int mhadToday, .int mhadBagged, .int mhadWarmed, .int mleaves, .int mdayThen, .int mcoldThen, .ref nO, .int mportionMany, .ref nT, .ref nU, .int mleakMany, .int mleakActs, .ref nV, .ref nX, .ref nY, .ref nZ, .int mkeptAt, .int misWriting])), (nQ, .inl (cI, 6, .inl gQ)), (nM, .inl (cI, 6, .inl gM))]) [0, 1, 2, 3, 4] (by decide) rfl) (by omega)
                  · have t62 : (2 : Int) = i2.toInt := (teq c62)
                    refine lv_iconst (v := 1) hx hb dX8_shares_166 (by decide) ?_
                    refine lv_goto (tgt := 171) hx hb dX8_shares_167 (by decide) ?_
                    refine lv_iadd hx hb dX8_shares_171 ?_
                    refine lv_topi (fun x65 e65 => ?_)
                    refine lv_istore (lv' := [(5, .int x65), (8, .int 4), (7, .int 2), (6, .int y6), (4, .int x18), (0, .ref n), (1, .int i0), (2, .int i1), (3, .int i2)]) hx hb dX8_shares_172 hl (by decide) rfl (fun ls hl => ?_)
                    obtain ⟨x66, e66⟩ : ∃ y : Int32, y = y6 + Int32.ofInt (-1) := ⟨_, rfl⟩
                    refine lv_iinc (v := x66) (lv' := [(6, .int x66), (5, .int x65), (8, .int 4), (7, .int 2), (4, .int x18), (0, .ref n), (1, .int i0), (2, .int i1), (3, .int i2)]) hx hb dX8_shares_174 hl (k := 3) rfl e66.symm (by decide) rfl (fun ls hl => ?_)
                    have f66 : x66.toInt = y6.toInt + (-1) := by rw [e66]; exact tinc (by decide) (by have t8 := tb y6; omega) (by have t8 := tb y6; omega)
                    refine lv_goto (tgt := 98) hx hb dX8_shares_177 (by decide) ?_
                    exact ih (H := H) (locs := locs) (ls := ls) (y5 := x65) (y6 := x66) (yX := (upd yX 2 x61)) hS (by omega)  (show lv_has ls 9 [(6, .int x66), (5, .int x65), (4, .int x18), (0, .ref n), (1, .int i0), (2, .int i1), (3, .int i2)] from lv_sub hl [0, 1, 4, 5, 6, 7, 8] rfl) (mx_subP (wc := [(nW, .inl (cI, 14, .inl gW)), (nX, .inl (cI, 4, .inl (upd yX 2 x61))), (n, .inr (8, [.int mleft, .int mmetres, .int mshut, .int mshield, .int mtoday, .int mbagged, .int mwarmed, .ref nW, .ref nC, .int mmeals, .ref nQ, .ref nM, .ref nD, .ref nA, .ref nK, .int msights, .ref nP, .int mpadMany, .ref nE, .ref nF, .ref nG, .int macts, .int mgusty, .int mleakAct, .int mleakMuch, .int mendOfCan, .int mbadAct, .int mbadWhy, .int mburnt, .int mboiled, .ref nH, .ref nI, .ref nJ, .ref nL, .int mhadLeft, .int mhadToday, .int mhadBagged, .int mhadWarmed, .int mleaves, .int mdayThen, .int mcoldThen, .ref nO, .int mportionMany, .ref nT, .ref nU, .int mleakMany, .int mleakActs, .ref nV, .ref nX, .ref nY, .ref nZ, .int mkeptAt, .int misWriting])), (nQ, .inl (cI, 6, .inl gQ)), (nM, .inl (cI, 6, .inl gM))]) hP [0, 1, 2, 3, 4] rfl) (hD.sub (ws' := [(nW, .inl (cI, 14, .inl gW)), (nX, .inl (cI, 4, .inl (upd yX 2 x61))), (n, .inr (8, [.int mleft, .int mmetres, .int mshut, .int mshield, .int mtoday, .int mbagged, .int mwarmed, .ref nW, .ref nC, .int mmeals, .ref nQ, .ref nM, .ref nD, .ref nA, .ref nK, .int msights, .ref nP, .int mpadMany, .ref nE, .ref nF, .ref nG, .int macts, .int mgusty, .int mleakAct, .int mleakMuch, .int mendOfCan, .int mbadAct, .int mbadWhy, .int mburnt, .int mboiled, .ref nH, .ref nI, .ref nJ, .ref nL, .int mhadLeft, .int mhadToday, .int mhadBagged, .int mhadWarmed, .int mleaves, .int mdayThen, .int mcoldThen, .ref nO, .int mportionMany, .ref nT, .ref nU, .int mleakMany, .int mleakActs, .ref nV, .ref nX, .ref nY, .ref nZ, .int mkeptAt, .int misWriting])), (nQ, .inl (cI, 6, .inl gQ)), (nM, .inl (cI, 6, .inl gM))]) [0, 1, 2, 3, 4] (by decide) rfl) (by omega)
                · have t58 : (yX 3).toInt < (yX 2).toInt := (tnle c58)
                  refine lv_iload hx hb dX8_shares_132 (lv_at hl 0 rfl) ?_
                  refine lv_goto (tgt := 139) hx hb dX8_shares_134 (by decide) ?_
                  refine lv_istore (lv' := [(7, .int 3), (8, .int 3), (6, .int y6), (5, .int y5), (4, .int x18), (0, .ref n), (1, .int i0), (2, .int i1), (3, .int i2)]) hx hb dX8_shares_139 hl (by decide) rfl (fun ls hl => ?_)
                  refine lv_iinc (v := 4) (lv' := [(8, .int 4), (7, .int 3), (6, .int y6), (5, .int y5), (4, .int x18), (0, .ref n), (1, .int i0), (2, .int i1), (3, .int i2)]) hx hb dX8_shares_141 hl (k := 1) rfl (by decide) (by decide) rfl (fun ls hl => ?_)
                  refine lv_goto (tgt := 109) hx hb dX8_shares_144 (by decide) ?_
                  refine lv_iload hx hb dX8_shares_109 (lv_at hl 0 rfl) ?_
                  refine lv_iconst (v := 4) hx hb dX8_shares_111 (by decide) ?_
                  refine lv_icmp_ge (tgt := 147) hx hb dX8_shares_112 (by decide) (fun c67 => ?_) (fun c67 => absurd c67 (by decide))
                  refine lv_aload_n hx hb dX8_shares_147 rfl (lv_at hl 5 rfl) ?_
                  refine va_get (D := (dC, dI)) (ci := 8) (v := .ref nX) (C := RX8) (T := TX8) (N := 53) hx hb hts hin8 hown hK hP 2 rfl rfl 48 (by decide) hw2 (fun _ h9 => h9) rfl dX8_shares_148 ?_
                  refine lv_iload hx hb dX8_shares_151 (lv_at hl 1 rfl) ?_
                  refine lv_dup2_11 hx hb dX8_shares_153 rfl rfl ?_
                  refine va_iald hx hb hK hP 1 0 rfl rfl (vin (by decide) (by decide)) dX8_shares_154 ?_
                  refine lv_topi (fun y68 e68 => ?_)
                  obtain rfl : yX 3 = y68 := e68.symm
                  refine lv_iconst (v := 1) hx hb dX8_shares_155 (by decide) ?_
                  refine lv_iadd hx hb dX8_shares_156 ?_
                  refine lv_topi (fun x69 e69 => ?_)
                  refine va_iast hx hb hK hP hD hS 1 0 rfl rfl (vin (by decide) (by decide)) dX8_shares_157 (fun H locs hP hD hS => ?_)
                  replace hP : va_P (dC, dI) vwCl [(nW, .inl (cI, 14, .inl gW)), (nX, .inl (cI, 4, .inl (upd yX 3 x69))), (n, .inr (8, [.int mleft, .int mmetres, .int mshut, .int mshield, .int mtoday, .int mbagged, .int mwarmed, .ref nW, .ref nC, .int mmeals, .ref nQ, .ref nM, .ref nD, .ref nA, .ref nK, .int msights, .ref nP, .int mpadMany, .ref nE, .ref nF, .ref nG, .int macts, .int mgusty, .int mleakAct, .int mleakMuch, .int mendOfCan, .int mbadAct, .int mbadWhy, .int mburnt, .int mboiled, .ref nH, .ref nI, .ref nJ, .ref nL, .int mhadLeft, .int mhadToday, .int mhadBagged, .int mhadWarmed, .int mleaves, .int mdayThen, .int mcoldThen, .ref nO, .int mportionMany, .ref nT, .ref nU, .int mleakMany, .int mleakActs, .ref nV, .ref nX, .ref nY, .ref nZ, .int mkeptAt, .int misWriting])), (nQ, .inl (cI, 6, .inl gQ)), (nM, .inl (cI, 6, .inl gM))] H := hP
                  replace hD : va_D A [(nW, .inl (cI, 14, .inl gW)), (nX, .inl (cI, 4, .inl (upd yX 3 x69))), (n, .inr (8, [.int mleft, .int mmetres, .int mshut, .int mshield, .int mtoday, .int mbagged, .int mwarmed, .ref nW, .ref nC, .int mmeals, .ref nQ, .ref nM, .ref nD, .ref nA, .ref nK, .int msights, .ref nP, .int mpadMany, .ref nE, .ref nF, .ref nG, .int macts, .int mgusty, .int mleakAct, .int mleakMuch, .int mendOfCan, .int mbadAct, .int mbadWhy, .int mburnt, .int mboiled, .ref nH, .ref nI, .ref nJ, .ref nL, .int mhadLeft, .int mhadToday, .int mhadBagged, .int mhadWarmed, .int mleaves, .int mdayThen, .int mcoldThen, .ref nO, .int mportionMany, .ref nT, .ref nU, .int mleakMany, .int mleakActs, .ref nV, .ref nX, .ref nY, .ref nZ, .int mkeptAt, .int misWriting])), (nQ, .inl (cI, 6, .inl gQ)), (nM, .inl (cI, 6, .inl gM))] := hD
                  refine lv_iload hx hb dX8_shares_158 (lv_at hl 3 rfl) ?_
                  refine lv_iload hx hb dX8_shares_160 (lv_at hl 1 rfl) ?_
                  refine lv_iload_n hx hb dX8_shares_162 rfl (lv_at hl 8 rfl) ?_
                  refine lv_icmp_ne (tgt := 170) hx hb dX8_shares_163 (by decide) (fun c70 => ?_) (fun c70 => ?_)
                  · have t70 : (3 : Int) ≠ i2.toInt := (tne c70)
                    refine lv_iconst (v := 0) hx hb dX8_shares_170 (by decide) ?_
                    refine lv_iadd hx hb dX8_shares_171 ?_
                    refine lv_topi (fun y71 e71 => ?_)
                    obtain rfl : y5 = y71 := (e71.trans (by simp)).symm
                    refine lv_istore (lv' := [(5, .int y5), (8, .int 4), (7, .int 3), (6, .int y6), (4, .int x18), (0, .ref n), (1, .int i0), (2, .int i1), (3, .int i2)]) hx hb dX8_shares_172 hl (by decide) rfl (fun ls hl => ?_)
                    obtain ⟨x72, e72⟩ : ∃ y : Int32, y = y6 + Int32.ofInt (-1) := ⟨_, rfl⟩
                    refine lv_iinc (v := x72) (lv' := [(6, .int x72), (5, .int y5), (8, .int 4), (7, .int 3), (4, .int x18), (0, .ref n), (1, .int i0), (2, .int i1), (3, .int i2)]) hx hb dX8_shares_174 hl (k := 3) rfl e72.symm (by decide) rfl (fun ls hl => ?_)
                    have f72 : x72.toInt = y6.toInt + (-1) := by rw [e72]; exact tinc (by decide) (by have t8 := tb y6; omega) (by have t8 := tb y6; omega)
                    refine lv_goto (tgt := 98) hx hb dX8_shares_177 (by decide) ?_
                    exact ih (H := H) (locs := locs) (ls := ls) (y5 := y5) (y6 := x72) (yX := (upd yX 3 x69)) hS (by omega)  (show lv_has ls 9 [(6, .int x72), (5, .int y5), (4, .int x18), (0, .ref n), (1, .int i0), (2, .int i1), (3, .int i2)] from lv_sub hl [0, 1, 4, 5, 6, 7, 8] rfl) (mx_subP (wc := [(nW, .inl (cI, 14, .inl gW)), (nX, .inl (cI, 4, .inl (upd yX 3 x69))), (n, .inr (8, [.int mleft, .int mmetres, .int mshut, .int mshield, .int mtoday, .int mbagged, .int mwarmed, .ref nW, .ref nC, .int mmeals, .ref nQ, .ref nM, .ref nD, .ref nA, .ref nK, .int msights, .ref nP, .int mpadMany, .ref nE, .ref nF, .ref nG, .int macts, .int mgusty, .int mleakAct, .int mleakMuch, .int mendOfCan, .int mbadAct, .int mbadWhy, .int mburnt, .int mboiled, .ref nH, .ref nI, .ref nJ, .ref nL, .int mhadLeft, .int mhadToday, .int mhadBagged, .int mhadWarmed, .int mleaves, .int mdayThen, .int mcoldThen, .ref nO, .int mportionMany, .ref nT, .ref nU, .int mleakMany, .int mleakActs, .ref nV, .ref nX, .ref nY, .ref nZ, .int mkeptAt, .int misWriting])), (nQ, .inl (cI, 6, .inl gQ)), (nM, .inl (cI, 6, .inl gM))]) hP [0, 1, 2, 3, 4] rfl) (hD.sub (ws' := [(nW, .inl (cI, 14, .inl gW)), (nX, .inl (cI, 4, .inl (upd yX 3 x69))), (n, .inr (8, [.int mleft, .int mmetres, .int mshut, .int mshield, .int mtoday, .int mbagged, .int mwarmed, .ref nW, .ref nC, .int mmeals, .ref nQ, .ref nM, .ref nD, .ref nA, .ref nK, .int msights, .ref nP, .int mpadMany, .ref nE, .ref nF, .ref nG, .int macts, .int mgusty, .int mleakAct, .int mleakMuch, .int mendOfCan, .int mbadAct, .int mbadWhy, .int mburnt, .int mboiled, .ref nH, .ref nI, .ref nJ, .ref nL, .int mhadLeft, .int mhadToday, .int mhadBagged, .int mhadWarmed, .int mleaves, .int mdayThen, .int mcoldThen, .ref nO, .int mportionMany, .ref nT, .ref nU, .int mleakMany, .int mleakActs, .ref nV, .ref nX, .ref nY, .ref nZ, .int mkeptAt, .int misWriting])), (nQ, .inl (cI, 6, .inl gQ)), (nM, .inl (cI, 6, .inl gM))]) [0, 1, 2, 3, 4] (by decide) rfl) (by omega)
                  · have t70 : (3 : Int) = i2.toInt := (teq c70)
                    refine lv_iconst (v := 1) hx hb dX8_shares_166 (by decide) ?_
                    refine lv_goto (tgt := 171) hx hb dX8_shares_167 (by decide) ?_
                    refine lv_iadd hx hb dX8_shares_171 ?_
                    refine lv_topi (fun x73 e73 => ?_)
                    refine lv_istore (lv' := [(5, .int x73), (8, .int 4), (7, .int 3), (6, .int y6), (4, .int x18), (0, .ref n), (1, .int i0), (2, .int i1), (3, .int i2)]) hx hb dX8_shares_172 hl (by decide) rfl (fun ls hl => ?_)
                    obtain ⟨x74, e74⟩ : ∃ y : Int32, y = y6 + Int32.ofInt (-1) := ⟨_, rfl⟩
                    refine lv_iinc (v := x74) (lv' := [(6, .int x74), (5, .int x73), (8, .int 4), (7, .int 3), (4, .int x18), (0, .ref n), (1, .int i0), (2, .int i1), (3, .int i2)]) hx hb dX8_shares_174 hl (k := 3) rfl e74.symm (by decide) rfl (fun ls hl => ?_)
                    have f74 : x74.toInt = y6.toInt + (-1) := by rw [e74]; exact tinc (by decide) (by have t8 := tb y6; omega) (by have t8 := tb y6; omega)
                    refine lv_goto (tgt := 98) hx hb dX8_shares_177 (by decide) ?_
                    exact ih (H := H) (locs := locs) (ls := ls) (y5 := x73) (y6 := x74) (yX := (upd yX 3 x69)) hS (by omega)  (show lv_has ls 9 [(6, .int x74), (5, .int x73), (4, .int x18), (0, .ref n), (1, .int i0), (2, .int i1), (3, .int i2)] from lv_sub hl [0, 1, 4, 5, 6, 7, 8] rfl) (mx_subP (wc := [(nW, .inl (cI, 14, .inl gW)), (nX, .inl (cI, 4, .inl (upd yX 3 x69))), (n, .inr (8, [.int mleft, .int mmetres, .int mshut, .int mshield, .int mtoday, .int mbagged, .int mwarmed, .ref nW, .ref nC, .int mmeals, .ref nQ, .ref nM, .ref nD, .ref nA, .ref nK, .int msights, .ref nP, .int mpadMany, .ref nE, .ref nF, .ref nG, .int macts, .int mgusty, .int mleakAct, .int mleakMuch, .int mendOfCan, .int mbadAct, .int mbadWhy, .int mburnt, .int mboiled, .ref nH, .ref nI, .ref nJ, .ref nL, .int mhadLeft, .int mhadToday, .int mhadBagged, .int mhadWarmed, .int mleaves, .int mdayThen, .int mcoldThen, .ref nO, .int mportionMany, .ref nT, .ref nU, .int mleakMany, .int mleakActs, .ref nV, .ref nX, .ref nY, .ref nZ, .int mkeptAt, .int misWriting])), (nQ, .inl (cI, 6, .inl gQ)), (nM, .inl (cI, 6, .inl gM))]) hP [0, 1, 2, 3, 4] rfl) (hD.sub (ws' := [(nW, .inl (cI, 14, .inl gW)), (nX, .inl (cI, 4, .inl (upd yX 3 x69))), (n, .inr (8, [.int mleft, .int mmetres, .int mshut, .int mshield, .int mtoday, .int mbagged, .int mwarmed, .ref nW, .ref nC, .int mmeals, .ref nQ, .ref nM, .ref nD, .ref nA, .ref nK, .int msights, .ref nP, .int mpadMany, .ref nE, .ref nF, .ref nG, .int macts, .int mgusty, .int mleakAct, .int mleakMuch, .int mendOfCan, .int mbadAct, .int mbadWhy, .int mburnt, .int mboiled, .ref nH, .ref nI, .ref nJ, .ref nL, .int mhadLeft, .int mhadToday, .int mhadBagged, .int mhadWarmed, .int mleaves, .int mdayThen, .int mcoldThen, .ref nO, .int mportionMany, .ref nT, .ref nU, .int mleakMany, .int mleakActs, .ref nV, .ref nX, .ref nY, .ref nZ, .int mkeptAt, .int misWriting])), (nQ, .inl (cI, 6, .inl gQ)), (nM, .inl (cI, 6, .inl gM))]) [0, 1, 2, 3, 4] (by decide) rfl) (by omega)
            · have t30 : (yX 1).toInt < (yX 0).toInt := (tnle c30)
              refine lv_iload hx hb dX8_shares_132 (lv_at hl 0 rfl) ?_
              refine lv_goto (tgt := 139) hx hb dX8_shares_134 (by decide) ?_
              refine lv_istore (lv' := [(7, .int 1), (8, .int 1), (6, .int y6), (5, .int y5), (4, .int x18), (0, .ref n), (1, .int i0), (2, .int i1), (3, .int i2)]) hx hb dX8_shares_139 hl (by decide) rfl (fun ls hl => ?_)
              refine lv_iinc (v := 2) (lv' := [(8, .int 2), (7, .int 1), (6, .int y6), (5, .int y5), (4, .int x18), (0, .ref n), (1, .int i0), (2, .int i1), (3, .int i2)]) hx hb dX8_shares_141 hl (k := 1) rfl (by decide) (by decide) rfl (fun ls hl => ?_)
              refine lv_goto (tgt := 109) hx hb dX8_shares_144 (by decide) ?_
              refine lv_iload hx hb dX8_shares_109 (lv_at hl 0 rfl) ?_
              refine lv_iconst (v := 4) hx hb dX8_shares_111 (by decide) ?_
              refine lv_icmp_ge (tgt := 147) hx hb dX8_shares_112 (by decide) (fun c75 => absurd c75 (by decide)) (fun c75 => ?_)
              refine lv_aload_n hx hb dX8_shares_115 rfl (lv_at hl 5 rfl) ?_
              refine va_get (D := (dC, dI)) (ci := 8) (v := .ref nX) (C := RX8) (T := TX8) (N := 53) hx hb hts hin8 hown hK hP 2 rfl rfl 48 (by decide) hw2 (fun _ h9 => h9) rfl dX8_shares_116 ?_
              refine lv_iload hx hb dX8_shares_119 (lv_at hl 0 rfl) ?_
              refine va_iald hx hb hK hP 1 0 rfl rfl (vin (by decide) (by decide)) dX8_shares_121 ?_
              refine lv_topi (fun y76 e76 => ?_)
              obtain rfl : yX 2 = y76 := e76.symm
              refine lv_aload_n hx hb dX8_shares_122 rfl (lv_at hl 5 rfl) ?_
              refine va_get (D := (dC, dI)) (ci := 8) (v := .ref nX) (C := RX8) (T := TX8) (N := 53) hx hb hts hin8 hown hK hP 2 rfl rfl 48 (by decide) hw2 (fun _ h9 => h9) rfl dX8_shares_123 ?_
              refine lv_iload hx hb dX8_shares_126 (lv_at hl 1 rfl) ?_
              refine va_iald hx hb hK hP 1 0 rfl rfl (vin (by decide) (by decide)) dX8_shares_128 ?_
              refine lv_topi (fun y77 e77 => ?_)
              obtain rfl : yX 1 = y77 := e77.symm
              refine lv_icmp_ge (tgt := 137) hx hb dX8_shares_129 (by decide) (fun c78 => ?_) (fun c78 => ?_)
              · have t78 : (yX 1).toInt ≤ (yX 2).toInt := (tle c78)
                refine lv_iload hx hb dX8_shares_137 (lv_at hl 1 rfl) ?_
                refine lv_istore (lv' := [(7, .int 1), (8, .int 2), (6, .int y6), (5, .int y5), (4, .int x18), (0, .ref n), (1, .int i0), (2, .int i1), (3, .int i2)]) hx hb dX8_shares_139 hl (by decide) rfl (fun ls hl => ?_)
                refine lv_iinc (v := 3) (lv' := [(8, .int 3), (7, .int 1), (6, .int y6), (5, .int y5), (4, .int x18), (0, .ref n), (1, .int i0), (2, .int i1), (3, .int i2)]) hx hb dX8_shares_141 hl (k := 1) rfl (by decide) (by decide) rfl (fun ls hl => ?_)
                refine lv_goto (tgt := 109) hx hb dX8_shares_144 (by decide) ?_
                refine lv_iload hx hb dX8_shares_109 (lv_at hl 0 rfl) ?_
                refine lv_iconst (v := 4) hx hb dX8_shares_111 (by decide) ?_
                refine lv_icmp_ge (tgt := 147) hx hb dX8_shares_112 (by decide) (fun c79 => absurd c79 (by decide)) (fun c79 => ?_)
                refine lv_aload_n hx hb dX8_shares_115 rfl (lv_at hl 5 rfl) ?_
                refine va_get (D := (dC, dI)) (ci := 8) (v := .ref nX) (C := RX8) (T := TX8) (N := 53) hx hb hts hin8 hown hK hP 2 rfl rfl 48 (by decide) hw2 (fun _ h9 => h9) rfl dX8_shares_116 ?_
                refine lv_iload hx hb dX8_shares_119 (lv_at hl 0 rfl) ?_
                refine va_iald hx hb hK hP 1 0 rfl rfl (vin (by decide) (by decide)) dX8_shares_121 ?_
                refine lv_topi (fun y80 e80 => ?_)
                obtain rfl : yX 3 = y80 := e80.symm
                refine lv_aload_n hx hb dX8_shares_122 rfl (lv_at hl 5 rfl) ?_
                refine va_get (D := (dC, dI)) (ci := 8) (v := .ref nX) (C := RX8) (T := TX8) (N := 53) hx hb hts hin8 hown hK hP 2 rfl rfl 48 (by decide) hw2 (fun _ h9 => h9) rfl dX8_shares_123 ?_
                refine lv_iload hx hb dX8_shares_126 (lv_at hl 1 rfl) ?_
                refine va_iald hx hb hK hP 1 0 rfl rfl (vin (by decide) (by decide)) dX8_shares_128 ?_
                refine lv_topi (fun y81 e81 => ?_)
                obtain rfl : yX 1 = y81 := e81.symm
                refine lv_icmp_ge (tgt := 137) hx hb dX8_shares_129 (by decide) (fun c82 => ?_) (fun c82 => ?_)
                · have t82 : (yX 1).toInt ≤ (yX 3).toInt := (tle c82)
                  refine lv_iload hx hb dX8_shares_137 (lv_at hl 1 rfl) ?_
                  refine lv_istore (lv' := [(7, .int 1), (8, .int 3), (6, .int y6), (5, .int y5), (4, .int x18), (0, .ref n), (1, .int i0), (2, .int i1), (3, .int i2)]) hx hb dX8_shares_139 hl (by decide) rfl (fun ls hl => ?_)
                  refine lv_iinc (v := 4) (lv' := [(8, .int 4), (7, .int 1), (6, .int y6), (5, .int y5), (4, .int x18), (0, .ref n), (1, .int i0), (2, .int i1), (3, .int i2)]) hx hb dX8_shares_141 hl (k := 1) rfl (by decide) (by decide) rfl (fun ls hl => ?_)
                  refine lv_goto (tgt := 109) hx hb dX8_shares_144 (by decide) ?_
                  refine lv_iload hx hb dX8_shares_109 (lv_at hl 0 rfl) ?_
                  refine lv_iconst (v := 4) hx hb dX8_shares_111 (by decide) ?_
                  refine lv_icmp_ge (tgt := 147) hx hb dX8_shares_112 (by decide) (fun c83 => ?_) (fun c83 => absurd c83 (by decide))
                  refine lv_aload_n hx hb dX8_shares_147 rfl (lv_at hl 5 rfl) ?_
                  refine va_get (D := (dC, dI)) (ci := 8) (v := .ref nX) (C := RX8) (T := TX8) (N := 53) hx hb hts hin8 hown hK hP 2 rfl rfl 48 (by decide) hw2 (fun _ h9 => h9) rfl dX8_shares_148 ?_
                  refine lv_iload hx hb dX8_shares_151 (lv_at hl 1 rfl) ?_
                  refine lv_dup2_11 hx hb dX8_shares_153 rfl rfl ?_
                  refine va_iald hx hb hK hP 1 0 rfl rfl (vin (by decide) (by decide)) dX8_shares_154 ?_
                  refine lv_topi (fun y84 e84 => ?_)
                  obtain rfl : yX 1 = y84 := e84.symm
                  refine lv_iconst (v := 1) hx hb dX8_shares_155 (by decide) ?_
                  refine lv_iadd hx hb dX8_shares_156 ?_
                  refine lv_topi (fun x85 e85 => ?_)
                  refine va_iast hx hb hK hP hD hS 1 0 rfl rfl (vin (by decide) (by decide)) dX8_shares_157 (fun H locs hP hD hS => ?_)
                  replace hP : va_P (dC, dI) vwCl [(nW, .inl (cI, 14, .inl gW)), (nX, .inl (cI, 4, .inl (upd yX 1 x85))), (n, .inr (8, [.int mleft, .int mmetres, .int mshut, .int mshield, .int mtoday, .int mbagged, .int mwarmed, .ref nW, .ref nC, .int mmeals, .ref nQ, .ref nM, .ref nD, .ref nA, .ref nK, .int msights, .ref nP, .int mpadMany, .ref nE, .ref nF, .ref nG, .int macts, .int mgusty, .int mleakAct, .int mleakMuch, .int mendOfCan, .int mbadAct, .int mbadWhy, .int mburnt, .int mboiled, .ref nH, .ref nI, .ref nJ, .ref nL, .int mhadLeft, .int mhadToday, .int mhadBagged, .int mhadWarmed, .int mleaves, .int mdayThen, .int mcoldThen, .ref nO, .int mportionMany, .ref nT, .ref nU, .int mleakMany, .int mleakActs, .ref nV, .ref nX, .ref nY, .ref nZ, .int mkeptAt, .int misWriting])), (nQ, .inl (cI, 6, .inl gQ)), (nM, .inl (cI, 6, .inl gM))] H := hP
                  replace hD : va_D A [(nW, .inl (cI, 14, .inl gW)), (nX, .inl (cI, 4, .inl (upd yX 1 x85))), (n, .inr (8, [.int mleft, .int mmetres, .int mshut, .int mshield, .int mtoday, .int mbagged, .int mwarmed, .ref nW, .ref nC, .int mmeals, .ref nQ, .ref nM, .ref nD, .ref nA, .ref nK, .int msights, .ref nP, .int mpadMany, .ref nE, .ref nF, .ref nG, .int macts, .int mgusty, .int mleakAct, .int mleakMuch, .int mendOfCan, .int mbadAct, .int mbadWhy, .int mburnt, .int mboiled, .ref nH, .ref nI, .ref nJ, .ref nL, .int mhadLeft, .int mhadToday, .int mhadBagged, .int mhadWarmed, .int mleaves, .int mdayThen, .int mcoldThen, .ref nO, .int mportionMany, .ref nT, .ref nU, .int mleakMany, .int mleakActs, .ref nV, .ref nX, .ref nY, .ref nZ, .int mkeptAt, .int misWriting])), (nQ, .inl (cI, 6, .inl gQ)), (nM, .inl (cI, 6, .inl gM))] := hD
                  refine lv_iload hx hb dX8_shares_158 (lv_at hl 3 rfl) ?_
                  refine lv_iload hx hb dX8_shares_160 (lv_at hl 1 rfl) ?_
                  refine lv_iload_n hx hb dX8_shares_162 rfl (lv_at hl 8 rfl) ?_
                  refine lv_icmp_ne (tgt := 170) hx hb dX8_shares_163 (by decide) (fun c86 => ?_) (fun c86 => ?_)
                  · have t86 : (1 : Int) ≠ i2.toInt := (tne c86)
                    refine lv_iconst (v := 0) hx hb dX8_shares_170 (by decide) ?_
                    refine lv_iadd hx hb dX8_shares_171 ?_
                    refine lv_topi (fun y87 e87 => ?_)
                    obtain rfl : y5 = y87 := (e87.trans (by simp)).symm
                    refine lv_istore (lv' := [(5, .int y5), (8, .int 4), (7, .int 1), (6, .int y6), (4, .int x18), (0, .ref n), (1, .int i0), (2, .int i1), (3, .int i2)]) hx hb dX8_shares_172 hl (by decide) rfl (fun ls hl => ?_)
                    obtain ⟨x88, e88⟩ : ∃ y : Int32, y = y6 + Int32.ofInt (-1) := ⟨_, rfl⟩
                    refine lv_iinc (v := x88) (lv' := [(6, .int x88), (5, .int y5), (8, .int 4), (7, .int 1), (4, .int x18), (0, .ref n), (1, .int i0), (2, .int i1), (3, .int i2)]) hx hb dX8_shares_174 hl (k := 3) rfl e88.symm (by decide) rfl (fun ls hl => ?_)
                    have f88 : x88.toInt = y6.toInt + (-1) := by rw [e88]; exact tinc (by decide) (by have t8 := tb y6; omega) (by have t8 := tb y6; omega)
                    refine lv_goto (tgt := 98) hx hb dX8_shares_177 (by decide) ?_
                    exact ih (H := H) (locs := locs) (ls := ls) (y5 := y5) (y6 := x88) (yX := (upd yX 1 x85)) hS (by omega)  (show lv_has ls 9 [(6, .int x88), (5, .int y5), (4, .int x18), (0, .ref n), (1, .int i0), (2, .int i1), (3, .int i2)] from lv_sub hl [0, 1, 4, 5, 6, 7, 8] rfl) (mx_subP (wc := [(nW, .inl (cI, 14, .inl gW)), (nX, .inl (cI, 4, .inl (upd yX 1 x85))), (n, .inr (8, [.int mleft, .int mmetres, .int mshut, .int mshield, .int mtoday, .int mbagged, .int mwarmed, .ref nW, .ref nC, .int mmeals, .ref nQ, .ref nM, .ref nD, .ref nA, .ref nK, .int msights, .ref nP, .int mpadMany, .ref nE, .ref nF, .ref nG, .int macts, .int mgusty, .int mleakAct, .int mleakMuch, .int mendOfCan, .int mbadAct, .int mbadWhy, .int mburnt, .int mboiled, .ref nH, .ref nI, .ref nJ, .ref nL, .int mhadLeft, .int mhadToday, .int mhadBagged, .int mhadWarmed, .int mleaves, .int mdayThen, .int mcoldThen, .ref nO, .int mportionMany, .ref nT, .ref nU, .int mleakMany, .int mleakActs, .ref nV, .ref nX, .ref nY, .ref nZ, .int mkeptAt, .int misWriting])), (nQ, .inl (cI, 6, .inl gQ)), (nM, .inl (cI, 6, .inl gM))]) hP [0, 1, 2, 3, 4] rfl) (hD.sub (ws' := [(nW, .inl (cI, 14, .inl gW)), (nX, .inl (cI, 4, .inl (upd yX 1 x85))), (n, .inr (8, [.int mleft, .int mmetres, .int mshut, .int mshield, .int mtoday, .int mbagged, .int mwarmed, .ref nW, .ref nC, .int mmeals, .ref nQ, .ref nM, .ref nD, .ref nA, .ref nK, .int msights, .ref nP, .int mpadMany, .ref nE, .ref nF, .ref nG, .int macts, .int mgusty, .int mleakAct, .int mleakMuch, .int mendOfCan, .int mbadAct, .int mbadWhy, .int mburnt, .int mboiled, .ref nH, .ref nI, .ref nJ, .ref nL, .int mhadLeft, .int mhadToday, .int mhadBagged, .int mhadWarmed, .int mleaves, .int mdayThen, .int mcoldThen, .ref nO, .int mportionMany, .ref nT, .ref nU, .int mleakMany, .int mleakActs, .ref nV, .ref nX, .ref nY, .ref nZ, .int mkeptAt, .int misWriting])), (nQ, .inl (cI, 6, .inl gQ)), (nM, .inl (cI, 6, .inl gM))]) [0, 1, 2, 3, 4] (by decide) rfl) (by omega)
                  · have t86 : (1 : Int) = i2.toInt := (teq c86)
                    refine lv_iconst (v := 1) hx hb dX8_shares_166 (by decide) ?_
                    refine lv_goto (tgt := 171) hx hb dX8_shares_167 (by decide) ?_
                    refine lv_iadd hx hb dX8_shares_171 ?_
                    refine lv_topi (fun x89 e89 => ?_)
                    refine lv_istore (lv' := [(5, .int x89), (8, .int 4), (7, .int 1), (6, .int y6), (4, .int x18), (0, .ref n), (1, .int i0), (2, .int i1), (3, .int i2)]) hx hb dX8_shares_172 hl (by decide) rfl (fun ls hl => ?_)
                    obtain ⟨x90, e90⟩ : ∃ y : Int32, y = y6 + Int32.ofInt (-1) := ⟨_, rfl⟩
                    refine lv_iinc (v := x90) (lv' := [(6, .int x90), (5, .int x89), (8, .int 4), (7, .int 1), (4, .int x18), (0, .ref n), (1, .int i0), (2, .int i1), (3, .int i2)]) hx hb dX8_shares_174 hl (k := 3) rfl e90.symm (by decide) rfl (fun ls hl => ?_)
                    have f90 : x90.toInt = y6.toInt + (-1) := by rw [e90]; exact tinc (by decide) (by have t8 := tb y6; omega) (by have t8 := tb y6; omega)
                    refine lv_goto (tgt := 98) hx hb dX8_shares_177 (by decide) ?_
                    exact ih (H := H) (locs := locs) (ls := ls) (y5 := x89) (y6 := x90) (yX := (upd yX 1 x85)) hS (by omega)  (show lv_has ls 9 [(6, .int x90), (5, .int x89), (4, .int x18), (0, .ref n), (1, .int i0), (2, .int i1), (3, .int i2)] from lv_sub hl [0, 1, 4, 5, 6, 7, 8] rfl) (mx_subP (wc := [(nW, .inl (cI, 14, .inl gW)), (nX, .inl (cI, 4, .inl (upd yX 1 x85))), (n, .inr (8, [.int mleft, .int mmetres, .int mshut, .int mshield, .int mtoday, .int mbagged, .int mwarmed, .ref nW, .ref nC, .int mmeals, .ref nQ, .ref nM, .ref nD, .ref nA, .ref nK, .int msights, .ref nP, .int mpadMany, .ref nE, .ref nF, .ref nG, .int macts, .int mgusty, .int mleakAct, .int mleakMuch, .int mendOfCan, .int mbadAct, .int mbadWhy, .int mburnt, .int mboiled, .ref nH, .ref nI, .ref nJ, .ref nL, .int mhadLeft, .int mhadToday, .int mhadBagged, .int mhadWarmed, .int mleaves, .int mdayThen, .int mcoldThen, .ref nO, .int mportionMany, .ref nT, .ref nU, .int mleakMany, .int mleakActs, .ref nV, .ref nX, .ref nY, .ref nZ, .int mkeptAt, .int misWriting])), (nQ, .inl (cI, 6, .inl gQ)), (nM, .inl (cI, 6, .inl gM))]) hP [0, 1, 2, 3, 4] rfl) (hD.sub (ws' := [(nW, .inl (cI, 14, .inl gW)), (nX, .inl (cI, 4, .inl (upd yX 1 x85))), (n, .inr (8, [.int mleft, .int mmetres, .int mshut, .int mshield, .int mtoday, .int mbagged, .int mwarmed, .ref nW, .ref nC, .int mmeals, .ref nQ, .ref nM, .ref nD, .ref nA, .ref nK, .int msights, .ref nP, .int mpadMany, .ref nE, .ref nF, .ref nG, .int macts, .int mgusty, .int mleakAct, .int mleakMuch, .int mendOfCan, .int mbadAct, .int mbadWhy, .int mburnt, .int mboiled, .ref nH, .ref nI, .ref nJ, .ref nL, .int mhadLeft, .int mhadToday, .int mhadBagged, .int mhadWarmed, .int mleaves, .int mdayThen, .int mcoldThen, .ref nO, .int mportionMany, .ref nT, .ref nU, .int mleakMany, .int mleakActs, .ref nV, .ref nX, .ref nY, .ref nZ, .int mkeptAt, .int misWriting])), (nQ, .inl (cI, 6, .inl gQ)), (nM, .inl (cI, 6, .inl gM))]) [0, 1, 2, 3, 4] (by decide) rfl) (by omega)
                · have t82 : (yX 3).toInt < (yX 1).toInt := (tnle c82)
                  refine lv_iload hx hb dX8_shares_132 (lv_at hl 0 rfl) ?_
                  refine lv_goto (tgt := 139) hx hb dX8_shares_134 (by decide) ?_
                  refine lv_istore (lv' := [(7, .int 3), (8, .int 3), (6, .int y6), (5, .int y5), (4, .int x18), (0, .ref n), (1, .int i0), (2, .int i1), (3, .int i2)]) hx hb dX8_shares_139 hl (by decide) rfl (fun ls hl => ?_)
                  refine lv_iinc (v := 4) (lv' := [(8, .int 4), (7, .int 3), (6, .int y6), (5, .int y5), (4, .int x18), (0, .ref n), (1, .int i0), (2, .int i1), (3, .int i2)]) hx hb dX8_shares_141 hl (k := 1) rfl (by decide) (by decide) rfl (fun ls hl => ?_)
                  refine lv_goto (tgt := 109) hx hb dX8_shares_144 (by decide) ?_
                  refine lv_iload hx hb dX8_shares_109 (lv_at hl 0 rfl) ?_
                  refine lv_iconst (v := 4) hx hb dX8_shares_111 (by decide) ?_
                  refine lv_icmp_ge (tgt := 147) hx hb dX8_shares_112 (by decide) (fun c91 => ?_) (fun c91 => absurd c91 (by decide))
                  refine lv_aload_n hx hb dX8_shares_147 rfl (lv_at hl 5 rfl) ?_
                  refine va_get (D := (dC, dI)) (ci := 8) (v := .ref nX) (C := RX8) (T := TX8) (N := 53) hx hb hts hin8 hown hK hP 2 rfl rfl 48 (by decide) hw2 (fun _ h9 => h9) rfl dX8_shares_148 ?_
                  refine lv_iload hx hb dX8_shares_151 (lv_at hl 1 rfl) ?_
                  refine lv_dup2_11 hx hb dX8_shares_153 rfl rfl ?_
                  refine va_iald hx hb hK hP 1 0 rfl rfl (vin (by decide) (by decide)) dX8_shares_154 ?_
                  refine lv_topi (fun y92 e92 => ?_)
                  obtain rfl : yX 3 = y92 := e92.symm
                  refine lv_iconst (v := 1) hx hb dX8_shares_155 (by decide) ?_
                  refine lv_iadd hx hb dX8_shares_156 ?_
                  refine lv_topi (fun x93 e93 => ?_)
                  refine va_iast hx hb hK hP hD hS 1 0 rfl rfl (vin (by decide) (by decide)) dX8_shares_157 (fun H locs hP hD hS => ?_)
                  replace hP : va_P (dC, dI) vwCl [(nW, .inl (cI, 14, .inl gW)), (nX, .inl (cI, 4, .inl (upd yX 3 x93))), (n, .inr (8, [.int mleft, .int mmetres, .int mshut, .int mshield, .int mtoday, .int mbagged, .int mwarmed, .ref nW, .ref nC, .int mmeals, .ref nQ, .ref nM, .ref nD, .ref nA, .ref nK, .int msights, .ref nP, .int mpadMany, .ref nE, .ref nF, .ref nG, .int macts, .int mgusty, .int mleakAct, .int mleakMuch, .int mendOfCan, .int mbadAct, .int mbadWhy, .int mburnt, .int mboiled, .ref nH, .ref nI, .ref nJ, .ref nL, .int mhadLeft, .int mhadToday, .int mhadBagged, .int mhadWarmed, .int mleaves, .int mdayThen, .int mcoldThen, .ref nO, .int mportionMany, .ref nT, .ref nU, .int mleakMany, .int mleakActs, .ref nV, .ref nX, .ref nY, .ref nZ, .int mkeptAt, .int misWriting])), (nQ, .inl (cI, 6, .inl gQ)), (nM, .inl (cI, 6, .inl gM))] H := hP
                  replace hD : va_D A [(nW, .inl (cI, 14, .inl gW)), (nX, .inl (cI, 4, .inl (upd yX 3 x93))), (n, .inr (8, [.int mleft, .int mmetres, .int mshut, .int mshield, .int mtoday, .int mbagged, .int mwarmed, .ref nW, .ref nC, .int mmeals, .ref nQ, .ref nM, .ref nD, .ref nA, .ref nK, .int msights, .ref nP, .int mpadMany, .ref nE, .ref nF, .ref nG, .int macts, .int mgusty, .int mleakAct, .int mleakMuch, .int mendOfCan, .int mbadAct, .int mbadWhy, .int mburnt, .int mboiled, .ref nH, .ref nI, .ref nJ, .ref nL, .int mhadLeft, .int mhadToday, .int mhadBagged, .int mhadWarmed, .int mleaves, .int mdayThen, .int mcoldThen, .ref nO, .int mportionMany, .ref nT, .ref nU, .int mleakMany, .int mleakActs, .ref nV, .ref nX, .ref nY, .ref nZ, .int mkeptAt, .int misWriting])), (nQ, .inl (cI, 6, .inl gQ)), (nM, .inl (cI, 6, .inl gM))] := hD
                  refine lv_iload hx hb dX8_shares_158 (lv_at hl 3 rfl) ?_
                  refine lv_iload hx hb dX8_shares_160 (lv_at hl 1 rfl) ?_
                  refine lv_iload_n hx hb dX8_shares_162 rfl (lv_at hl 8 rfl) ?_
                  refine lv_icmp_ne (tgt := 170) hx hb dX8_shares_163 (by decide) (fun c94 => ?_) (fun c94 => ?_)
                  · have t94 : (3 : Int) ≠ i2.toInt := (tne c94)
                    refine lv_iconst (v := 0) hx hb dX8_shares_170 (by decide) ?_
                    refine lv_iadd hx hb dX8_shares_171 ?_
                    refine lv_topi (fun y95 e95 => ?_)
                    obtain rfl : y5 = y95 := (e95.trans (by simp)).symm
                    refine lv_istore (lv' := [(5, .int y5), (8, .int 4), (7, .int 3), (6, .int y6), (4, .int x18), (0, .ref n), (1, .int i0), (2, .int i1), (3, .int i2)]) hx hb dX8_shares_172 hl (by decide) rfl (fun ls hl => ?_)
                    obtain ⟨x96, e96⟩ : ∃ y : Int32, y = y6 + Int32.ofInt (-1) := ⟨_, rfl⟩
                    refine lv_iinc (v := x96) (lv' := [(6, .int x96), (5, .int y5), (8, .int 4), (7, .int 3), (4, .int x18), (0, .ref n), (1, .int i0), (2, .int i1), (3, .int i2)]) hx hb dX8_shares_174 hl (k := 3) rfl e96.symm (by decide) rfl (fun ls hl => ?_)
                    have f96 : x96.toInt = y6.toInt + (-1) := by rw [e96]; exact tinc (by decide) (by have t8 := tb y6; omega) (by have t8 := tb y6; omega)
                    refine lv_goto (tgt := 98) hx hb dX8_shares_177 (by decide) ?_
                    exact ih (H := H) (locs := locs) (ls := ls) (y5 := y5) (y6 := x96) (yX := (upd yX 3 x93)) hS (by omega)  (show lv_has ls 9 [(6, .int x96), (5, .int y5), (4, .int x18), (0, .ref n), (1, .int i0), (2, .int i1), (3, .int i2)] from lv_sub hl [0, 1, 4, 5, 6, 7, 8] rfl) (mx_subP (wc := [(nW, .inl (cI, 14, .inl gW)), (nX, .inl (cI, 4, .inl (upd yX 3 x93))), (n, .inr (8, [.int mleft, .int mmetres, .int mshut, .int mshield, .int mtoday, .int mbagged, .int mwarmed, .ref nW, .ref nC, .int mmeals, .ref nQ, .ref nM, .ref nD, .ref nA, .ref nK, .int msights, .ref nP, .int mpadMany, .ref nE, .ref nF, .ref nG, .int macts, .int mgusty, .int mleakAct, .int mleakMuch, .int mendOfCan, .int mbadAct, .int mbadWhy, .int mburnt, .int mboiled, .ref nH, .ref nI, .ref nJ, .ref nL, .int mhadLeft, .int mhadToday, .int mhadBagged, .int mhadWarmed, .int mleaves, .int mdayThen, .int mcoldThen, .ref nO, .int mportionMany, .ref nT, .ref nU, .int mleakMany, .int mleakActs, .ref nV, .ref nX, .ref nY, .ref nZ, .int mkeptAt, .int misWriting])), (nQ, .inl (cI, 6, .inl gQ)), (nM, .inl (cI, 6, .inl gM))]) hP [0, 1, 2, 3, 4] rfl) (hD.sub (ws' := [(nW, .inl (cI, 14, .inl gW)), (nX, .inl (cI, 4, .inl (upd yX 3 x93))), (n, .inr (8, [.int mleft, .int mmetres, .int mshut, .int mshield, .int mtoday, .int mbagged, .int mwarmed, .ref nW, .ref nC, .int mmeals, .ref nQ, .ref nM, .ref nD, .ref nA, .ref nK, .int msights, .ref nP, .int mpadMany, .ref nE, .ref nF, .ref nG, .int macts, .int mgusty, .int mleakAct, .int mleakMuch, .int mendOfCan, .int mbadAct, .int mbadWhy, .int mburnt, .int mboiled, .ref nH, .ref nI, .ref nJ, .ref nL, .int mhadLeft, .int mhadToday, .int mhadBagged, .int mhadWarmed, .int mleaves, .int mdayThen, .int mcoldThen, .ref nO, .int mportionMany, .ref nT, .ref nU, .int mleakMany, .int mleakActs, .ref nV, .ref nX, .ref nY, .ref nZ, .int mkeptAt, .int misWriting])), (nQ, .inl (cI, 6, .inl gQ)), (nM, .inl (cI, 6, .inl gM))]) [0, 1, 2, 3, 4] (by decide) rfl) (by omega)
                  · have t94 : (3 : Int) = i2.toInt := (teq c94)
                    refine lv_iconst (v := 1) hx hb dX8_shares_166 (by decide) ?_
                    refine lv_goto (tgt := 171) hx hb dX8_shares_167 (by decide) ?_
                    refine lv_iadd hx hb dX8_shares_171 ?_
                    refine lv_topi (fun x97 e97 => ?_)
                    refine lv_istore (lv' := [(5, .int x97), (8, .int 4), (7, .int 3), (6, .int y6), (4, .int x18), (0, .ref n), (1, .int i0), (2, .int i1), (3, .int i2)]) hx hb dX8_shares_172 hl (by decide) rfl (fun ls hl => ?_)
                    obtain ⟨x98, e98⟩ : ∃ y : Int32, y = y6 + Int32.ofInt (-1) := ⟨_, rfl⟩
                    refine lv_iinc (v := x98) (lv' := [(6, .int x98), (5, .int x97), (8, .int 4), (7, .int 3), (4, .int x18), (0, .ref n), (1, .int i0), (2, .int i1), (3, .int i2)]) hx hb dX8_shares_174 hl (k := 3) rfl e98.symm (by decide) rfl (fun ls hl => ?_)
                    have f98 : x98.toInt = y6.toInt + (-1) := by rw [e98]; exact tinc (by decide) (by have t8 := tb y6; omega) (by have t8 := tb y6; omega)
                    refine lv_goto (tgt := 98) hx hb dX8_shares_177 (by decide) ?_
                    exact ih (H := H) (locs := locs) (ls := ls) (y5 := x97) (y6 := x98) (yX := (upd yX 3 x93)) hS (by omega)  (show lv_has ls 9 [(6, .int x98), (5, .int x97), (4, .int x18), (0, .ref n), (1, .int i0), (2, .int i1), (3, .int i2)] from lv_sub hl [0, 1, 4, 5, 6, 7, 8] rfl) (mx_subP (wc := [(nW, .inl (cI, 14, .inl gW)), (nX, .inl (cI, 4, .inl (upd yX 3 x93))), (n, .inr (8, [.int mleft, .int mmetres, .int mshut, .int mshield, .int mtoday, .int mbagged, .int mwarmed, .ref nW, .ref nC, .int mmeals, .ref nQ, .ref nM, .ref nD, .ref nA, .ref nK, .int msights, .ref nP, .int mpadMany, .ref nE, .ref nF, .ref nG, .int macts, .int mgusty, .int mleakAct, .int mleakMuch, .int mendOfCan, .int mbadAct, .int mbadWhy, .int mburnt, .int mboiled, .ref nH, .ref nI, .ref nJ, .ref nL, .int mhadLeft, .int mhadToday, .int mhadBagged, .int mhadWarmed, .int mleaves, .int mdayThen, .int mcoldThen, .ref nO, .int mportionMany, .ref nT, .ref nU, .int mleakMany, .int mleakActs, .ref nV, .ref nX, .ref nY, .ref nZ, .int mkeptAt, .int misWriting])), (nQ, .inl (cI, 6, .inl gQ)), (nM, .inl (cI, 6, .inl gM))]) hP [0, 1, 2, 3, 4] rfl) (hD.sub (ws' := [(nW, .inl (cI, 14, .inl gW)), (nX, .inl (cI, 4, .inl (upd yX 3 x93))), (n, .inr (8, [.int mleft, .int mmetres, .int mshut, .int mshield, .int mtoday, .int mbagged, .int mwarmed, .ref nW, .ref nC, .int mmeals, .ref nQ, .ref nM, .ref nD, .ref nA, .ref nK, .int msights, .ref nP, .int mpadMany, .ref nE, .ref nF, .ref nG, .int macts, .int mgusty, .int mleakAct, .int mleakMuch, .int mendOfCan, .int mbadAct, .int mbadWhy, .int mburnt, .int mboiled, .ref nH, .ref nI, .ref nJ, .ref nL, .int mhadLeft, .int mhadToday, .int mhadBagged, .int mhadWarmed, .int mleaves, .int mdayThen, .int mcoldThen, .ref nO, .int mportionMany, .ref nT, .ref nU, .int mleakMany, .int mleakActs, .ref nV, .ref nX, .ref nY, .ref nZ, .int mkeptAt, .int misWriting])), (nQ, .inl (cI, 6, .inl gQ)), (nM, .inl (cI, 6, .inl gM))]) [0, 1, 2, 3, 4] (by decide) rfl) (by omega)
              · have t78 : (yX 2).toInt < (yX 1).toInt := (tnle c78)
                refine lv_iload hx hb dX8_shares_132 (lv_at hl 0 rfl) ?_
                refine lv_goto (tgt := 139) hx hb dX8_shares_134 (by decide) ?_
                refine lv_istore (lv' := [(7, .int 2), (8, .int 2), (6, .int y6), (5, .int y5), (4, .int x18), (0, .ref n), (1, .int i0), (2, .int i1), (3, .int i2)]) hx hb dX8_shares_139 hl (by decide) rfl (fun ls hl => ?_)
                refine lv_iinc (v := 3) (lv' := [(8, .int 3), (7, .int 2), (6, .int y6), (5, .int y5), (4, .int x18), (0, .ref n), (1, .int i0), (2, .int i1), (3, .int i2)]) hx hb dX8_shares_141 hl (k := 1) rfl (by decide) (by decide) rfl (fun ls hl => ?_)
                refine lv_goto (tgt := 109) hx hb dX8_shares_144 (by decide) ?_
                refine lv_iload hx hb dX8_shares_109 (lv_at hl 0 rfl) ?_
                refine lv_iconst (v := 4) hx hb dX8_shares_111 (by decide) ?_
                refine lv_icmp_ge (tgt := 147) hx hb dX8_shares_112 (by decide) (fun c99 => absurd c99 (by decide)) (fun c99 => ?_)
                refine lv_aload_n hx hb dX8_shares_115 rfl (lv_at hl 5 rfl) ?_
                refine va_get (D := (dC, dI)) (ci := 8) (v := .ref nX) (C := RX8) (T := TX8) (N := 53) hx hb hts hin8 hown hK hP 2 rfl rfl 48 (by decide) hw2 (fun _ h9 => h9) rfl dX8_shares_116 ?_
                refine lv_iload hx hb dX8_shares_119 (lv_at hl 0 rfl) ?_
                refine va_iald hx hb hK hP 1 0 rfl rfl (vin (by decide) (by decide)) dX8_shares_121 ?_
                refine lv_topi (fun y100 e100 => ?_)
                obtain rfl : yX 3 = y100 := e100.symm
                refine lv_aload_n hx hb dX8_shares_122 rfl (lv_at hl 5 rfl) ?_
                refine va_get (D := (dC, dI)) (ci := 8) (v := .ref nX) (C := RX8) (T := TX8) (N := 53) hx hb hts hin8 hown hK hP 2 rfl rfl 48 (by decide) hw2 (fun _ h9 => h9) rfl dX8_shares_123 ?_
                refine lv_iload hx hb dX8_shares_126 (lv_at hl 1 rfl) ?_
                refine va_iald hx hb hK hP 1 0 rfl rfl (vin (by decide) (by decide)) dX8_shares_128 ?_
                refine lv_topi (fun y101 e101 => ?_)
                obtain rfl : yX 2 = y101 := e101.symm
                refine lv_icmp_ge (tgt := 137) hx hb dX8_shares_129 (by decide) (fun c102 => ?_) (fun c102 => ?_)
                · have t102 : (yX 2).toInt ≤ (yX 3).toInt := (tle c102)
                  refine lv_iload hx hb dX8_shares_137 (lv_at hl 1 rfl) ?_
                  refine lv_istore (lv' := [(7, .int 2), (8, .int 3), (6, .int y6), (5, .int y5), (4, .int x18), (0, .ref n), (1, .int i0), (2, .int i1), (3, .int i2)]) hx hb dX8_shares_139 hl (by decide) rfl (fun ls hl => ?_)
                  refine lv_iinc (v := 4) (lv' := [(8, .int 4), (7, .int 2), (6, .int y6), (5, .int y5), (4, .int x18), (0, .ref n), (1, .int i0), (2, .int i1), (3, .int i2)]) hx hb dX8_shares_141 hl (k := 1) rfl (by decide) (by decide) rfl (fun ls hl => ?_)
                  refine lv_goto (tgt := 109) hx hb dX8_shares_144 (by decide) ?_
                  refine lv_iload hx hb dX8_shares_109 (lv_at hl 0 rfl) ?_
                  refine lv_iconst (v := 4) hx hb dX8_shares_111 (by decide) ?_
                  refine lv_icmp_ge (tgt := 147) hx hb dX8_shares_112 (by decide) (fun c103 => ?_) (fun c103 => absurd c103 (by decide))
                  refine lv_aload_n hx hb dX8_shares_147 rfl (lv_at hl 5 rfl) ?_
                  refine va_get (D := (dC, dI)) (ci := 8) (v := .ref nX) (C := RX8) (T := TX8) (N := 53) hx hb hts hin8 hown hK hP 2 rfl rfl 48 (by decide) hw2 (fun _ h9 => h9) rfl dX8_shares_148 ?_
                  refine lv_iload hx hb dX8_shares_151 (lv_at hl 1 rfl) ?_
                  refine lv_dup2_11 hx hb dX8_shares_153 rfl rfl ?_
                  refine va_iald hx hb hK hP 1 0 rfl rfl (vin (by decide) (by decide)) dX8_shares_154 ?_
                  refine lv_topi (fun y104 e104 => ?_)
                  obtain rfl : yX 2 = y104 := e104.symm
                  refine lv_iconst (v := 1) hx hb dX8_shares_155 (by decide) ?_
                  refine lv_iadd hx hb dX8_shares_156 ?_
                  refine lv_topi (fun x105 e105 => ?_)
                  refine va_iast hx hb hK hP hD hS 1 0 rfl rfl (vin (by decide) (by decide)) dX8_shares_157 (fun H locs hP hD hS => ?_)
                  replace hP : va_P (dC, dI) vwCl [(nW, .inl (cI, 14, .inl gW)), (nX, .inl (cI, 4, .inl (upd yX 2 x105))), (n, .inr (8, [.int mleft, .int mmetres, .int mshut, .int mshield, .int mtoday, .int mbagged, .int mwarmed, .ref nW, .ref nC, .int mmeals, .ref nQ, .ref nM, .ref nD, .ref nA, .ref nK, .int msights, .ref nP, .int mpadMany, .ref nE, .ref nF, .ref nG, .int macts, .int mgusty, .int mleakAct, .int mleakMuch, .int mendOfCan, .int mbadAct, .int mbadWhy, .int mburnt, .int mboiled, .ref nH, .ref nI, .ref nJ, .ref nL, .int mhadLeft, .int mhadToday, .int mhadBagged, .int mhadWarmed, .int mleaves, .int mdayThen, .int mcoldThen, .ref nO, .int mportionMany, .ref nT, .ref nU, .int mleakMany, .int mleakActs, .ref nV, .ref nX, .ref nY, .ref nZ, .int mkeptAt, .int misWriting])), (nQ, .inl (cI, 6, .inl gQ)), (nM, .inl (cI, 6, .inl gM))] H := hP
                  replace hD : va_D A [(nW, .inl (cI, 14, .inl gW)), (nX, .inl (cI, 4, .inl (upd yX 2 x105))), (n, .inr (8, [.int mleft, .int mmetres, .int mshut, .int mshield, .int mtoday, .int mbagged, .int mwarmed, .ref nW, .ref nC, .int mmeals, .ref nQ, .ref nM, .ref nD, .ref nA, .ref nK, .int msights, .ref nP, .int mpadMany, .ref nE, .ref nF, .ref nG, .int macts, .int mgusty, .int mleakAct, .int mleakMuch, .int mendOfCan, .int mbadAct, .int mbadWhy, .int mburnt, .int mboiled, .ref nH, .ref nI, .ref nJ, .ref nL, .int mhadLeft, .int mhadToday, .int mhadBagged, .int mhadWarmed, .int mleaves, .int mdayThen, .int mcoldThen, .ref nO, .int mportionMany, .ref nT, .ref nU, .int mleakMany, .int mleakActs, .ref nV, .ref nX, .ref nY, .ref nZ, .int mkeptAt, .int misWriting])), (nQ, .inl (cI, 6, .inl gQ)), (nM, .inl (cI, 6, .inl gM))] := hD
                  refine lv_iload hx hb dX8_shares_158 (lv_at hl 3 rfl) ?_
                  refine lv_iload hx hb dX8_shares_160 (lv_at hl 1 rfl) ?_
                  refine lv_iload_n hx hb dX8_shares_162 rfl (lv_at hl 8 rfl) ?_
                  refine lv_icmp_ne (tgt := 170) hx hb dX8_shares_163 (by decide) (fun c106 => ?_) (fun c106 => ?_)
                  · have t106 : (2 : Int) ≠ i2.toInt := (tne c106)
                    refine lv_iconst (v := 0) hx hb dX8_shares_170 (by decide) ?_
                    refine lv_iadd hx hb dX8_shares_171 ?_
                    refine lv_topi (fun y107 e107 => ?_)
                    obtain rfl : y5 = y107 := (e107.trans (by simp)).symm
                    refine lv_istore (lv' := [(5, .int y5), (8, .int 4), (7, .int 2), (6, .int y6), (4, .int x18), (0, .ref n), (1, .int i0), (2, .int i1), (3, .int i2)]) hx hb dX8_shares_172 hl (by decide) rfl (fun ls hl => ?_)
                    obtain ⟨x108, e108⟩ : ∃ y : Int32, y = y6 + Int32.ofInt (-1) := ⟨_, rfl⟩
                    refine lv_iinc (v := x108) (lv' := [(6, .int x108), (5, .int y5), (8, .int 4), (7, .int 2), (4, .int x18), (0, .ref n), (1, .int i0), (2, .int i1), (3, .int i2)]) hx hb dX8_shares_174 hl (k := 3) rfl e108.symm (by decide) rfl (fun ls hl => ?_)
                    have f108 : x108.toInt = y6.toInt + (-1) := by rw [e108]; exact tinc (by decide) (by have t8 := tb y6; omega) (by have t8 := tb y6; omega)
                    refine lv_goto (tgt := 98) hx hb dX8_shares_177 (by decide) ?_
                    exact ih (H := H) (locs := locs) (ls := ls) (y5 := y5) (y6 := x108) (yX := (upd yX 2 x105)) hS (by omega)  (show lv_has ls 9 [(6, .int x108), (5, .int y5), (4, .int x18), (0, .ref n), (1, .int i0), (2, .int i1), (3, .int i2)] from lv_sub hl [0, 1, 4, 5, 6, 7, 8] rfl) (mx_subP (wc := [(nW, .inl (cI, 14, .inl gW)), (nX, .inl (cI, 4, .inl (upd yX 2 x105))), (n, .inr (8, [.int mleft, .int mmetres, .int mshut, .int mshield, .int mtoday, .int mbagged, .int mwarmed, .ref nW, .ref nC, .int mmeals, .ref nQ, .ref nM, .ref nD, .ref nA, .ref nK, .int msights, .ref nP, .int mpadMany, .ref nE, .ref nF, .ref nG, .int macts, .int mgusty, .int mleakAct, .int mleakMuch, .int mendOfCan, .int mbadAct, .int mbadWhy, .int mburnt, .int mboiled, .ref nH, .ref nI, .ref nJ, .ref nL, .int mhadLeft, .int mhadToday, .int mhadBagged, .int mhadWarmed, .int mleaves, .int mdayThen, .int mcoldThen, .ref nO, .int mportionMany, .ref nT, .ref nU, .int mleakMany, .int mleakActs, .ref nV, .ref nX, .ref nY, .ref nZ, .int mkeptAt, .int misWriting])), (nQ, .inl (cI, 6, .inl gQ)), (nM, .inl (cI, 6, .inl gM))]) hP [0, 1, 2, 3, 4] rfl) (hD.sub (ws' := [(nW, .inl (cI, 14, .inl gW)), (nX, .inl (cI, 4, .inl (upd yX 2 x105))), (n, .inr (8, [.int mleft, .int mmetres, .int mshut, .int mshield, .int mtoday, .int mbagged, .int mwarmed, .ref nW, .ref nC, .int mmeals, .ref nQ, .ref nM, .ref nD, .ref nA, .ref nK, .int msights, .ref nP, .int mpadMany, .ref nE, .ref nF, .ref nG, .int macts, .int mgusty, .int mleakAct, .int mleakMuch, .int mendOfCan, .int mbadAct, .int mbadWhy, .int mburnt, .int mboiled, .ref nH, .ref nI, .ref nJ, .ref nL, .int mhadLeft, .int mhadToday, .int mhadBagged, .int mhadWarmed, .int mleaves, .int mdayThen, .int mcoldThen, .ref nO, .int mportionMany, .ref nT, .ref nU, .int mleakMany, .int mleakActs, .ref nV, .ref nX, .ref nY, .ref nZ, .int mkeptAt, .int misWriting])), (nQ, .inl (cI, 6, .inl gQ)), (nM, .inl (cI, 6, .inl gM))]) [0, 1, 2, 3, 4] (by decide) rfl) (by omega)
                  · have t106 : (2 : Int) = i2.toInt := (teq c106)
                    refine lv_iconst (v := 1) hx hb dX8_shares_166 (by decide) ?_
                    refine lv_goto (tgt := 171) hx hb dX8_shares_167 (by decide) ?_
                    refine lv_iadd hx hb dX8_shares_171 ?_
                    refine lv_topi (fun x109 e109 => ?_)
                    refine lv_istore (lv' := [(5, .int x109), (8, .int 4), (7, .int 2), (6, .int y6), (4, .int x18), (0, .ref n), (1, .int i0), (2, .int i1), (3, .int i2)]) hx hb dX8_shares_172 hl (by decide) rfl (fun ls hl => ?_)
                    obtain ⟨x110, e110⟩ : ∃ y : Int32, y = y6 + Int32.ofInt (-1) := ⟨_, rfl⟩
                    refine lv_iinc (v := x110) (lv' := [(6, .int x110), (5, .int x109), (8, .int 4), (7, .int 2), (4, .int x18), (0, .ref n), (1, .int i0), (2, .int i1), (3, .int i2)]) hx hb dX8_shares_174 hl (k := 3) rfl e110.symm (by decide) rfl (fun ls hl => ?_)
                    have f110 : x110.toInt = y6.toInt + (-1) := by rw [e110]; exact tinc (by decide) (by have t8 := tb y6; omega) (by have t8 := tb y6; omega)
                    refine lv_goto (tgt := 98) hx hb dX8_shares_177 (by decide) ?_
                    exact ih (H := H) (locs := locs) (ls := ls) (y5 := x109) (y6 := x110) (yX := (upd yX 2 x105)) hS (by omega)  (show lv_has ls 9 [(6, .int x110), (5, .int x109), (4, .int x18), (0, .ref n), (1, .int i0), (2, .int i1), (3, .int i2)] from lv_sub hl [0, 1, 4, 5, 6, 7, 8] rfl) (mx_subP (wc := [(nW, .inl (cI, 14, .inl gW)), (nX, .inl (cI, 4, .inl (upd yX 2 x105))), (n, .inr (8, [.int mleft, .int mmetres, .int mshut, .int mshield, .int mtoday, .int mbagged, .int mwarmed, .ref nW, .ref nC, .int mmeals, .ref nQ, .ref nM, .ref nD, .ref nA, .ref nK, .int msights, .ref nP, .int mpadMany, .ref nE, .ref nF, .ref nG, .int macts, .int mgusty, .int mleakAct, .int mleakMuch, .int mendOfCan, .int mbadAct, .int mbadWhy, .int mburnt, .int mboiled, .ref nH, .ref nI, .ref nJ, .ref nL, .int mhadLeft, .int mhadToday, .int mhadBagged, .int mhadWarmed, .int mleaves, .int mdayThen, .int mcoldThen, .ref nO, .int mportionMany, .ref nT, .ref nU, .int mleakMany, .int mleakActs, .ref nV, .ref nX, .ref nY, .ref nZ, .int mkeptAt, .int misWriting])), (nQ, .inl (cI, 6, .inl gQ)), (nM, .inl (cI, 6, .inl gM))]) hP [0, 1, 2, 3, 4] rfl) (hD.sub (ws' := [(nW, .inl (cI, 14, .inl gW)), (nX, .inl (cI, 4, .inl (upd yX 2 x105))), (n, .inr (8, [.int mleft, .int mmetres, .int mshut, .int mshield, .int mtoday, .int mbagged, .int mwarmed, .ref nW, .ref nC, .int mmeals, .ref nQ, .ref nM, .ref nD, .ref nA, .ref nK, .int msights, .ref nP, .int mpadMany, .ref nE, .ref nF, .ref nG, .int macts, .int mgusty, .int mleakAct, .int mleakMuch, .int mendOfCan, .int mbadAct, .int mbadWhy, .int mburnt, .int mboiled, .ref nH, .ref nI, .ref nJ, .ref nL, .int mhadLeft, .int mhadToday, .int mhadBagged, .int mhadWarmed, .int mleaves, .int mdayThen, .int mcoldThen, .ref nO, .int mportionMany, .ref nT, .ref nU, .int mleakMany, .int mleakActs, .ref nV, .ref nX, .ref nY, .ref nZ, .int mkeptAt, .int misWriting])), (nQ, .inl (cI, 6, .inl gQ)), (nM, .inl (cI, 6, .inl gM))]) [0, 1, 2, 3, 4] (by decide) rfl) (by omega)
                · have t102 : (yX 3).toInt < (yX 2).toInt := (tnle c102)
                  refine lv_iload hx hb dX8_shares_132 (lv_at hl 0 rfl) ?_
                  refine lv_goto (tgt := 139) hx hb dX8_shares_134 (by decide) ?_
                  refine lv_istore (lv' := [(7, .int 3), (8, .int 3), (6, .int y6), (5, .int y5), (4, .int x18), (0, .ref n), (1, .int i0), (2, .int i1), (3, .int i2)]) hx hb dX8_shares_139 hl (by decide) rfl (fun ls hl => ?_)
                  refine lv_iinc (v := 4) (lv' := [(8, .int 4), (7, .int 3), (6, .int y6), (5, .int y5), (4, .int x18), (0, .ref n), (1, .int i0), (2, .int i1), (3, .int i2)]) hx hb dX8_shares_141 hl (k := 1) rfl (by decide) (by decide) rfl (fun ls hl => ?_)
                  refine lv_goto (tgt := 109) hx hb dX8_shares_144 (by decide) ?_
                  refine lv_iload hx hb dX8_shares_109 (lv_at hl 0 rfl) ?_
                  refine lv_iconst (v := 4) hx hb dX8_shares_111 (by decide) ?_
                  refine lv_icmp_ge (tgt := 147) hx hb dX8_shares_112 (by decide) (fun c111 => ?_) (fun c111 => absurd c111 (by decide))
                  refine lv_aload_n hx hb dX8_shares_147 rfl (lv_at hl 5 rfl) ?_
                  refine va_get (D := (dC, dI)) (ci := 8) (v := .ref nX) (C := RX8) (T := TX8) (N := 53) hx hb hts hin8 hown hK hP 2 rfl rfl 48 (by decide) hw2 (fun _ h9 => h9) rfl dX8_shares_148 ?_
                  refine lv_iload hx hb dX8_shares_151 (lv_at hl 1 rfl) ?_
                  refine lv_dup2_11 hx hb dX8_shares_153 rfl rfl ?_
                  refine va_iald hx hb hK hP 1 0 rfl rfl (vin (by decide) (by decide)) dX8_shares_154 ?_
                  refine lv_topi (fun y112 e112 => ?_)
                  obtain rfl : yX 3 = y112 := e112.symm
                  refine lv_iconst (v := 1) hx hb dX8_shares_155 (by decide) ?_
                  refine lv_iadd hx hb dX8_shares_156 ?_
                  refine lv_topi (fun x113 e113 => ?_)
                  refine va_iast hx hb hK hP hD hS 1 0 rfl rfl (vin (by decide) (by decide)) dX8_shares_157 (fun H locs hP hD hS => ?_)
                  replace hP : va_P (dC, dI) vwCl [(nW, .inl (cI, 14, .inl gW)), (nX, .inl (cI, 4, .inl (upd yX 3 x113))), (n, .inr (8, [.int mleft, .int mmetres, .int mshut, .int mshield, .int mtoday, .int mbagged, .int mwarmed, .ref nW, .ref nC, .int mmeals, .ref nQ, .ref nM, .ref nD, .ref nA, .ref nK, .int msights, .ref nP, .int mpadMany, .ref nE, .ref nF, .ref nG, .int macts, .int mgusty, .int mleakAct, .int mleakMuch, .int mendOfCan, .int mbadAct, .int mbadWhy, .int mburnt, .int mboiled, .ref nH, .ref nI, .ref nJ, .ref nL, .int mhadLeft, .int mhadToday, .int mhadBagged, .int mhadWarmed, .int mleaves, .int mdayThen, .int mcoldThen, .ref nO, .int mportionMany, .ref nT, .ref nU, .int mleakMany, .int mleakActs, .ref nV, .ref nX, .ref nY, .ref nZ, .int mkeptAt, .int misWriting])), (nQ, .inl (cI, 6, .inl gQ)), (nM, .inl (cI, 6, .inl gM))] H := hP
                  replace hD : va_D A [(nW, .inl (cI, 14, .inl gW)), (nX, .inl (cI, 4, .inl (upd yX 3 x113))), (n, .inr (8, [.int mleft, .int mmetres, .int mshut, .int mshield, .int mtoday, .int mbagged, .int mwarmed, .ref nW, .ref nC, .int mmeals, .ref nQ, .ref nM, .ref nD, .ref nA, .ref nK, .int msights, .ref nP, .int mpadMany, .ref nE, .ref nF, .ref nG, .int macts, .int mgusty, .int mleakAct, .int mleakMuch, .int mendOfCan, .int mbadAct, .int mbadWhy, .int mburnt, .int mboiled, .ref nH, .ref nI, .ref nJ, .ref nL, .int mhadLeft, .int mhadToday, .int mhadBagged, .int mhadWarmed, .int mleaves, .int mdayThen, .int mcoldThen, .ref nO, .int mportionMany, .ref nT, .ref nU, .int mleakMany, .int mleakActs, .ref nV, .ref nX, .ref nY, .ref nZ, .int mkeptAt, .int misWriting])), (nQ, .inl (cI, 6, .inl gQ)), (nM, .inl (cI, 6, .inl gM))] := hD
                  refine lv_iload hx hb dX8_shares_158 (lv_at hl 3 rfl) ?_
                  refine lv_iload hx hb dX8_shares_160 (lv_at hl 1 rfl) ?_
                  refine lv_iload_n hx hb dX8_shares_162 rfl (lv_at hl 8 rfl) ?_
                  refine lv_icmp_ne (tgt := 170) hx hb dX8_shares_163 (by decide) (fun c114 => ?_) (fun c114 => ?_)
                  · have t114 : (3 : Int) ≠ i2.toInt := (tne c114)
                    refine lv_iconst (v := 0) hx hb dX8_shares_170 (by decide) ?_
                    refine lv_iadd hx hb dX8_shares_171 ?_
                    refine lv_topi (fun y115 e115 => ?_)
                    obtain rfl : y5 = y115 := (e115.trans (by simp)).symm
                    refine lv_istore (lv' := [(5, .int y5), (8, .int 4), (7, .int 3), (6, .int y6), (4, .int x18), (0, .ref n), (1, .int i0), (2, .int i1), (3, .int i2)]) hx hb dX8_shares_172 hl (by decide) rfl (fun ls hl => ?_)
                    obtain ⟨x116, e116⟩ : ∃ y : Int32, y = y6 + Int32.ofInt (-1) := ⟨_, rfl⟩
                    refine lv_iinc (v := x116) (lv' := [(6, .int x116), (5, .int y5), (8, .int 4), (7, .int 3), (4, .int x18), (0, .ref n), (1, .int i0), (2, .int i1), (3, .int i2)]) hx hb dX8_shares_174 hl (k := 3) rfl e116.symm (by decide) rfl (fun ls hl => ?_)
                    have f116 : x116.toInt = y6.toInt + (-1) := by rw [e116]; exact tinc (by decide) (by have t8 := tb y6; omega) (by have t8 := tb y6; omega)
                    refine lv_goto (tgt := 98) hx hb dX8_shares_177 (by decide) ?_
                    exact ih (H := H) (locs := locs) (ls := ls) (y5 := y5) (y6 := x116) (yX := (upd yX 3 x113)) hS (by omega)  (show lv_has ls 9 [(6, .int x116), (5, .int y5), (4, .int x18), (0, .ref n), (1, .int i0), (2, .int i1), (3, .int i2)] from lv_sub hl [0, 1, 4, 5, 6, 7, 8] rfl) (mx_subP (wc := [(nW, .inl (cI, 14, .inl gW)), (nX, .inl (cI, 4, .inl (upd yX 3 x113))), (n, .inr (8, [.int mleft, .int mmetres, .int mshut, .int mshield, .int mtoday, .int mbagged, .int mwarmed, .ref nW, .ref nC, .int mmeals, .ref nQ, .ref nM, .ref nD, .ref nA, .ref nK, .int msights, .ref nP, .int mpadMany, .ref nE, .ref nF, .ref nG, .int macts, .int mgusty, .int mleakAct, .int mleakMuch, .int mendOfCan, .int mbadAct, .int mbadWhy, .int mburnt, .int mboiled, .ref nH, .ref nI, .ref nJ, .ref nL, .int mhadLeft, .int mhadToday, .int mhadBagged, .int mhadWarmed, .int mleaves, .int mdayThen, .int mcoldThen, .ref nO, .int mportionMany, .ref nT, .ref nU, .int mleakMany, .int mleakActs, .ref nV, .ref nX, .ref nY, .ref nZ, .int mkeptAt, .int misWriting])), (nQ, .inl (cI, 6, .inl gQ)), (nM, .inl (cI, 6, .inl gM))]) hP [0, 1, 2, 3, 4] rfl) (hD.sub (ws' := [(nW, .inl (cI, 14, .inl gW)), (nX, .inl (cI, 4, .inl (upd yX 3 x113))), (n, .inr (8, [.int mleft, .int mmetres, .int mshut, .int mshield, .int mtoday, .int mbagged, .int mwarmed, .ref nW, .ref nC, .int mmeals, .ref nQ, .ref nM, .ref nD, .ref nA, .ref nK, .int msights, .ref nP, .int mpadMany, .ref nE, .ref nF, .ref nG, .int macts, .int mgusty, .int mleakAct, .int mleakMuch, .int mendOfCan, .int mbadAct, .int mbadWhy, .int mburnt, .int mboiled, .ref nH, .ref nI, .ref nJ, .ref nL, .int mhadLeft, .int mhadToday, .int mhadBagged, .int mhadWarmed, .int mleaves, .int mdayThen, .int mcoldThen, .ref nO, .int mportionMany, .ref nT, .ref nU, .int mleakMany, .int mleakActs, .ref nV, .ref nX, .ref nY, .ref nZ, .int mkeptAt, .int misWriting])), (nQ, .inl (cI, 6, .inl gQ)), (nM, .inl (cI, 6, .inl gM))]) [0, 1, 2, 3, 4] (by decide) rfl) (by omega)
                  · have t114 : (3 : Int) = i2.toInt := (teq c114)
                    refine lv_iconst (v := 1) hx hb dX8_shares_166 (by decide) ?_
                    refine lv_goto (tgt := 171) hx hb dX8_shares_167 (by decide) ?_
                    refine lv_iadd hx hb dX8_shares_171 ?_
                    refine lv_topi (fun x117 e117 => ?_)
                    refine lv_istore (lv' := [(5, .int x117), (8, .int 4), (7, .int 3), (6, .int y6), (4, .int x18), (0, .ref n), (1, .int i0), (2, .int i1), (3, .int i2)]) hx hb dX8_shares_172 hl (by decide) rfl (fun ls hl => ?_)
                    obtain ⟨x118, e118⟩ : ∃ y : Int32, y = y6 + Int32.ofInt (-1) := ⟨_, rfl⟩
                    refine lv_iinc (v := x118) (lv' := [(6, .int x118), (5, .int x117), (8, .int 4), (7, .int 3), (4, .int x18), (0, .ref n), (1, .int i0), (2, .int i1), (3, .int i2)]) hx hb dX8_shares_174 hl (k := 3) rfl e118.symm (by decide) rfl (fun ls hl => ?_)
                    have f118 : x118.toInt = y6.toInt + (-1) := by rw [e118]; exact tinc (by decide) (by have t8 := tb y6; omega) (by have t8 := tb y6; omega)
                    refine lv_goto (tgt := 98) hx hb dX8_shares_177 (by decide) ?_
                    exact ih (H := H) (locs := locs) (ls := ls) (y5 := x117) (y6 := x118) (yX := (upd yX 3 x113)) hS (by omega)  (show lv_has ls 9 [(6, .int x118), (5, .int x117), (4, .int x18), (0, .ref n), (1, .int i0), (2, .int i1), (3, .int i2)] from lv_sub hl [0, 1, 4, 5, 6, 7, 8] rfl) (mx_subP (wc := [(nW, .inl (cI, 14, .inl gW)), (nX, .inl (cI, 4, .inl (upd yX 3 x113))), (n, .inr (8, [.int mleft, .int mmetres, .int mshut, .int mshield, .int mtoday, .int mbagged, .int mwarmed, .ref nW, .ref nC, .int mmeals, .ref nQ, .ref nM, .ref nD, .ref nA, .ref nK, .int msights, .ref nP, .int mpadMany, .ref nE, .ref nF, .ref nG, .int macts, .int mgusty, .int mleakAct, .int mleakMuch, .int mendOfCan, .int mbadAct, .int mbadWhy, .int mburnt, .int mboiled, .ref nH, .ref nI, .ref nJ, .ref nL, .int mhadLeft, .int mhadToday, .int mhadBagged, .int mhadWarmed, .int mleaves, .int mdayThen, .int mcoldThen, .ref nO, .int mportionMany, .ref nT, .ref nU, .int mleakMany, .int mleakActs, .ref nV, .ref nX, .ref nY, .ref nZ, .int mkeptAt, .int misWriting])), (nQ, .inl (cI, 6, .inl gQ)), (nM, .inl (cI, 6, .inl gM))]) hP [0, 1, 2, 3, 4] rfl) (hD.sub (ws' := [(nW, .inl (cI, 14, .inl gW)), (nX, .inl (cI, 4, .inl (upd yX 3 x113))), (n, .inr (8, [.int mleft, .int mmetres, .int mshut, .int mshield, .int mtoday, .int mbagged, .int mwarmed, .ref nW, .ref nC, .int mmeals, .ref nQ, .ref nM, .ref nD, .ref nA, .ref nK, .int msights, .ref nP, .int mpadMany, .ref nE, .ref nF, .ref nG, .int macts, .int mgusty, .int mleakAct, .int mleakMuch, .int mendOfCan, .int mbadAct, .int mbadWhy, .int mburnt, .int mboiled, .ref nH, .ref nI, .ref nJ, .ref nL, .int mhadLeft, .int mhadToday, .int mhadBagged, .int mhadWarmed, .int mleaves, .int mdayThen, .int mcoldThen, .ref nO, .int mportionMany, .ref nT, .ref nU, .int mleakMany, .int mleakActs, .ref nV, .ref nX, .ref nY, .ref nZ, .int mkeptAt, .int misWriting])), (nQ, .inl (cI, 6, .inl gQ)), (nM, .inl (cI, 6, .inl gM))]) [0, 1, 2, 3, 4] (by decide) rfl) (by omega)
      · have hf5 : i1.toInt < (0 : Int) ∨ (99999999 : Int) < i1.toInt := (by have h9 := hf5; simp only [Int32.toInt_toInt64] at h9; exact h9)
        refine lv_if_ne (tgt := 37) hx hb dX8_shares_31 (by decide) (fun c119 => absurd c119 (by decide)) (fun c119 => ?_)
        refine lv_bipush (v := (-2)) hx hb dX8_shares_34 (by decide) ?_
        have hP9 := mx_subP (wc := [(n, .inr (8, [.int mleft, .int mmetres, .int mshut, .int mshield, .int mtoday, .int mbagged, .int mwarmed, .ref nW, .ref nC, .int mmeals, .ref nQ, .ref nM, .ref nD, .ref nA, .ref nK, .int msights, .ref nP, .int mpadMany, .ref nE, .ref nF, .ref nG, .int macts, .int mgusty, .int mleakAct, .int mleakMuch, .int mendOfCan, .int mbadAct, .int mbadWhy, .int mburnt, .int mboiled, .ref nH, .ref nI, .ref nJ, .ref nL, .int mhadLeft, .int mhadToday, .int mhadBagged, .int mhadWarmed, .int mleaves, .int mdayThen, .int mcoldThen, .ref nO, .int mportionMany, .ref nT, .ref nU, .int mleakMany, .int mleakActs, .ref nV, .ref nX, .ref nY, .ref nZ, .int mkeptAt, .int misWriting])), (nQ, .inl (cI, 6, .inl gQ)), (nM, .inl (cI, 6, .inl gM)), (nW, .inl (cI, 14, .inl gW)), (nX, .inl (cI, 4, .inl gX))]) hP [4, 0, 1, 2, 3] rfl
        have hD9 := hD.sub (ws' := [(n, .inr (8, [.int mleft, .int mmetres, .int mshut, .int mshield, .int mtoday, .int mbagged, .int mwarmed, .ref nW, .ref nC, .int mmeals, .ref nQ, .ref nM, .ref nD, .ref nA, .ref nK, .int msights, .ref nP, .int mpadMany, .ref nE, .ref nF, .ref nG, .int macts, .int mgusty, .int mleakAct, .int mleakMuch, .int mendOfCan, .int mbadAct, .int mbadWhy, .int mburnt, .int mboiled, .ref nH, .ref nI, .ref nJ, .ref nL, .int mhadLeft, .int mhadToday, .int mhadBagged, .int mhadWarmed, .int mleaves, .int mdayThen, .int mcoldThen, .ref nO, .int mportionMany, .ref nT, .ref nU, .int mleakMany, .int mleakActs, .ref nV, .ref nX, .ref nY, .ref nZ, .int mkeptAt, .int misWriting])), (nQ, .inl (cI, 6, .inl gQ)), (nM, .inl (cI, 6, .inl gM)), (nW, .inl (cI, 14, .inl gW)), (nX, .inl (cI, 4, .inl gX))]) [4, 0, 1, 2, 3] (by decide) rfl
        exact W.iret (v := (-2)) hx hb hr (fun t ht hW => ⟨⟨(-2), ((fun u9 => ([gX] : List (Nat → Int32)).getD u9 (fun _ => 0)), (fun u9 => ([] : List Int32).getD u9 0), (fun u9 => ([] : List Int64).getD u9 0)), rfl, trivial, by rw [ht]; exact hP9, hD9⟩, hS.F ht⟩) hS.2.2 dX8_shares_36
    · have hf3 : i2.toInt < (0 : Int) ∨ (3 : Int) < i2.toInt := (by have h9 := hf3; simp only [Int32.toInt_toInt64] at h9; exact h9)
      refine lv_if_ne (tgt := 22) hx hb dX8_shares_17 (by decide) (fun c120 => absurd c120 (by decide)) (fun c120 => ?_)
      refine lv_iconst (v := (-1)) hx hb dX8_shares_20 (by decide) ?_
      have hP9 := mx_subP (wc := [(n, .inr (8, [.int mleft, .int mmetres, .int mshut, .int mshield, .int mtoday, .int mbagged, .int mwarmed, .ref nW, .ref nC, .int mmeals, .ref nQ, .ref nM, .ref nD, .ref nA, .ref nK, .int msights, .ref nP, .int mpadMany, .ref nE, .ref nF, .ref nG, .int macts, .int mgusty, .int mleakAct, .int mleakMuch, .int mendOfCan, .int mbadAct, .int mbadWhy, .int mburnt, .int mboiled, .ref nH, .ref nI, .ref nJ, .ref nL, .int mhadLeft, .int mhadToday, .int mhadBagged, .int mhadWarmed, .int mleaves, .int mdayThen, .int mcoldThen, .ref nO, .int mportionMany, .ref nT, .ref nU, .int mleakMany, .int mleakActs, .ref nV, .ref nX, .ref nY, .ref nZ, .int mkeptAt, .int misWriting])), (nQ, .inl (cI, 6, .inl gQ)), (nM, .inl (cI, 6, .inl gM)), (nW, .inl (cI, 14, .inl gW)), (nX, .inl (cI, 4, .inl gX))]) hP [4, 0, 1, 2, 3] rfl
      have hD9 := hD.sub (ws' := [(n, .inr (8, [.int mleft, .int mmetres, .int mshut, .int mshield, .int mtoday, .int mbagged, .int mwarmed, .ref nW, .ref nC, .int mmeals, .ref nQ, .ref nM, .ref nD, .ref nA, .ref nK, .int msights, .ref nP, .int mpadMany, .ref nE, .ref nF, .ref nG, .int macts, .int mgusty, .int mleakAct, .int mleakMuch, .int mendOfCan, .int mbadAct, .int mbadWhy, .int mburnt, .int mboiled, .ref nH, .ref nI, .ref nJ, .ref nL, .int mhadLeft, .int mhadToday, .int mhadBagged, .int mhadWarmed, .int mleaves, .int mdayThen, .int mcoldThen, .ref nO, .int mportionMany, .ref nT, .ref nU, .int mleakMany, .int mleakActs, .ref nV, .ref nX, .ref nY, .ref nZ, .int mkeptAt, .int misWriting])), (nQ, .inl (cI, 6, .inl gQ)), (nM, .inl (cI, 6, .inl gM)), (nW, .inl (cI, 14, .inl gW)), (nX, .inl (cI, 4, .inl gX))]) [4, 0, 1, 2, 3] (by decide) rfl
      exact W.iret (v := (-1)) hx hb hr (fun t ht hW => ⟨⟨(-1), ((fun u9 => ([gX] : List (Nat → Int32)).getD u9 (fun _ => 0)), (fun u9 => ([] : List Int32).getD u9 0), (fun u9 => ([] : List Int64).getD u9 0)), rfl, trivial, by rw [ht]; exact hP9, hD9⟩, hS.F ht⟩) hS.2.2 dX8_shares_21
  · skip
    refine lv_if_eq (tgt := 20) hx hb dX8_shares_5 (by decide) (fun c121 => ?_) (fun c121 => absurd c121 (by decide))
    refine lv_iconst (v := (-1)) hx hb dX8_shares_20 (by decide) ?_
    have hP9 := mx_subP (wc := [(n, .inr (8, [.int mleft, .int mmetres, .int mshut, .int mshield, .int mtoday, .int mbagged, .int mwarmed, .ref nW, .ref nC, .int mmeals, .ref nQ, .ref nM, .ref nD, .ref nA, .ref nK, .int msights, .ref nP, .int mpadMany, .ref nE, .ref nF, .ref nG, .int macts, .int mgusty, .int mleakAct, .int mleakMuch, .int mendOfCan, .int mbadAct, .int mbadWhy, .int mburnt, .int mboiled, .ref nH, .ref nI, .ref nJ, .ref nL, .int mhadLeft, .int mhadToday, .int mhadBagged, .int mhadWarmed, .int mleaves, .int mdayThen, .int mcoldThen, .ref nO, .int mportionMany, .ref nT, .ref nU, .int mleakMany, .int mleakActs, .ref nV, .ref nX, .ref nY, .ref nZ, .int mkeptAt, .int misWriting])), (nQ, .inl (cI, 6, .inl gQ)), (nM, .inl (cI, 6, .inl gM)), (nW, .inl (cI, 14, .inl gW)), (nX, .inl (cI, 4, .inl gX))]) hP [4, 0, 1, 2, 3] rfl
    have hD9 := hD.sub (ws' := [(n, .inr (8, [.int mleft, .int mmetres, .int mshut, .int mshield, .int mtoday, .int mbagged, .int mwarmed, .ref nW, .ref nC, .int mmeals, .ref nQ, .ref nM, .ref nD, .ref nA, .ref nK, .int msights, .ref nP, .int mpadMany, .ref nE, .ref nF, .ref nG, .int macts, .int mgusty, .int mleakAct, .int mleakMuch, .int mendOfCan, .int mbadAct, .int mbadWhy, .int mburnt, .int mboiled, .ref nH, .ref nI, .ref nJ, .ref nL, .int mhadLeft, .int mhadToday, .int mhadBagged, .int mhadWarmed, .int mleaves, .int mdayThen, .int mcoldThen, .ref nO, .int mportionMany, .ref nT, .ref nU, .int mleakMany, .int mleakActs, .ref nV, .ref nX, .ref nY, .ref nZ, .int mkeptAt, .int misWriting])), (nQ, .inl (cI, 6, .inl gQ)), (nM, .inl (cI, 6, .inl gM)), (nW, .inl (cI, 14, .inl gW)), (nX, .inl (cI, 4, .inl gX))]) [4, 0, 1, 2, 3] (by decide) rfl
    exact W.iret (v := (-1)) hx hb hr (fun t ht hW => ⟨⟨(-1), ((fun u9 => ([gX] : List (Nat → Int32)).getD u9 (fun _ => 0)), (fun u9 => ([] : List Int32).getD u9 0), (fun u9 => ([] : List Int64).getD u9 0)), rfl, trivial, by rw [ht]; exact hP9, hD9⟩, hS.F ht⟩) hS.2.2 dX8_shares_21
