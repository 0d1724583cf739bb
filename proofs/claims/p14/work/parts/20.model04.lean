set_option maxHeartbeats 4000000 in
set_option maxRecDepth 100000 in
theorem c_X8_costBy (l : Launch) (dC : Nat → ClassId) (dI : Nat → Nat → Nat) (cI cZ cK : ClassId) (tS : Nat) (aK aV : Nat → Nat) (n : Nat) (i0 : Int32) (i1 : Int32) (i2 : Int32) (mleft : Int32) (mmetres : Int32) (mshut : Int32) (mshield : Int32) (mtoday : Int32) (mbagged : Int32) (mwarmed : Int32) (nW : Nat) (nC : Nat) (mmeals : Int32) (nQ : Nat) (nM : Nat) (nD : Nat) (nA : Nat) (nK : Nat) (msights : Int32) (nP : Nat) (mpadMany : Int32) (nE : Nat) (nF : Nat) (nG : Nat) (macts : Int32) (mgusty : Int32) (mleakAct : Int32) (mleakMuch : Int32) (mendOfCan : Int32) (mbadAct : Int32) (mbadWhy : Int32) (mburnt : Int32) (mboiled : Int32) (nH : Nat) (nI : Nat) (nJ : Nat) (nL : Nat) (mhadLeft : Int32) (mhadToday : Int32) (mhadBagged : Int32) (mhadWarmed : Int32) (mleaves : Int32) (mdayThen : Int32) (mcoldThen : Int32) (nO : Nat) (mportionMany : Int32) (nT : Nat) (nU : Nat) (mleakMany : Int32) (mleakActs : Int32) (nV : Nat) (nX : Nat) (nY : Nat) (nZ : Nat) (mkeptAt : Int32) (misWriting : Int32) (gQ : Nat → Int32) (gM : Nat → Int32) (sz : Nat) (h_gQ : rg gQ 6 0 4) (h_gM : rg gM 6 0 60) (h_i0 : 0 ≤ i0.toInt ∧ i0.toInt ≤ 5) : Ci l yX8_costBy (wq yX8_costBy cX8_costBy 7 (some .int)) ({ frames := 1, cells := 0, slots := 0, locals := 21 }) dC dI cI cZ cK tS aK aV [.ref n, .int i0, .int i1, .int i2] sz [(n, .inr (8, [.int mleft, .int mmetres, .int mshut, .int mshield, .int mtoday, .int mbagged, .int mwarmed, .ref nW, .ref nC, .int mmeals, .ref nQ, .ref nM, .ref nD, .ref nA, .ref nK, .int msights, .ref nP, .int mpadMany, .ref nE, .ref nF, .ref nG, .int macts, .int mgusty, .int mleakAct, .int mleakMuch, .int mendOfCan, .int mbadAct, .int mbadWhy, .int mburnt, .int mboiled, .ref nH, .ref nI, .ref nJ, .ref nL, .int mhadLeft, .int mhadToday, .int mhadBagged, .int mhadWarmed, .int mleaves, .int mdayThen, .int mcoldThen, .ref nO, .int mportionMany, .ref nT, .ref nU, .int mleakMany, .int mleakActs, .ref nV, .ref nX, .ref nY, .ref nZ, .int mkeptAt, .int misWriting])), (nQ, .inl (cI, 6, .inl gQ)), (nM, .inl (cI, 6, .inl gM))] (fun (r : Int32) (u : Unit) => (r = (cbF (gQ i0.toNatClampNeg) (gM i0.toNatClampNeg) mshield i1 i2))) (fun _ => [(n, .inr (8, [.int mleft, .int mmetres, .int mshut, .int mshield, .int mtoday, .int mbagged, .int mwarmed, .ref nW, .ref nC, .int mmeals, .ref nQ, .ref nM, .ref nD, .ref nA, .ref nK, .int msights, .ref nP, .int mpadMany, .ref nE, .ref nF, .ref nG, .int macts, .int mgusty, .int mleakAct, .int mleakMuch, .int mendOfCan, .int mbadAct, .int mbadWhy, .int mburnt, .int mboiled, .ref nH, .ref nI, .ref nJ, .ref nL, .int mhadLeft, .int mhadToday, .int mhadBagged, .int mhadWarmed, .int mleaves, .int mdayThen, .int mcoldThen, .ref nO, .int mportionMany, .ref nT, .ref nU, .int mleakMany, .int mleakActs, .ref nV, .ref nX, .ref nY, .ref nZ, .int mkeptAt, .int misWriting])), (nQ, .inl (cI, 6, .inl gQ)), (nM, .inl (cI, 6, .inl gM))]) := by
  refine Met.ofW (cc := cX8_costBy) (maxL := 7) (ret := (some .int)) (by decide) rfl ?_
  intro p e s m args below meth c s₁ B hml hv
  obtain ⟨rfl, hsz, hP, hKx, hD0⟩ := hv
  have hx := B.exec
  have hb := B.bytes
  have hr := B.returns
  have hts := atoms_spec (ws := wq yX8_costBy cX8_costBy 7 (some .int)) B.pre
  have hown : s.vm.findClass RX8 = some m.cls := findClass_of_methodNamed B.named
  have hlocks := B.notSynchronized
  subst hsz
  have hD := hD0.self (sz := s.heap.size)
  generalize hAe : va_A [(n, .inr (8, [.int mleft, .int mmetres, .int mshut, .int mshield, .int mtoday, .int mbagged, .int mwarmed, .ref nW, .ref nC, .int mmeals, .ref nQ, .ref nM, .ref nD, .ref nA, .ref nK, .int msights, .ref nP, .int mpadMany, .ref nE, .ref nF, .ref nG, .int macts, .int mgusty, .int mleakAct, .int mleakMuch, .int mendOfCan, .int mbadAct, .int mbadWhy, .int mburnt, .int mboiled, .ref nH, .ref nI, .ref nJ, .ref nL, .int mhadLeft, .int mhadToday, .int mhadBagged, .int mhadWarmed, .int mleaves, .int mdayThen, .int mcoldThen, .ref nO, .int mportionMany, .ref nT, .ref nU, .int mleakMany, .int mleakActs, .ref nV, .ref nX, .ref nY, .ref nZ, .int mkeptAt, .int misWriting])), (nQ, .inl (cI, 6, .inl gQ)), (nM, .inl (cI, 6, .inl gM))] s.heap.size = A at hD hKx ⊢
  have hA : ∀ q : Nat, s.heap.size ≤ q → A q := fun q h => by rw [← hAe]; exact Or.inr h
  have hS : va_S A s.heap s.heap [] := va_S.rf
  have hP : va_P (dC, dI) vwCl [(n, .inr (8, [.int mleft, .int mmetres, .int mshut, .int mshield, .int mtoday, .int mbagged, .int mwarmed, .ref nW, .ref nC, .int mmeals, .ref nQ, .ref nM, .ref nD, .ref nA, .ref nK, .int msights, .ref nP, .int mpadMany, .ref nE, .ref nF, .ref nG, .int macts, .int mgusty, .int mleakAct, .int mleakMuch, .int mendOfCan, .int mbadAct, .int mbadWhy, .int mburnt, .int mboiled, .ref nH, .ref nI, .ref nJ, .ref nL, .int mhadLeft, .int mhadToday, .int mhadBagged, .int mhadWarmed, .int mleaves, .int mdayThen, .int mcoldThen, .ref nO, .int mportionMany, .ref nT, .ref nU, .int mleakMany, .int mleakActs, .ref nV, .ref nX, .ref nY, .ref nZ, .int mkeptAt, .int misWriting])), (nQ, .inl (cI, 6, .inl gQ)), (nM, .inl (cI, 6, .inl gM))] s.heap := hP
  have hl := lv_entry ([.ref n, .int i0, .int i1, .int i2]) (n := 7) (Nat.le_of_ble_eq_true rfl)
  rw [lg_entry_eq]
  generalize (lg_sl ([.ref n, .int i0, .int i1, .int i2]) ++ List.replicate (7 - (lg_sl ([.ref n, .int i0, .int i1, .int i2])).length) Slot.unset).toArray = ls at hl ⊢
  have hl : lv_has ls 7 [(0, .ref n), (1, .int i0), (2, .int i1), (3, .int i2)] := hl
  have hK := hKx.1
  have hin8 := fun w9 h9 => List.mem_cons_of_mem (Cond.code yX8_costBy cX8_costBy 7 (some .int)) (inlX8 w9 h9)
  have hw0 := hts (.fieldLink RX8 16 "OneCanModel" "quarts" "[I") (List.mem_cons_of_mem _ wm_114)
  have hw1 := hts (.fieldLink RX8 19 "OneCanModel" "minutes" "[I") (List.mem_cons_of_mem _ wm_115)
  refine lv_iconst (v := 4) hx hb dX8_costBy_0 (by decide) ?_
  refine lv_aload_n hx hb dX8_costBy_1 rfl (lv_at hl 0 rfl) ?_
  refine lv_iload_n hx hb dX8_costBy_2 rfl (lv_at hl 2 rfl) ?_
  refine mx_i (wr := [(nQ, .inl (cI, 6, .inl gQ)), (nM, .inl (cI, 6, .inl gM))]) (va_runV (As := [.int i1]) (rest := [.int 4]) ⟨hx, hb, hml, hown, hts⟩ (c_X8_blows l dC dI cI cZ cK tS aK aV n i1 mleft mmetres mshut mshield mtoday mbagged mwarmed nW nC mmeals nQ nM nD nA nK msights nP mpadMany nE nF nG macts mgusty mleakAct mleakMuch mendOfCan mbadAct mbadWhy mburnt mboiled nH nI nJ nL mhadLeft mhadToday mhadBagged mhadWarmed mleaves mdayThen mcoldThen nO mportionMany nT nU mleakMany mleakActs nV nX nY nZ mkeptAt misWriting s.heap.size) (cwV 1 hts (gw_v (fun _ h9 => List.mem_cons_of_mem _ h9) wm_488 wm_489 wm_490 wm_5 wm_491) rfl rfl rfl (by decide +kernel) ⟨Nat.le_of_ble_eq_true rfl, Nat.le_of_ble_eq_true rfl⟩) (mx_preV (C := RX8) (T := TX8) (N := 53) (ci := 8) hKx hP hD hS hA [0] (by decide) rfl rfl rfl) rfl rfl hl.1 rfl (lv_room (Nat.le_of_ble_eq_true rfl)) dX8_costBy_3 ⟨Nat.le_of_ble_eq_true rfl, Nat.le_of_ble_eq_true rfl⟩) hP hD hS hA [0] [1, 2] rfl rfl (by decide) (by decide) (fun r1 u1 H locs hq1 hP hD hS => ?_)
  replace hP : va_P (dC, dI) vwCl [(nQ, .inl (cI, 6, .inl gQ)), (nM, .inl (cI, 6, .inl gM)), (n, .inr (8, [.int mleft, .int mmetres, .int mshut, .int mshield, .int mtoday, .int mbagged, .int mwarmed, .ref nW, .ref nC, .int mmeals, .ref nQ, .ref nM, .ref nD, .ref nA, .ref nK, .int msights, .ref nP, .int mpadMany, .ref nE, .ref nF, .ref nG, .int macts, .int mgusty, .int mleakAct, .int mleakMuch, .int mendOfCan, .int mbadAct, .int mbadWhy, .int mburnt, .int mboiled, .ref nH, .ref nI, .ref nJ, .ref nL, .int mhadLeft, .int mhadToday, .int mhadBagged, .int mhadWarmed, .int mleaves, .int mdayThen, .int mcoldThen, .ref nO, .int mportionMany, .ref nT, .ref nU, .int mleakMany, .int mleakActs, .ref nV, .ref nX, .ref nY, .ref nZ, .int mkeptAt, .int misWriting]))] H := hP
  replace hD : va_D A [(nQ, .inl (cI, 6, .inl gQ)), (nM, .inl (cI, 6, .inl gM)), (n, .inr (8, [.int mleft, .int mmetres, .int mshut, .int mshield, .int mtoday, .int mbagged, .int mwarmed, .ref nW, .ref nC, .int mmeals, .ref nQ, .ref nM, .ref nD, .ref nA, .ref nK, .int msights, .ref nP, .int mpadMany, .ref nE, .ref nF, .ref nG, .int macts, .int mgusty, .int mleakAct, .int mleakMuch, .int mendOfCan, .int mbadAct, .int mbadWhy, .int mburnt, .int mboiled, .ref nH, .ref nI, .ref nJ, .ref nL, .int mhadLeft, .int mhadToday, .int mhadBagged, .int mhadWarmed, .int mleaves, .int mdayThen, .int mcoldThen, .ref nO, .int mportionMany, .ref nT, .ref nU, .int mleakMany, .int mleakActs, .ref nV, .ref nX, .ref nY, .ref nZ, .int mkeptAt, .int misWriting]))] := hD
  have hr1 := hq1
  obtain rfl : (blF mshield i1) = r1 := hr1.symm
  refine lv_iadd hx hb dX8_costBy_6 ?_
  refine lv_iload_n hx hb dX8_costBy_7 rfl (lv_at hl 3 rfl) ?_
  refine lv_iconst (v := 2) hx hb dX8_costBy_8 (by decide) ?_
  refine lv_iand hx hb dX8_costBy_9 ?_
  refine lv_if_le (tgt := 17) hx hb dX8_costBy_10 (by decide) (fun c2 => ?_) (fun c2 => ?_)
  · have t2 : (i2 &&& 2).toInt ≤ (0 : Int) := (tle c2)
    refine lv_iconst (v := 0) hx hb dX8_costBy_17 (by decide) ?_
    refine lv_iadd hx hb dX8_costBy_18 ?_
    refine lv_topi (fun y3 e3 => ?_)
    obtain rfl : 4 + (blF mshield i1) = y3 := (e3.trans (by simp)).symm
    refine lv_iload_n hx hb dX8_costBy_19 rfl (lv_at hl 3 rfl) ?_
    refine lv_iconst (v := 4) hx hb dX8_costBy_20 (by decide) ?_
    refine lv_iand hx hb dX8_costBy_21 ?_
    refine lv_if_le (tgt := 29) hx hb dX8_costBy_22 (by decide) (fun c4 => ?_) (fun c4 => ?_)
    · have t4 : (i2 &&& 4).toInt ≤ (0 : Int) := (tle c4)
      refine lv_iconst (v := 0) hx hb dX8_costBy_29 (by decide) ?_
      refine lv_iadd hx hb dX8_costBy_30 ?_
      refine lv_topi (fun y5 e5 => ?_)
      obtain rfl : 4 + (blF mshield i1) = y5 := (e5.trans (by simp)).symm
      refine lv_istore (lv' := [(4, .int (4 + (blF mshield i1))), (0, .ref n), (1, .int i0), (2, .int i1), (3, .int i2)]) hx hb dX8_costBy_31 hl (by decide) rfl (fun ls hl => ?_)
      refine lv_bipush (v := 11) hx hb dX8_costBy_33 (by decide) ?_
      refine lv_aload_n hx hb dX8_costBy_35 rfl (lv_at hl 1 rfl) ?_
      refine va_get (D := (dC, dI)) (ci := 8) (v := .ref nQ) (C := RX8) (T := TX8) (N := 53) hx hb hts hin8 hown hK hP 2 rfl rfl 10 (by decide) hw0 (fun _ h9 => h9) rfl dX8_costBy_36 ?_
      refine lv_iload_n hx hb dX8_costBy_39 rfl (lv_at hl 2 rfl) ?_
      refine va_iald hx hb hK hP 0 0 rfl rfl (vin (by omega) (by omega)) dX8_costBy_40 ?_
      refine lv_topi (fun y6 e6 => ?_)
      obtain rfl : gQ i0.toNatClampNeg = y6 := e6.symm
      have g6 : 0 ≤ (gQ i0.toNatClampNeg).toInt ∧ (gQ i0.toNatClampNeg).toInt ≤ 4 := rgI h_gQ (by omega) (by omega)
      refine lv_imul hx hb dX8_costBy_41 ?_
      refine lv_iload hx hb dX8_costBy_42 (lv_at hl 0 rfl) ?_
      refine lv_imul hx hb dX8_costBy_44 ?_
      refine lv_iload_n hx hb dX8_costBy_45 rfl (lv_at hl 4 rfl) ?_
      refine lv_iconst (v := 1) hx hb dX8_costBy_46 (by decide) ?_
      refine lv_iand hx hb dX8_costBy_47 ?_
      refine lv_if_le (tgt := 55) hx hb dX8_costBy_48 (by decide) (fun c7 => ?_) (fun c7 => ?_)
      · have t7 : (i2 &&& 1).toInt ≤ (0 : Int) := (tle c7)
        refine lv_iconst (v := 1) hx hb dX8_costBy_55 (by decide) ?_
        refine lv_imul hx hb dX8_costBy_56 ?_
        refine lv_istore (lv' := [(5, .int (((11 * (gQ i0.toNatClampNeg)) * (4 + (blF mshield i1))) * 1)), (4, .int (4 + (blF mshield i1))), (0, .ref n), (1, .int i0), (2, .int i1), (3, .int i2)]) hx hb dX8_costBy_57 hl (by decide) rfl (fun ls hl => ?_)
        refine lv_iload_n hx hb dX8_costBy_59 rfl (lv_at hl 5 rfl) ?_
        refine lv_bipush (v := 8) hx hb dX8_costBy_60 (by decide) ?_
        refine lv_iand hx hb dX8_costBy_62 ?_
        refine lv_if_le (tgt := 70) hx hb dX8_costBy_63 (by decide) (fun c8 => ?_) (fun c8 => ?_)
        · have t8 : (i2 &&& 8).toInt ≤ (0 : Int) := (tle c8)
          refine lv_aload_n hx hb dX8_costBy_70 rfl (lv_at hl 2 rfl) ?_
          refine va_get (D := (dC, dI)) (ci := 8) (v := .ref nM) (C := RX8) (T := TX8) (N := 53) hx hb hts hin8 hown hK hP 2 rfl rfl 11 (by decide) hw1 (fun _ h9 => h9) rfl dX8_costBy_71 ?_
          refine lv_iload_n hx hb dX8_costBy_74 rfl (lv_at hl 3 rfl) ?_
          refine va_iald hx hb hK hP 1 0 rfl rfl (vin (by omega) (by omega)) dX8_costBy_75 ?_
          refine lv_topi (fun y9 e9 => ?_)
          obtain rfl : gM i0.toNatClampNeg = y9 := e9.symm
          have g9 : 0 ≤ (gM i0.toNatClampNeg).toInt ∧ (gM i0.toNatClampNeg).toInt ≤ 60 := rgI h_gM (by omega) (by omega)
          refine lv_iload_n hx hb dX8_costBy_76 rfl (lv_at hl 5 rfl) ?_
          refine lv_iconst (v := 4) hx hb dX8_costBy_77 (by decide) ?_
          refine lv_iand hx hb dX8_costBy_78 ?_
          refine lv_if_le (tgt := 86) hx hb dX8_costBy_79 (by decide) (fun c10 => ?_) (fun c10 => by exfalso; have t10 : (0 : Int) < (i2 &&& 4).toInt := (tnle c10); omega)
          refine lv_iconst (v := 1) hx hb dX8_costBy_86 (by decide) ?_
          refine lv_imul hx hb dX8_costBy_87 ?_
          refine lv_istore (lv' := [(6, .int ((gM i0.toNatClampNeg) * 1)), (5, .int (((11 * (gQ i0.toNatClampNeg)) * (4 + (blF mshield i1))) * 1)), (4, .int (4 + (blF mshield i1))), (0, .ref n), (1, .int i0), (2, .int i1), (3, .int i2)]) hx hb dX8_costBy_88 hl (by decide) rfl (fun ls hl => ?_)
          refine lv_iload hx hb dX8_costBy_90 (lv_at hl 1 rfl) ?_
          refine lv_iload hx hb dX8_costBy_92 (lv_at hl 0 rfl) ?_
          refine lv_iadd hx hb dX8_costBy_94 ?_
          have hP9 := mx_subP (wc := [(n, .inr (8, [.int mleft, .int mmetres, .int mshut, .int mshield, .int mtoday, .int mbagged, .int mwarmed, .ref nW, .ref nC, .int mmeals, .ref nQ, .ref nM, .ref nD, .ref nA, .ref nK, .int msights, .ref nP, .int mpadMany, .ref nE, .ref nF, .ref nG, .int macts, .int mgusty, .int mleakAct, .int mleakMuch, .int mendOfCan, .int mbadAct, .int mbadWhy, .int mburnt, .int mboiled, .ref nH, .ref nI, .ref nJ, .ref nL, .int mhadLeft, .int mhadToday, .int mhadBagged, .int mhadWarmed, .int mleaves, .int mdayThen, .int mcoldThen, .ref nO, .int mportionMany, .ref nT, .ref nU, .int mleakMany, .int mleakActs, .ref nV, .ref nX, .ref nY, .ref nZ, .int mkeptAt, .int misWriting])), (nQ, .inl (cI, 6, .inl gQ)), (nM, .inl (cI, 6, .inl gM))]) hP [2, 0, 1] rfl
          have hD9 := hD.sub (ws' := [(n, .inr (8, [.int mleft, .int mmetres, .int mshut, .int mshield, .int mtoday, .int mbagged, .int mwarmed, .ref nW, .ref nC, .int mmeals, .ref nQ, .ref nM, .ref nD, .ref nA, .ref nK, .int msights, .ref nP, .int mpadMany, .ref nE, .ref nF, .ref nG, .int macts, .int mgusty, .int mleakAct, .int mleakMuch, .int mendOfCan, .int mbadAct, .int mbadWhy, .int mburnt, .int mboiled, .ref nH, .ref nI, .ref nJ, .ref nL, .int mhadLeft, .int mhadToday, .int mhadBagged, .int mhadWarmed, .int mleaves, .int mdayThen, .int mcoldThen, .ref nO, .int mportionMany, .ref nT, .ref nU, .int mleakMany, .int mleakActs, .ref nV, .ref nX, .ref nY, .ref nZ, .int mkeptAt, .int misWriting])), (nQ, .inl (cI, 6, .inl gQ)), (nM, .inl (cI, 6, .inl gM))]) [2, 0, 1] (by decide) rfl
          exact W.iret (v := ((((11 * (gQ i0.toNatClampNeg)) * (4 + (blF mshield i1))) * 1) + ((gM i0.toNatClampNeg) * 1))) hx hb hr (fun t ht hW => ⟨⟨((((11 * (gQ i0.toNatClampNeg)) * (4 + (blF mshield i1))) * 1) + ((gM i0.toNatClampNeg) * 1)), (), rfl, (by simp only [cbF, if_pos c2, if_pos c4, if_pos c7, if_pos c8, Int32.add_zero]), by rw [ht]; exact hP9, hD9⟩, hS.F ht⟩) hS.2.2 dX8_costBy_95
        · have t8 : (0 : Int) < (i2 &&& 8).toInt := (tnle c8)
          refine lv_iconst (v := 0) hx hb dX8_costBy_66 (by decide) ?_
          refine lv_goto (tgt := 88) hx hb dX8_costBy_67 (by decide) ?_
          refine lv_istore (lv' := [(6, .int 0), (5, .int (((11 * (gQ i0.toNatClampNeg)) * (4 + (blF mshield i1))) * 1)), (4, .int (4 + (blF mshield i1))), (0, .ref n), (1, .int i0), (2, .int i1), (3, .int i2)]) hx hb dX8_costBy_88 hl (by decide) rfl (fun ls hl => ?_)
          refine lv_iload hx hb dX8_costBy_90 (lv_at hl 1 rfl) ?_
          refine lv_iload hx hb dX8_costBy_92 (lv_at hl 0 rfl) ?_
          refine lv_iadd hx hb dX8_costBy_94 ?_
          refine lv_topi (fun y11 e11 => ?_)
          obtain rfl : ((11 * (gQ i0.toNatClampNeg)) * (4 + (blF mshield i1))) * 1 = y11 := (e11.trans (by simp)).symm
          have hP9 := mx_subP (wc := [(n, .inr (8, [.int mleft, .int mmetres, .int mshut, .int mshield, .int mtoday, .int mbagged, .int mwarmed, .ref nW, .ref nC, .int mmeals, .ref nQ, .ref nM, .ref nD, .ref nA, .ref nK, .int msights, .ref nP, .int mpadMany, .ref nE, .ref nF, .ref nG, .int macts, .int mgusty, .int mleakAct, .int mleakMuch, .int mendOfCan, .int mbadAct, .int mbadWhy, .int mburnt, .int mboiled, .ref nH, .ref nI, .ref nJ, .ref nL, .int mhadLeft, .int mhadToday, .int mhadBagged, .int mhadWarmed, .int mleaves, .int mdayThen, .int mcoldThen, .ref nO, .int mportionMany, .ref nT, .ref nU, .int mleakMany, .int mleakActs, .ref nV, .ref nX, .ref nY, .ref nZ, .int mkeptAt, .int misWriting])), (nQ, .inl (cI, 6, .inl gQ)), (nM, .inl (cI, 6, .inl gM))]) hP [2, 0, 1] rfl
          have hD9 := hD.sub (ws' := [(n, .inr (8, [.int mleft, .int mmetres, .int mshut, .int mshield, .int mtoday, .int mbagged, .int mwarmed, .ref nW, .ref nC, .int mmeals, .ref nQ, .ref nM, .ref nD, .ref nA, .ref nK, .int msights, .ref nP, .int mpadMany, .ref nE, .ref nF, .ref nG, .int macts, .int mgusty, .int mleakAct, .int mleakMuch, .int mendOfCan, .int mbadAct, .int mbadWhy, .int mburnt, .int mboiled, .ref nH, .ref nI, .ref nJ, .ref nL, .int mhadLeft, .int mhadToday, .int mhadBagged, .int mhadWarmed, .int mleaves, .int mdayThen, .int mcoldThen, .ref nO, .int mportionMany, .ref nT, .ref nU, .int mleakMany, .int mleakActs, .ref nV, .ref nX, .ref nY, .ref nZ, .int mkeptAt, .int misWriting])), (nQ, .inl (cI, 6, .inl gQ)), (nM, .inl (cI, 6, .inl gM))]) [2, 0, 1] (by decide) rfl
          exact W.iret (v := (((11 * (gQ i0.toNatClampNeg)) * (4 + (blF mshield i1))) * 1)) hx hb hr (fun t ht hW => ⟨⟨(((11 * (gQ i0.toNatClampNeg)) * (4 + (blF mshield i1))) * 1), (), rfl, (by simp only [cbF, if_pos c2, if_pos c4, if_pos c7, if_neg c8, Int32.add_zero]), by rw [ht]; exact hP9, hD9⟩, hS.F ht⟩) hS.2.2 dX8_costBy_95
      · have t7 : (0 : Int) < (i2 &&& 1).toInt := (tnle c7)
        refine lv_iconst (v := 2) hx hb dX8_costBy_51 (by decide) ?_
        refine lv_goto (tgt := 56) hx hb dX8_costBy_52 (by decide) ?_
        refine lv_imul hx hb dX8_costBy_56 ?_
        refine lv_istore (lv' := [(5, .int (((11 * (gQ i0.toNatClampNeg)) * (4 + (blF mshield i1))) * 2)), (4, .int (4 + (blF mshield i1))), (0, .ref n), (1, .int i0), (2, .int i1), (3, .int i2)]) hx hb dX8_costBy_57 hl (by decide) rfl (fun ls hl => ?_)
        refine lv_iload_n hx hb dX8_costBy_59 rfl (lv_at hl 5 rfl) ?_
        refine lv_bipush (v := 8) hx hb dX8_costBy_60 (by decide) ?_
        refine lv_iand hx hb dX8_costBy_62 ?_
        refine lv_if_le (tgt := 70) hx hb dX8_costBy_63 (by decide) (fun c12 => ?_) (fun c12 => ?_)
        · have t12 : (i2 &&& 8).toInt ≤ (0 : Int) := (tle c12)
          refine lv_aload_n hx hb dX8_costBy_70 rfl (lv_at hl 2 rfl) ?_
          refine va_get (D := (dC, dI)) (ci := 8) (v := .ref nM) (C := RX8) (T := TX8) (N := 53) hx hb hts hin8 hown hK hP 2 rfl rfl 11 (by decide) hw1 (fun _ h9 => h9) rfl dX8_costBy_71 ?_
          refine lv_iload_n hx hb dX8_costBy_74 rfl (lv_at hl 3 rfl) ?_
          refine va_iald hx hb hK hP 1 0 rfl rfl (vin (by omega) (by omega)) dX8_costBy_75 ?_
          refine lv_topi (fun y13 e13 => ?_)
          obtain rfl : gM i0.toNatClampNeg = y13 := e13.symm
          have g13 : 0 ≤ (gM i0.toNatClampNeg).toInt ∧ (gM i0.toNatClampNeg).toInt ≤ 60 := rgI h_gM (by omega) (by omega)
          refine lv_iload_n hx hb dX8_costBy_76 rfl (lv_at hl 5 rfl) ?_
          refine lv_iconst (v := 4) hx hb dX8_costBy_77 (by decide) ?_
          refine lv_iand hx hb dX8_costBy_78 ?_
          refine lv_if_le (tgt := 86) hx hb dX8_costBy_79 (by decide) (fun c14 => ?_) (fun c14 => by exfalso; have t14 : (0 : Int) < (i2 &&& 4).toInt := (tnle c14); omega)
          refine lv_iconst (v := 1) hx hb dX8_costBy_86 (by decide) ?_
          refine lv_imul hx hb dX8_costBy_87 ?_
          refine lv_istore (lv' := [(6, .int ((gM i0.toNatClampNeg) * 1)), (5, .int (((11 * (gQ i0.toNatClampNeg)) * (4 + (blF mshield i1))) * 2)), (4, .int (4 + (blF mshield i1))), (0, .ref n), (1, .int i0), (2, .int i1), (3, .int i2)]) hx hb dX8_costBy_88 hl (by decide) rfl (fun ls hl => ?_)
          refine lv_iload hx hb dX8_costBy_90 (lv_at hl 1 rfl) ?_
          refine lv_iload hx hb dX8_costBy_92 (lv_at hl 0 rfl) ?_
          refine lv_iadd hx hb dX8_costBy_94 ?_
          have hP9 := mx_subP (wc := [(n, .inr (8, [.int mleft, .int mmetres, .int mshut, .int mshield, .int mtoday, .int mbagged, .int mwarmed, .ref nW, .ref nC, .int mmeals, .ref nQ, .ref nM, .ref nD, .ref nA, .ref nK, .int msights, .ref nP, .int mpadMany, .ref nE, .ref nF, .ref nG, .int macts, .int mgusty, .int mleakAct, .int mleakMuch, .int mendOfCan, .int mbadAct, .int mbadWhy, .int mburnt, .int mboiled, .ref nH, .ref nI, .ref nJ, .ref nL, .int mhadLeft, .int mhadToday, .int mhadBagged, .int mhadWarmed, .int mleaves, .int mdayThen, .int mcoldThen, .ref nO, .int mportionMany, .ref nT, .ref nU, .int mleakMany, .int mleakActs, .ref nV, .ref nX, .ref nY, .ref nZ, .int mkeptAt, .int misWriting])), (nQ, .inl (cI, 6, .inl gQ)), (nM, .inl (cI, 6, .inl gM))]) hP [2, 0, 1] rfl
          have hD9 := hD.sub (ws' := [(n, .inr (8, [.int mleft, .int mmetres, .int mshut, .int mshield, .int mtoday, .int mbagged, .int mwarmed, .ref nW, .ref nC, .int mmeals, .ref nQ, .ref nM, .ref nD, .ref nA, .ref nK, .int msights, .ref nP, .int mpadMany, .ref nE, .ref nF, .ref nG, .int macts, .int mgusty, .int mleakAct, .int mleakMuch, .int mendOfCan, .int mbadAct, .int mbadWhy, .int mburnt, .int mboiled, .ref nH, .ref nI, .ref nJ, .ref nL, .int mhadLeft, .int mhadToday, .int mhadBagged, .int mhadWarmed, .int mleaves, .int mdayThen, .int mcoldThen, .ref nO, .int mportionMany, .ref nT, .ref nU, .int mleakMany, .int mleakActs, .ref nV, .ref nX, .ref nY, .ref nZ, .int mkeptAt, .int misWriting])), (nQ, .inl (cI, 6, .inl gQ)), (nM, .inl (cI, 6, .inl gM))]) [2, 0, 1] (by decide) rfl
          exact W.iret (v := ((((11 * (gQ i0.toNatClampNeg)) * (4 + (blF mshield i1))) * 2) + ((gM i0.toNatClampNeg) * 1))) hx hb hr (fun t ht hW => ⟨⟨((((11 * (gQ i0.toNatClampNeg)) * (4 + (blF mshield i1))) * 2) + ((gM i0.toNatClampNeg) * 1)), (), rfl, (by simp only [cbF, if_pos c2, if_pos c4, if_neg c7, if_pos c12, Int32.add_zero]), by rw [ht]; exact hP9, hD9⟩, hS.F ht⟩) hS.2.2 dX8_costBy_95
        · have t12 : (0 : Int) < (i2 &&& 8).toInt := (tnle c12)
          refine lv_iconst (v := 0) hx hb dX8_costBy_66 (by decide) ?_
          refine lv_goto (tgt := 88) hx hb dX8_costBy_67 (by decide) ?_
          refine lv_istore (lv' := [(6, .int 0), (5, .int (((11 * (gQ i0.toNatClampNeg)) * (4 + (blF mshield i1))) * 2)), (4, .int (4 + (blF mshield i1))), (0, .ref n), (1, .int i0), (2, .int i1), (3, .int i2)]) hx hb dX8_costBy_88 hl (by decide) rfl (fun ls hl => ?_)
          refine lv_iload hx hb dX8_costBy_90 (lv_at hl 1 rfl) ?_
          refine lv_iload hx hb dX8_costBy_92 (lv_at hl 0 rfl) ?_
          refine lv_iadd hx hb dX8_costBy_94 ?_
          refine lv_topi (fun y15 e15 => ?_)
          obtain rfl : ((11 * (gQ i0.toNatClampNeg)) * (4 + (blF mshield i1))) * 2 = y15 := (e15.trans (by simp)).symm
          have hP9 := mx_subP (wc := [(n, .inr (8, [.int mleft, .int mmetres, .int mshut, .int mshield, .int mtoday, .int mbagged, .int mwarmed, .ref nW, .ref nC, .int mmeals, .ref nQ, .ref nM, .ref nD, .ref nA, .ref nK, .int msights, .ref nP, .int mpadMany, .ref nE, .ref nF, .ref nG, .int macts, .int mgusty, .int mleakAct, .int mleakMuch, .int mendOfCan, .int mbadAct, .int mbadWhy, .int mburnt, .int mboiled, .ref nH, .ref nI, .ref nJ, .ref nL, .int mhadLeft, .int mhadToday, .int mhadBagged, .int mhadWarmed, .int mleaves, .int mdayThen, .int mcoldThen, .ref nO, .int mportionMany, .ref nT, .ref nU, .int mleakMany, .int mleakActs, .ref nV, .ref nX, .ref nY, .ref nZ, .int mkeptAt, .int misWriting])), (nQ, .inl (cI, 6, .inl gQ)), (nM, .inl (cI, 6, .inl gM))]) hP [2, 0, 1] rfl
          have hD9 := hD.sub (ws' := [(n, .inr (8, [.int mleft, .int mmetres, .int mshut, .int mshield, .int mtoday, .int mbagged, .int mwarmed, .ref nW, .ref nC, .int mmeals, .ref nQ, .ref nM, .ref nD, .ref nA, .ref nK, .int msights, .ref nP, .int mpadMany, .ref nE, .ref nF, .ref nG, .int macts, .int mgusty, .int mleakAct, .int mleakMuch, .int mendOfCan, .int mbadAct, .int mbadWhy, .int mburnt, .int mboiled, .ref nH, .ref nI, .ref nJ, .ref nL, .int mhadLeft, .int mhadToday, .int mhadBagged, .int mhadWarmed, .int mleaves, .int mdayThen, .int mcoldThen, .ref nO, .int mportionMany, .ref nT, .ref nU, .int mleakMany, .int mleakActs, .ref nV, .ref nX, .ref nY, .ref nZ, .int mkeptAt, .int misWriting])), (nQ, .inl (cI, 6, .inl gQ)), (nM, .inl (cI, 6, .inl gM))]) [2, 0, 1] (by decide) rfl
          exact W.iret (v := (((11 * (gQ i0.toNatClampNeg)) * (4 + (blF mshield i1))) * 2)) hx hb hr (fun t ht hW => ⟨⟨(((11 * (gQ i0.toNatClampNeg)) * (4 + (blF mshield i1))) * 2), (), rfl, (by simp only [cbF, if_pos c2, if_pos c4, if_neg c7, if_neg c12, Int32.add_zero]), by rw [ht]; exact hP9, hD9⟩, hS.F ht⟩) hS.2.2 dX8_costBy_95
    · have t4 : (0 : Int) < (i2 &&& 4).toInt := (tnle c4)
      refine lv_iconst (v := 1) hx hb dX8_costBy_25 (by decide) ?_
      refine lv_goto (tgt := 30) hx hb dX8_costBy_26 (by decide) ?_
      refine lv_iadd hx hb dX8_costBy_30 ?_
      refine lv_istore (lv' := [(4, .int ((4 + (blF mshield i1)) + 1)), (0, .ref n), (1, .int i0), (2, .int i1), (3, .int i2)]) hx hb dX8_costBy_31 hl (by decide) rfl (fun ls hl => ?_)
      refine lv_bipush (v := 11) hx hb dX8_costBy_33 (by decide) ?_
      refine lv_aload_n hx hb dX8_costBy_35 rfl (lv_at hl 1 rfl) ?_
      refine va_get (D := (dC, dI)) (ci := 8) (v := .ref nQ) (C := RX8) (T := TX8) (N := 53) hx hb hts hin8 hown hK hP 2 rfl rfl 10 (by decide) hw0 (fun _ h9 => h9) rfl dX8_costBy_36 ?_
      refine lv_iload_n hx hb dX8_costBy_39 rfl (lv_at hl 2 rfl) ?_
      refine va_iald hx hb hK hP 0 0 rfl rfl (vin (by omega) (by omega)) dX8_costBy_40 ?_
      refine lv_topi (fun y16 e16 => ?_)
      obtain rfl : gQ i0.toNatClampNeg = y16 := e16.symm
      have g16 : 0 ≤ (gQ i0.toNatClampNeg).toInt ∧ (gQ i0.toNatClampNeg).toInt ≤ 4 := rgI h_gQ (by omega) (by omega)
      refine lv_imul hx hb dX8_costBy_41 ?_
      refine lv_iload hx hb dX8_costBy_42 (lv_at hl 0 rfl) ?_
      refine lv_imul hx hb dX8_costBy_44 ?_
      refine lv_iload_n hx hb dX8_costBy_45 rfl (lv_at hl 4 rfl) ?_
      refine lv_iconst (v := 1) hx hb dX8_costBy_46 (by decide) ?_
      refine lv_iand hx hb dX8_costBy_47 ?_
      refine lv_if_le (tgt := 55) hx hb dX8_costBy_48 (by decide) (fun c17 => ?_) (fun c17 => ?_)
      · have t17 : (i2 &&& 1).toInt ≤ (0 : Int) := (tle c17)
        refine lv_iconst (v := 1) hx hb dX8_costBy_55 (by decide) ?_
        refine lv_imul hx hb dX8_costBy_56 ?_
        refine lv_istore (lv' := [(5, .int (((11 * (gQ i0.toNatClampNeg)) * ((4 + (blF mshield i1)) + 1)) * 1)), (4, .int ((4 + (blF mshield i1)) + 1)), (0, .ref n), (1, .int i0), (2, .int i1), (3, .int i2)]) hx hb dX8_costBy_57 hl (by decide) rfl (fun ls hl => ?_)
        refine lv_iload_n hx hb dX8_costBy_59 rfl (lv_at hl 5 rfl) ?_
        refine lv_bipush (v := 8) hx hb dX8_costBy_60 (by decide) ?_
        refine lv_iand hx hb dX8_costBy_62 ?_
        refine lv_if_le (tgt := 70) hx hb dX8_costBy_63 (by decide) (fun c18 => ?_) (fun c18 => ?_)
        · have t18 : (i2 &&& 8).toInt ≤ (0 : Int) := (tle c18)
          refine lv_aload_n hx hb dX8_costBy_70 rfl (lv_at hl 2 rfl) ?_
          refine va_get (D := (dC, dI)) (ci := 8) (v := .ref nM) (C := RX8) (T := TX8) (N := 53) hx hb hts hin8 hown hK hP 2 rfl rfl 11 (by decide) hw1 (fun _ h9 => h9) rfl dX8_costBy_71 ?_
          refine lv_iload_n hx hb dX8_costBy_74 rfl (lv_at hl 3 rfl) ?_
          refine va_iald hx hb hK hP 1 0 rfl rfl (vin (by omega) (by omega)) dX8_costBy_75 ?_
          refine lv_topi (fun y19 e19 => ?_)
          obtain rfl : gM i0.toNatClampNeg = y19 := e19.symm
          have g19 : 0 ≤ (gM i0.toNatClampNeg).toInt ∧ (gM i0.toNatClampNeg).toInt ≤ 60 := rgI h_gM (by omega) (by omega)
          refine lv_iload_n hx hb dX8_costBy_76 rfl (lv_at hl 5 rfl) ?_
          refine lv_iconst (v := 4) hx hb dX8_costBy_77 (by decide) ?_
          refine lv_iand hx hb dX8_costBy_78 ?_
          refine lv_if_le (tgt := 86) hx hb dX8_costBy_79 (by decide) (fun c20 => by exfalso; have t20 : (i2 &&& 4).toInt ≤ (0 : Int) := (tle c20); omega) (fun c20 => ?_)
          refine lv_iconst (v := 2) hx hb dX8_costBy_82 (by decide) ?_
          refine lv_goto (tgt := 87) hx hb dX8_costBy_83 (by decide) ?_
          refine lv_imul hx hb dX8_costBy_87 ?_
          refine lv_istore (lv' := [(6, .int ((gM i0.toNatClampNeg) * 2)), (5, .int (((11 * (gQ i0.toNatClampNeg)) * ((4 + (blF mshield i1)) + 1)) * 1)), (4, .int ((4 + (blF mshield i1)) + 1)), (0, .ref n), (1, .int i0), (2, .int i1), (3, .int i2)]) hx hb dX8_costBy_88 hl (by decide) rfl (fun ls hl => ?_)
          refine lv_iload hx hb dX8_costBy_90 (lv_at hl 1 rfl) ?_
          refine lv_iload hx hb dX8_costBy_92 (lv_at hl 0 rfl) ?_
          refine lv_iadd hx hb dX8_costBy_94 ?_
          have hP9 := mx_subP (wc := [(n, .inr (8, [.int mleft, .int mmetres, .int mshut, .int mshield, .int mtoday, .int mbagged, .int mwarmed, .ref nW, .ref nC, .int mmeals, .ref nQ, .ref nM, .ref nD, .ref nA, .ref nK, .int msights, .ref nP, .int mpadMany, .ref nE, .ref nF, .ref nG, .int macts, .int mgusty, .int mleakAct, .int mleakMuch, .int mendOfCan, .int mbadAct, .int mbadWhy, .int mburnt, .int mboiled, .ref nH, .ref nI, .ref nJ, .ref nL, .int mhadLeft, .int mhadToday, .int mhadBagged, .int mhadWarmed, .int mleaves, .int mdayThen, .int mcoldThen, .ref nO, .int mportionMany, .ref nT, .ref nU, .int mleakMany, .int mleakActs, .ref nV, .ref nX, .ref nY, .ref nZ, .int mkeptAt, .int misWriting])), (nQ, .inl (cI, 6, .inl gQ)), (nM, .inl (cI, 6, .inl gM))]) hP [2, 0, 1] rfl
          have hD9 := hD.sub (ws' := [(n, .inr (8, [.int mleft, .int mmetres, .int mshut, .int mshield, .int mtoday, .int mbagged, .int mwarmed, .ref nW, .ref nC, .int mmeals, .ref nQ, .ref nM, .ref nD, .ref nA, .ref nK, .int msights, .ref nP, .int mpadMany, .ref nE, .ref nF, .ref nG, .int macts, .int mgusty, .int mleakAct, .int mleakMuch, .int mendOfCan, .int mbadAct, .int mbadWhy, .int mburnt, .int mboiled, .ref nH, .ref nI, .ref nJ, .ref nL, .int mhadLeft, .int mhadToday, .int mhadBagged, .int mhadWarmed, .int mleaves, .int mdayThen, .int mcoldThen, .ref nO, .int mportionMany, .ref nT, .ref nU, .int mleakMany, .int mleakActs, .ref nV, .ref nX, .ref nY, .ref nZ, .int mkeptAt, .int misWriting])), (nQ, .inl (cI, 6, .inl gQ)), (nM, .inl (cI, 6, .inl gM))]) [2, 0, 1] (by decide) rfl
          exact W.iret (v := ((((11 * (gQ i0.toNatClampNeg)) * ((4 + (blF mshield i1)) + 1)) * 1) + ((gM i0.toNatClampNeg) * 2))) hx hb hr (fun t ht hW => ⟨⟨((((11 * (gQ i0.toNatClampNeg)) * ((4 + (blF mshield i1)) + 1)) * 1) + ((gM i0.toNatClampNeg) * 2)), (), rfl, (by simp only [cbF, if_pos c2, if_neg c4, if_pos c17, if_pos c18, Int32.add_zero]), by rw [ht]; exact hP9, hD9⟩, hS.F ht⟩) hS.2.2 dX8_costBy_95
        · have t18 : (0 : Int) < (i2 &&& 8).toInt := (tnle c18)
          refine lv_iconst (v := 0) hx hb dX8_costBy_66 (by decide) ?_
          refine lv_goto (tgt := 88) hx hb dX8_costBy_67 (by decide) ?_
          refine lv_istore (lv' := [(6, .int 0), (5, .int (((11 * (gQ i0.toNatClampNeg)) * ((4 + (blF mshield i1)) + 1)) * 1)), (4, .int ((4 + (blF mshield i1)) + 1)), (0, .ref n), (1, .int i0), (2, .int i1), (3, .int i2)]) hx hb dX8_costBy_88 hl (by decide) rfl (fun ls hl => ?_)
          refine lv_iload hx hb dX8_costBy_90 (lv_at hl 1 rfl) ?_
          refine lv_iload hx hb dX8_costBy_92 (lv_at hl 0 rfl) ?_
          refine lv_iadd hx hb dX8_costBy_94 ?_
          refine lv_topi (fun y21 e21 => ?_)
          obtain rfl : ((11 * (gQ i0.toNatClampNeg)) * ((4 + (blF mshield i1)) + 1)) * 1 = y21 := (e21.trans (by simp)).symm
          have hP9 := mx_subP (wc := [(n, .inr (8, [.int mleft, .int mmetres, .int mshut, .int mshield, .int mtoday, .int mbagged, .int mwarmed, .ref nW, .ref nC, .int mmeals, .ref nQ, .ref nM, .ref nD, .ref nA, .ref nK, .int msights, .ref nP, .int mpadMany, .ref nE, .ref nF, .ref nG, .int macts, .int mgusty, .int mleakAct, .int mleakMuch, .int mendOfCan, .int mbadAct, .int mbadWhy, .int mburnt, .int mboiled, .ref nH, .ref nI, .ref nJ, .ref nL, .int mhadLeft, .int mhadToday, .int mhadBagged, .int mhadWarmed, .int mleaves, .int mdayThen, .int mcoldThen, .ref nO, .int mportionMany, .ref nT, .ref nU, .int mleakMany, .int mleakActs, .ref nV, .ref nX, .ref nY, .ref nZ, .int mkeptAt, .int misWriting])), (nQ, .inl (cI, 6, .inl gQ)), (nM, .inl (cI, 6, .inl gM))]) hP [2, 0, 1] rfl
          have hD9 := hD.sub (ws' := [(n, .inr (8, [.int mleft, .int mmetres, .int mshut, .int mshield, .int mtoday, .int mbagged, .int mwarmed, .ref nW, .ref nC, .int mmeals, .ref nQ, .ref nM, .ref nD, .ref nA, .ref nK, .int msights, .ref nP, .int mpadMany, .ref nE, .ref nF, .ref nG, .int macts, .int mgusty, .int mleakAct, .int mleakMuch, .int mendOfCan, .int mbadAct, .int mbadWhy, .int mburnt, .int mboiled, .ref nH, .ref nI, .ref nJ, .ref nL, .int mhadLeft, .int mhadToday, .int mhadBagged, .int mhadWarmed, .int mleaves, .int mdayThen, .int mcoldThen, .ref nO, .int mportionMany, .ref nT, .ref nU, .int mleakMany, .int mleakActs, .ref nV, .ref nX, .ref nY, .ref nZ, .int mkeptAt, .int misWriting])), (nQ, .inl (cI, 6, .inl gQ)), (nM, .inl (cI, 6, .inl gM))]) [2, 0, 1] (by decide) rfl
          exact W.iret (v := (((11 * (gQ i0.toNatClampNeg)) * ((4 + (blF mshield i1)) + 1)) * 1)) hx hb hr (fun t ht hW => ⟨⟨(((11 * (gQ i0.toNatClampNeg)) * ((4 + (blF mshield i1)) + 1)) * 1), (), rfl, (by simp only [cbF, if_pos c2, if_neg c4, if_pos c17, if_neg c18, Int32.add_zero]), by rw [ht]; exact hP9, hD9⟩, hS.F ht⟩) hS.2.2 dX8_costBy_95
      · have t17 : (0 : Int) < (i2 &&& 1).toInt := (tnle c17)
        refine lv_iconst (v := 2) hx hb dX8_costBy_51 (by decide) ?_
        refine lv_goto (tgt := 56) hx hb dX8_costBy_52 (by decide) ?_
        refine lv_imul hx hb dX8_costBy_56 ?_
        refine lv_istore (lv' := [(5, .int (((11 * (gQ i0.toNatClampNeg)) * ((4 + (blF mshield i1)) + 1)) * 2)), (4, .int ((4 + (blF mshield i1)) + 1)), (0, .ref n), (1, .int i0), (2, .int i1), (3, .int i2)]) hx hb dX8_costBy_57 hl (by decide) rfl (fun ls hl => ?_)
        refine lv_iload_n hx hb dX8_costBy_59 rfl (lv_at hl 5 rfl) ?_
        refine lv_bipush (v := 8) hx hb dX8_costBy_60 (by decide) ?_
        refine lv_iand hx hb dX8_costBy_62 ?_
        refine lv_if_le (tgt := 70) hx hb dX8_costBy_63 (by decide) (fun c22 => ?_) (fun c22 => ?_)
        · have t22 : (i2 &&& 8).toInt ≤ (0 : Int) := (tle c22)
          refine lv_aload_n hx hb dX8_costBy_70 rfl (lv_at hl 2 rfl) ?_
          refine va_get (D := (dC, dI)) (ci := 8) (v := .ref nM) (C := RX8) (T := TX8) (N := 53) hx hb hts hin8 hown hK hP 2 rfl rfl 11 (by decide) hw1 (fun _ h9 => h9) rfl dX8_costBy_71 ?_
          refine lv_iload_n hx hb dX8_costBy_74 rfl (lv_at hl 3 rfl) ?_
          refine va_iald hx hb hK hP 1 0 rfl rfl (vin (by omega) (by omega)) dX8_costBy_75 ?_
          refine lv_topi (fun y23 e23 => ?_)
          obtain rfl : gM i0.toNatClampNeg = y23 := e23.symm
          have g23 : 0 ≤ (gM i0.toNatClampNeg).toInt ∧ (gM i0.toNatClampNeg).toInt ≤ 60 := rgI h_gM (by omega) (by omega)
          refine lv_iload_n hx hb dX8_costBy_76 rfl (lv_at hl 5 rfl) ?_
          refine lv_iconst (v := 4) hx hb dX8_costBy_77 (by decide) ?_
          refine lv_iand hx hb dX8_costBy_78 ?_
          refine lv_if_le (tgt := 86) hx hb dX8_costBy_79 (by decide) (fun c24 => by exfalso; have t24 : (i2 &&& 4).toInt ≤ (0 : Int) := (tle c24); omega) (fun c24 => ?_)
          refine lv_iconst (v := 2) hx hb dX8_costBy_82 (by decide) ?_
          refine lv_goto (tgt := 87) hx hb dX8_costBy_83 (by decide) ?_
          refine lv_imul hx hb dX8_costBy_87 ?_
          refine lv_istore (lv' := [(6, .int ((gM i0.toNatClampNeg) * 2)), (5, .int (((11 * (gQ i0.toNatClampNeg)) * ((4 + (blF mshield i1)) + 1)) * 2)), (4, .int ((4 + (blF mshield i1)) + 1)), (0, .ref n), (1, .int i0), (2, .int i1), (3, .int i2)]) hx hb dX8_costBy_88 hl (by decide) rfl (fun ls hl => ?_)
          refine lv_iload hx hb dX8_costBy_90 (lv_at hl 1 rfl) ?_
          refine lv_iload hx hb dX8_costBy_92 (lv_at hl 0 rfl) ?_
          refine lv_iadd hx hb dX8_costBy_94 ?_
          have hP9 := mx_subP (wc := [(n, .inr (8, [.int mleft, .int mmetres, .int mshut, .int mshield, .int mtoday, .int mbagged, .int mwarmed, .ref nW, .ref nC, .int mmeals, .ref nQ, .ref nM, .ref nD, .ref nA, .ref nK, .int msights, .ref nP, .int mpadMany, .ref nE, .ref nF, .ref nG, .int macts, .int mgusty, .int mleakAct, .int mleakMuch, .int mendOfCan, .int mbadAct, .int mbadWhy, .int mburnt, .int mboiled, .ref nH, .ref nI, .ref nJ, .ref nL, .int mhadLeft, .int mhadToday, .int mhadBagged, .int mhadWarmed, .int mleaves, .int mdayThen, .int mcoldThen, .ref nO, .int mportionMany, .ref nT, .ref nU, .int mleakMany, .int mleakActs, .ref nV, .ref nX, .ref nY, .ref nZ, .int mkeptAt, .int misWriting])), (nQ, .inl (cI, 6, .inl gQ)), (nM, .inl (cI, 6, .inl gM))]) hP [2, 0, 1] rfl
          have hD9 := hD.sub (ws' := [(n, .inr (8, [.int mleft, .int mmetres, .int mshut, .int mshield, .int mtoday, .int mbagged, .int mwarmed, .ref nW, .ref nC, .int mmeals, .ref nQ, .ref nM, .ref nD, .ref nA, .ref nK, .int msights, .ref nP, .int mpadMany, .ref nE, .ref nF, .ref nG, .int macts, .int mgusty, .int mleakAct, .int mleakMuch, .int mendOfCan, .int mbadAct, .int mbadWhy, .int mburnt, .int mboiled, .ref nH, .ref nI, .ref nJ, .ref nL, .int mhadLeft, .int mhadToday, .int mhadBagged, .int mhadWarmed, .int mleaves, .int mdayThen, .int mcoldThen, .ref nO, .int mportionMany, .ref nT, .ref nU, .int mleakMany, .int mleakActs, .ref nV, .ref nX, .ref nY, .ref nZ, .int mkeptAt, .int misWriting])), (nQ, .inl (cI, 6, .inl gQ)), (nM, .inl (cI, 6, .inl gM))]) [2, 0, 1] (by decide) rfl
          exact W.iret (v := ((((11 * (gQ i0.toNatClampNeg)) * ((4 + (blF mshield i1)) + 1)) * 2) + ((gM i0.toNatClampNeg) * 2))) hx hb hr (fun t ht hW => ⟨⟨((((11 * (gQ i0.toNatClampNeg)) * ((4 + (blF mshield i1)) + 1)) * 2) + ((gM i0.toNatClampNeg) * 2)), (), rfl, (by simp only [cbF, if_pos c2, if_neg c4, if_neg c17, if_pos c22, Int32.add_zero]), by rw [ht]; exact hP9, hD9⟩, hS.F ht⟩) hS.2.2 dX8_costBy_95
        · have t22 : (0 : Int) < (i2 &&& 8).toInt := (tnle c22)
          refine lv_iconst (v := 0) hx hb dX8_costBy_66 (by decide) ?_
          refine lv_goto (tgt := 88) hx hb dX8_costBy_67 (by decide) ?_
          refine lv_istore (lv' := [(6, .int 0), (5, .int (((11 * (gQ i0.toNatClampNeg)) * ((4 + (blF mshield i1)) + 1)) * 2)), (4, .int ((4 + (blF mshield i1)) + 1)), (0, .ref n), (1, .int i0), (2, .int i1), (3, .int i2)]) hx hb dX8_costBy_88 hl (by decide) rfl (fun ls hl => ?_)
          refine lv_iload hx hb dX8_costBy_90 (lv_at hl 1 rfl) ?_
          refine lv_iload hx hb dX8_costBy_92 (lv_at hl 0 rfl) ?_
          refine lv_iadd hx hb dX8_costBy_94 ?_
          refine lv_topi (fun y25 e25 => ?_)
          obtain rfl : ((11 * (gQ i0.toNatClampNeg)) * ((4 + (blF mshield i1)) + 1)) * 2 = y25 := (e25.trans (by simp)).symm
          have hP9 := mx_subP (wc := [(n, .inr (8, [.int mleft, .int mmetres, .int mshut, .int mshield, .int mtoday, .int mbagged, .int mwarmed, .ref nW, .ref nC, .int mmeals, .ref nQ, .ref nM, .ref nD, .ref nA, .ref nK, .int msights, .ref nP, .int mpadMany, .ref nE, .ref nF, .ref nG, .int macts, .int mgusty, .int mleakAct, .int mleakMuch, .int mendOfCan, .int mbadAct, .int mbadWhy, .int mburnt, .int mboiled, .ref nH, .ref nI, .ref nJ, .ref nL, .int mhadLeft, .int mhadToday, .int mhadBagged, .int mhadWarmed, .int mleaves, .int mdayThen, .int mcoldThen, .ref nO, .int mportionMany, .ref nT, .ref nU, .int mleakMany, .int mleakActs, .ref nV, .ref nX, .ref nY, .ref nZ, .int mkeptAt, .int misWriting])), (nQ, .inl (cI, 6, .inl gQ)), (nM, .inl (cI, 6, .inl gM))]) hP [2, 0, 1] rfl
          have hD9 := hD.sub (ws' := [(n, .inr (8, [.int mleft, .int mmetres, .int mshut, .int mshield, .int mtoday, .int mbagged, .int mwarmed, .ref nW, .ref nC, .int mmeals, .ref nQ, .ref nM, .ref nD, .ref nA, .ref nK, .int msights, .ref nP, .int mpadMany, .ref nE, .ref nF, .ref nG, .int macts, .int mgusty, .int mleakAct, .int mleakMuch, .int mendOfCan, .int mbadAct, .int mbadWhy, .int mburnt, .int mboiled, .ref nH, .ref nI, .ref nJ, .ref nL, .int mhadLeft, .int mhadToday, .int mhadBagged, .int mhadWarmed, .int mleaves, .int mdayThen, .int mcoldThen, .ref nO, .int mportionMany, .ref nT, .ref nU, .int mleakMany, .int mleakActs, .ref nV, .ref nX, .ref nY, .ref nZ, .int mkeptAt, .int misWriting])), (nQ, .inl (cI, 6, .inl gQ)), (nM, .inl (cI, 6, .inl gM))]) [2, 0, 1] (by decide) rfl
          exact W.iret (v := (((11 * (gQ i0.toNatClampNeg)) * ((4 + (blF mshield i1)) + 1)) * 2)) hx hb hr (fun t ht hW => ⟨⟨(((11 * (gQ i0.toNatClampNeg)) * ((4 + (blF mshield i1)) + 1)) * 2), (), rfl, (by simp only [cbF, if_pos c2, if_neg c4, if_neg c17, if_neg c22, Int32.add_zero]), by rw [ht]; exact hP9, hD9⟩, hS.F ht⟩) hS.2.2 dX8_costBy_95
  · have t2 : (0 : Int) < (i2 &&& 2).toInt := (tnle c2)
    refine lv_iconst (v := 1) hx hb dX8_costBy_13 (by decide) ?_
    refine lv_goto (tgt := 18) hx hb dX8_costBy_14 (by decide) ?_
    refine lv_iadd hx hb dX8_costBy_18 ?_
    refine lv_iload_n hx hb dX8_costBy_19 rfl (lv_at hl 3 rfl) ?_
    refine lv_iconst (v := 4) hx hb dX8_costBy_20 (by decide) ?_
    refine lv_iand hx hb dX8_costBy_21 ?_
    refine lv_if_le (tgt := 29) hx hb dX8_costBy_22 (by decide) (fun c26 => ?_) (fun c26 => ?_)
    · have t26 : (i2 &&& 4).toInt ≤ (0 : Int) := (tle c26)
      refine lv_iconst (v := 0) hx hb dX8_costBy_29 (by decide) ?_
      refine lv_iadd hx hb dX8_costBy_30 ?_
      refine lv_topi (fun y27 e27 => ?_)
      obtain rfl : (4 + (blF mshield i1)) + 1 = y27 := (e27.trans (by simp)).symm
      refine lv_istore (lv' := [(4, .int ((4 + (blF mshield i1)) + 1)), (0, .ref n), (1, .int i0), (2, .int i1), (3, .int i2)]) hx hb dX8_costBy_31 hl (by decide) rfl (fun ls hl => ?_)
      refine lv_bipush (v := 11) hx hb dX8_costBy_33 (by decide) ?_
      refine lv_aload_n hx hb dX8_costBy_35 rfl (lv_at hl 1 rfl) ?_
      refine va_get (D := (dC, dI)) (ci := 8) (v := .ref nQ) (C := RX8) (T := TX8) (N := 53) hx hb hts hin8 hown hK hP 2 rfl rfl 10 (by decide) hw0 (fun _ h9 => h9) rfl dX8_costBy_36 ?_
      refine lv_iload_n hx hb dX8_costBy_39 rfl (lv_at hl 2 rfl) ?_
      refine va_iald hx hb hK hP 0 0 rfl rfl (vin (by omega) (by omega)) dX8_costBy_40 ?_
      refine lv_topi (fun y28 e28 => ?_)
      obtain rfl : gQ i0.toNatClampNeg = y28 := e28.symm
      have g28 : 0 ≤ (gQ i0.toNatClampNeg).toInt ∧ (gQ i0.toNatClampNeg).toInt ≤ 4 := rgI h_gQ (by omega) (by omega)
      refine lv_imul hx hb dX8_costBy_41 ?_
      refine lv_iload hx hb dX8_costBy_42 (lv_at hl 0 rfl) ?_
      refine lv_imul hx hb dX8_costBy_44 ?_
      refine lv_iload_n hx hb dX8_costBy_45 rfl (lv_at hl 4 rfl) ?_
      refine lv_iconst (v := 1) hx hb dX8_costBy_46 (by decide) ?_
      refine lv_iand hx hb dX8_costBy_47 ?_
      refine lv_if_le (tgt := 55) hx hb dX8_costBy_48 (by decide) (fun c29 => ?_) (fun c29 => ?_)
      · have t29 : (i2 &&& 1).toInt ≤ (0 : Int) := (tle c29)
        refine lv_iconst (v := 1) hx hb dX8_costBy_55 (by decide) ?_
        refine lv_imul hx hb dX8_costBy_56 ?_
        refine lv_istore (lv' := [(5, .int (((11 * (gQ i0.toNatClampNeg)) * ((4 + (blF mshield i1)) + 1)) * 1)), (4, .int ((4 + (blF mshield i1)) + 1)), (0, .ref n), (1, .int i0), (2, .int i1), (3, .int i2)]) hx hb dX8_costBy_57 hl (by decide) rfl (fun ls hl => ?_)
        refine lv_iload_n hx hb dX8_costBy_59 rfl (lv_at hl 5 rfl) ?_
        refine lv_bipush (v := 8) hx hb dX8_costBy_60 (by decide) ?_
        refine lv_iand hx hb dX8_costBy_62 ?_
        refine lv_if_le (tgt := 70) hx hb dX8_costBy_63 (by decide) (fun c30 => ?_) (fun c30 => ?_)
        · have t30 : (i2 &&& 8).toInt ≤ (0 : Int) := (tle c30)
          refine lv_aload_n hx hb dX8_costBy_70 rfl (lv_at hl 2 rfl) ?_
          refine va_get (D := (dC, dI)) (ci := 8) (v := .ref nM) (C := RX8) (T := TX8) (N := 53) hx hb hts hin8 hown hK hP 2 rfl rfl 11 (by decide) hw1 (fun _ h9 => h9) rfl dX8_costBy_71 ?_
          refine lv_iload_n hx hb dX8_costBy_74 rfl (lv_at hl 3 rfl) ?_
          refine va_iald hx hb hK hP 1 0 rfl rfl (vin (by omega) (by omega)) dX8_costBy_75 ?_
          refine lv_topi (fun y31 e31 => ?_)
          obtain rfl : gM i0.toNatClampNeg = y31 := e31.symm
          have g31 : 0 ≤ (gM i0.toNatClampNeg).toInt ∧ (gM i0.toNatClampNeg).toInt ≤ 60 := rgI h_gM (by omega) (by omega)
          refine lv_iload_n hx hb dX8_costBy_76 rfl (lv_at hl 5 rfl) ?_
          refine lv_iconst (v := 4) hx hb dX8_costBy_77 (by decide) ?_
          refine lv_iand hx hb dX8_costBy_78 ?_
          refine lv_if_le (tgt := 86) hx hb dX8_costBy_79 (by decide) (fun c32 => ?_) (fun c32 => by exfalso; have t32 : (0 : Int) < (i2 &&& 4).toInt := (tnle c32); omega)
          refine lv_iconst (v := 1) hx hb dX8_costBy_86 (by decide) ?_
          refine lv_imul hx hb dX8_costBy_87 ?_
          refine lv_istore (lv' := [(6, .int ((gM i0.toNatClampNeg) * 1)), (5, .int (((11 * (gQ i0.toNatClampNeg)) * ((4 + (blF mshield i1)) + 1)) * 1)), (4, .int ((4 + (blF mshield i1)) + 1)), (0, .ref n), (1, .int i0), (2, .int i1), (3, .int i2)]) hx hb dX8_costBy_88 hl (by decide) rfl (fun ls hl => ?_)
          refine lv_iload hx hb dX8_costBy_90 (lv_at hl 1 rfl) ?_
          refine lv_iload hx hb dX8_costBy_92 (lv_at hl 0 rfl) ?_
          refine lv_iadd hx hb dX8_costBy_94 ?_
          have hP9 := mx_subP (wc := [(n, .inr (8, [.int mleft, .int mmetres, .int mshut, .int mshield, .int mtoday, .int mbagged, .int mwarmed, .ref nW, .ref nC, .int mmeals, .ref nQ, .ref nM, .ref nD, .ref nA, .ref nK, .int msights, .ref nP, .int mpadMany, .ref nE, .ref nF, .ref nG, .int macts, .int mgusty, .int mleakAct, .int mleakMuch, .int mendOfCan, .int mbadAct, .int mbadWhy, .int mburnt, .int mboiled, .ref nH, .ref nI, .ref nJ, .ref nL, .int mhadLeft, .int mhadToday, .int mhadBagged, .int mhadWarmed, .int mleaves, .int mdayThen, .int mcoldThen, .ref nO, .int mportionMany, .ref nT, .ref nU, .int mleakMany, .int mleakActs, .ref nV, .ref nX, .ref nY, .ref nZ, .int mkeptAt, .int misWriting])), (nQ, .inl (cI, 6, .inl gQ)), (nM, .inl (cI, 6, .inl gM))]) hP [2, 0, 1] rfl
          have hD9 := hD.sub (ws' := [(n, .inr (8, [.int mleft, .int mmetres, .int mshut, .int mshield, .int mtoday, .int mbagged, .int mwarmed, .ref nW, .ref nC, .int mmeals, .ref nQ, .ref nM, .ref nD, .ref nA, .ref nK, .int msights, .ref nP, .int mpadMany, .ref nE, .ref nF, .ref nG, .int macts, .int mgusty, .int mleakAct, .int mleakMuch, .int mendOfCan, .int mbadAct, .int mbadWhy, .int mburnt, .int mboiled, .ref nH, .ref nI, .ref nJ, .ref nL, .int mhadLeft, .int mhadToday, .int mhadBagged, .int mhadWarmed, .int mleaves, .int mdayThen, .int mcoldThen, .ref nO, .int mportionMany, .ref nT, .ref nU, .int mleakMany, .int mleakActs, .ref nV, .ref nX, .ref nY, .ref nZ, .int mkeptAt, .int misWriting])), (nQ, .inl (cI, 6, .inl gQ)), (nM, .inl (cI, 6, .inl gM))]) [2, 0, 1] (by decide) rfl
          exact W.iret (v := ((((11 * (gQ i0.toNatClampNeg)) * ((4 + (blF mshield i1)) + 1)) * 1) + ((gM i0.toNatClampNeg) * 1))) hx hb hr (fun t ht hW => ⟨⟨((((11 * (gQ i0.toNatClampNeg)) * ((4 + (blF mshield i1)) + 1)) * 1) + ((gM i0.toNatClampNeg) * 1)), (), rfl, (by simp only [cbF, if_neg c2, if_pos c26, if_pos c29, if_pos c30, Int32.add_zero]), by rw [ht]; exact hP9, hD9⟩, hS.F ht⟩) hS.2.2 dX8_costBy_95
        · have t30 : (0 : Int) < (i2 &&& 8).toInt := (tnle c30)
          refine lv_iconst (v := 0) hx hb dX8_costBy_66 (by decide) ?_
          refine lv_goto (tgt := 88) hx hb dX8_costBy_67 (by decide) ?_
          refine lv_istore (lv' := [(6, .int 0), (5, .int (((11 * (gQ i0.toNatClampNeg)) * ((4 + (blF mshield i1)) + 1)) * 1)), (4, .int ((4 + (blF mshield i1)) + 1)), (0, .ref n), (1, .int i0), (2, .int i1), (3, .int i2)]) hx hb dX8_costBy_88 hl (by decide) rfl (fun ls hl => ?_)
          refine lv_iload hx hb dX8_costBy_90 (lv_at hl 1 rfl) ?_
          refine lv_iload hx hb dX8_costBy_92 (lv_at hl 0 rfl) ?_
          refine lv_iadd hx hb dX8_costBy_94 ?_
          refine lv_topi (fun y33 e33 => ?_)
          obtain rfl : ((11 * (gQ i0.toNatClampNeg)) * ((4 + (blF mshield i1)) + 1)) * 1 = y33 := (e33.trans (by simp)).symm
          have hP9 := mx_subP (wc := [(n, .inr (8, [.int mleft, .int mmetres, .int mshut, .int mshield, .int mtoday, .int mbagged, .int mwarmed, .ref nW, .ref nC, .int mmeals, .ref nQ, .ref nM, .ref nD, .ref nA, .ref nK, .int msights, .ref nP, .int mpadMany, .ref nE, .ref nF, .ref nG, .int macts, .int mgusty, .int mleakAct, .int mleakMuch, .int mendOfCan, .int mbadAct, .int mbadWhy, .int mburnt, .int mboiled, .ref nH, .ref nI, .ref nJ, .ref nL, .int mhadLeft, .int mhadToday, .int mhadBagged, .int mhadWarmed, .int mleaves, .int mdayThen, .int mcoldThen, .ref nO, .int mportionMany, .ref nT, .ref nU, .int mleakMany, .int mleakActs, .ref nV, .ref nX, .ref nY, .ref nZ, .int mkeptAt, .int misWriting])), (nQ, .inl (cI, 6, .inl gQ)), (nM, .inl (cI, 6, .inl gM))]) hP [2, 0, 1] rfl
          have hD9 := hD.sub (ws' := [(n, .inr (8, [.int mleft, .int mmetres, .int mshut, .int mshield, .int mtoday, .int mbagged, .int mwarmed, .ref nW, .ref nC, .int mmeals, .ref nQ, .ref nM, .ref nD, .ref nA, .ref nK, .int msights, .ref nP, .int mpadMany, .ref nE, .ref nF, .ref nG, .int macts, .int mgusty, .int mleakAct, .int mleakMuch, .int mendOfCan, .int mbadAct, .int mbadWhy, .int mburnt, .int mboiled, .ref nH, .ref nI, .ref nJ, .ref nL, .int mhadLeft, .int mhadToday, .int mhadBagged, .int mhadWarmed, .int mleaves, .int mdayThen, .int mcoldThen, .ref nO, .int mportionMany, .ref nT, .ref nU, .int mleakMany, .int mleakActs, .ref nV, .ref nX, .ref nY, .ref nZ, .int mkeptAt, .int misWriting])), (nQ, .inl (cI, 6, .inl gQ)), (nM, .inl (cI, 6, .inl gM))]) [2, 0, 1] (by decide) rfl
          exact W.iret (v := (((11 * (gQ i0.toNatClampNeg)) * ((4 + (blF mshield i1)) + 1)) * 1)) hx hb hr (fun t ht hW => ⟨⟨(((11 * (gQ i0.toNatClampNeg)) * ((4 + (blF mshield i1)) + 1)) * 1), (), rfl, (by simp only [cbF, if_neg c2, if_pos c26, if_pos c29, if_neg c30, Int32.add_zero]), by rw [ht]; exact hP9, hD9⟩, hS.F ht⟩) hS.2.2 dX8_costBy_95
      · have t29 : (0 : Int) < (i2 &&& 1).toInt := (tnle c29)
        refine lv_iconst (v := 2) hx hb dX8_costBy_51 (by decide) ?_
        refine lv_goto (tgt := 56) hx hb dX8_costBy_52 (by decide) ?_
        refine lv_imul hx hb dX8_costBy_56 ?_
        refine lv_istore (lv' := [(5, .int (((11 * (gQ i0.toNatClampNeg)) * ((4 + (blF mshield i1)) + 1)) * 2)), (4, .int ((4 + (blF mshield i1)) + 1)), (0, .ref n), (1, .int i0), (2, .int i1), (3, .int i2)]) hx hb dX8_costBy_57 hl (by decide) rfl (fun ls hl => ?_)
        refine lv_iload_n hx hb dX8_costBy_59 rfl (lv_at hl 5 rfl) ?_
        refine lv_bipush (v := 8) hx hb dX8_costBy_60 (by decide) ?_
        refine lv_iand hx hb dX8_costBy_62 ?_
        refine lv_if_le (tgt := 70) hx hb dX8_costBy_63 (by decide) (fun c34 => ?_) (fun c34 => ?_)
        · have t34 : (i2 &&& 8).toInt ≤ (0 : Int) := (tle c34)
          refine lv_aload_n hx hb dX8_costBy_70 rfl (lv_at hl 2 rfl) ?_
          refine va_get (D := (dC, dI)) (ci := 8) (v := .ref nM) (C := RX8) (T := TX8) (N := 53) hx hb hts hin8 hown hK hP 2 rfl rfl 11 (by decide) hw1 (fun _ h9 => h9) rfl dX8_costBy_71 ?_
          refine lv_iload_n hx hb dX8_costBy_74 rfl (lv_at hl 3 rfl) ?_
          refine va_iald hx hb hK hP 1 0 rfl rfl (vin (by omega) (by omega)) dX8_costBy_75 ?_
          refine lv_topi (fun y35 e35 => ?_)
          obtain rfl : gM i0.toNatClampNeg = y35 := e35.symm
          have g35 : 0 ≤ (gM i0.toNatClampNeg).toInt ∧ (gM i0.toNatClampNeg).toInt ≤ 60 := rgI h_gM (by omega) (by omega)
          refine lv_iload_n hx hb dX8_costBy_76 rfl (lv_at hl 5 rfl) ?_
          refine lv_iconst (v := 4) hx hb dX8_costBy_77 (by decide) ?_
          refine lv_iand hx hb dX8_costBy_78 ?_
          refine lv_if_le (tgt := 86) hx hb dX8_costBy_79 (by decide) (fun c36 => ?_) (fun c36 => by exfalso; have t36 : (0 : Int) < (i2 &&& 4).toInt := (tnle c36); omega)
          refine lv_iconst (v := 1) hx hb dX8_costBy_86 (by decide) ?_
          refine lv_imul hx hb dX8_costBy_87 ?_
          refine lv_istore (lv' := [(6, .int ((gM i0.toNatClampNeg) * 1)), (5, .int (((11 * (gQ i0.toNatClampNeg)) * ((4 + (blF mshield i1)) + 1)) * 2)), (4, .int ((4 + (blF mshield i1)) + 1)), (0, .ref n), (1, .int i0), (2, .int i1), (3, .int i2)]) hx hb dX8_costBy_88 hl (by decide) rfl (fun ls hl => ?_)
          refine lv_iload hx hb dX8_costBy_90 (lv_at hl 1 rfl) ?_
          refine lv_iload hx hb dX8_costBy_92 (lv_at hl 0 rfl) ?_
          refine lv_iadd hx hb dX8_costBy_94 ?_
          have hP9 := mx_subP (wc := [(n, .inr (8, [.int mleft, .int mmetres, .int mshut, .int mshield, .int mtoday, .int mbagged, .int mwarmed, .ref nW, .ref nC, .int mmeals, .ref nQ, .ref nM, .ref nD, .ref nA, .ref nK, .int msights, .ref nP, .int mpadMany, .ref nE, .ref nF, .ref nG, .int macts, .int mgusty, .int mleakAct, .int mleakMuch, .int mendOfCan, .int mbadAct, .int mbadWhy, .int mburnt, .int mboiled, .ref nH, .ref nI, .ref nJ, .ref nL, .int mhadLeft, .int mhadToday, .int mhadBagged, .int mhadWarmed, .int mleaves, .int mdayThen, .int mcoldThen, .ref nO, .int mportionMany, .ref nT, .ref nU, .int mleakMany, .int mleakActs, .ref nV, .ref nX, .ref nY, .ref nZ, .int mkeptAt, .int misWriting])), (nQ, .inl (cI, 6, .inl gQ)), (nM, .inl (cI, 6, .inl gM))]) hP [2, 0, 1] rfl
          have hD9 := hD.sub (ws' := [(n, .inr (8, [.int mleft, .int mmetres, .int mshut, .int mshield, .int mtoday, .int mbagged, .int mwarmed, .ref nW, .ref nC, .int mmeals, .ref nQ, .ref nM, .ref nD, .ref nA, .ref nK, .int msights, .ref nP, .int mpadMany, .ref nE, .ref nF, .ref nG, .int macts, .int mgusty, .int mleakAct, .int mleakMuch, .int mendOfCan, .int mbadAct, .int mbadWhy, .int mburnt, .int mboiled, .ref nH, .ref nI, .ref nJ, .ref nL, .int mhadLeft, .int mhadToday, .int mhadBagged, .int mhadWarmed, .int mleaves, .int mdayThen, .int mcoldThen, .ref nO, .int mportionMany, .ref nT, .ref nU, .int mleakMany, .int mleakActs, .ref nV, .ref nX, .ref nY, .ref nZ, .int mkeptAt, .int misWriting])), (nQ, .inl (cI, 6, .inl gQ)), (nM, .inl (cI, 6, .inl gM))]) [2, 0, 1] (by decide) rfl
          exact W.iret (v := ((((11 * (gQ i0.toNatClampNeg)) * ((4 + (blF mshield i1)) + 1)) * 2) + ((gM i0.toNatClampNeg) * 1))) hx hb hr (fun t ht hW => ⟨⟨((((11 * (gQ i0.toNatClampNeg)) * ((4 + (blF mshield i1)) + 1)) * 2) + ((gM i0.toNatClampNeg) * 1)), (), rfl, (by simp only [cbF, if_neg c2, if_pos c26, if_neg c29, if_pos c34, Int32.add_zero]), by rw [ht]; exact hP9, hD9⟩, hS.F ht⟩) hS.2.2 dX8_costBy_95
        · have t34 : (0 : Int) < (i2 &&& 8).toInt := (tnle c34)
          refine lv_iconst (v := 0) hx hb dX8_costBy_66 (by decide) ?_
          refine lv_goto (tgt := 88) hx hb dX8_costBy_67 (by decide) ?_
          refine lv_istore (lv' := [(6, .int 0), (5, .int (((11 * (gQ i0.toNatClampNeg)) * ((4 + (blF mshield i1)) + 1)) * 2)), (4, .int ((4 + (blF mshield i1)) + 1)), (0, .ref n), (1, .int i0), (2, .int i1), (3, .int i2)]) hx hb dX8_costBy_88 hl (by decide) rfl (fun ls hl => ?_)
          refine lv_iload hx hb dX8_costBy_90 (lv_at hl 1 rfl) ?_
          refine lv_iload hx hb dX8_costBy_92 (lv_at hl 0 rfl) ?_
          refine lv_iadd hx hb dX8_costBy_94 ?_
          refine lv_topi (fun y37 e37 => ?_)
          obtain rfl : ((11 * (gQ i0.toNatClampNeg)) * ((4 + (blF mshield i1)) + 1)) * 2 = y37 := (e37.trans (by simp)).symm
          have hP9 := mx_subP (wc := [(n, .inr (8, [.int mleft, .int mmetres, .int mshut, .int mshield, .int mtoday, .int mbagged, .int mwarmed, .ref nW, .ref nC, .int mmeals, .ref nQ, .ref nM, .ref nD, .ref nA, .ref nK, .int msights, .ref nP, .int mpadMany, .ref nE, .ref nF, .ref nG, .int macts, .int mgusty, .int mleakAct, .int mleakMuch, .int mendOfCan, .int mbadAct, .int mbadWhy, .int mburnt, .int mboiled, .ref nH, .ref nI, .ref nJ, .ref nL, .int mhadLeft, .int mhadToday, .int mhadBagged, .int mhadWarmed, .int mleaves, .int mdayThen, .int mcoldThen, .ref nO, .int mportionMany, .ref nT, .ref nU, .int mleakMany, .int mleakActs, .ref nV, .ref nX, .ref nY, .ref nZ, .int mkeptAt, .int misWriting])), (nQ, .inl (cI, 6, .inl gQ)), (nM, .inl (cI, 6, .inl gM))]) hP [2, 0, 1] rfl
          have hD9 := hD.sub (ws' := [(n, .inr (8, [.int mleft, .int mmetres, .int mshut, .int mshield, .int mtoday, .int mbagged, .int mwarmed, .ref nW, .ref nC, .int mmeals, .ref nQ, .ref nM, .ref nD, .ref nA, .ref nK, .int msights, .ref nP, .int mpadMany, .ref nE, .ref nF, .ref nG, .int macts, .int mgusty, .int mleakAct, .int mleakMuch, .int mendOfCan, .int mbadAct, .int mbadWhy, .int mburnt, .int mboiled, .ref nH, .ref nI, .ref nJ, .ref nL, .int mhadLeft, .int mhadToday, .int mhadBagged, .int mhadWarmed, .int mleaves, .int mdayThen, .int mcoldThen, .ref nO, .int mportionMany, .ref nT, .ref nU, .int mleakMany, .int mleakActs, .ref nV, .ref nX, .ref nY, .ref nZ, .int mkeptAt, .int misWriting])), (nQ, .inl (cI, 6, .inl gQ)), (nM, .inl (cI, 6, .inl gM))]) [2, 0, 1] (by decide) rfl
          exact W.iret (v := (((11 * (gQ i0.toNatClampNeg)) * ((4 + (blF mshield i1)) + 1)) * 2)) hx hb hr (fun t ht hW => ⟨⟨(((11 * (gQ i0.toNatClampNeg)) * ((4 + (blF mshield i1)) + 1)) * 2), (), rfl, (by simp only [cbF, if_neg c2, if_pos c26, if_neg c29, if_neg c34, Int32.add_zero]), by rw [ht]; exact hP9, hD9⟩, hS.F ht⟩) hS.2.2 dX8_costBy_95
    · have t26 : (0 : Int) < (i2 &&& 4).toInt := (tnle c26)
      refine lv_iconst (v := 1) hx hb dX8_costBy_25 (by decide) ?_
      refine lv_goto (tgt := 30) hx hb dX8_costBy_26 (by decide) ?_
      refine lv_iadd hx hb dX8_costBy_30 ?_
      refine lv_istore (lv' := [(4, .int (((4 + (blF mshield i1)) + 1) + 1)), (0, .ref n), (1, .int i0), (2, .int i1), (3, .int i2)]) hx hb dX8_costBy_31 hl (by decide) rfl (fun ls hl => ?_)
      refine lv_bipush (v := 11) hx hb dX8_costBy_33 (by decide) ?_
      refine lv_aload_n hx hb dX8_costBy_35 rfl (lv_at hl 1 rfl) ?_
      refine va_get (D := (dC, dI)) (ci := 8) (v := .ref nQ) (C := RX8) (T := TX8) (N := 53) hx hb hts hin8 hown hK hP 2 rfl rfl 10 (by decide) hw0 (fun _ h9 => h9) rfl dX8_costBy_36 ?_
      refine lv_iload_n hx hb dX8_costBy_39 rfl (lv_at hl 2 rfl) ?_
      refine va_iald hx hb hK hP 0 0 rfl rfl (vin (by omega) (by omega)) dX8_costBy_40 ?_
      refine lv_topi (fun y38 e38 => ?_)
      obtain rfl : gQ i0.toNatClampNeg = y38 := e38.symm
      have g38 : 0 ≤ (gQ i0.toNatClampNeg).toInt ∧ (gQ i0.toNatClampNeg).toInt ≤ 4 := rgI h_gQ (by omega) (by omega)
      refine lv_imul hx hb dX8_costBy_41 ?_
      refine lv_iload hx hb dX8_costBy_42 (lv_at hl 0 rfl) ?_
      refine lv_imul hx hb dX8_costBy_44 ?_
      refine lv_iload_n hx hb dX8_costBy_45 rfl (lv_at hl 4 rfl) ?_
      refine lv_iconst (v := 1) hx hb dX8_costBy_46 (by decide) ?_
      refine lv_iand hx hb dX8_costBy_47 ?_
      refine lv_if_le (tgt := 55) hx hb dX8_costBy_48 (by decide) (fun c39 => ?_) (fun c39 => ?_)
      · have t39 : (i2 &&& 1).toInt ≤ (0 : Int) := (tle c39)
        refine lv_iconst (v := 1) hx hb dX8_costBy_55 (by decide) ?_
        refine lv_imul hx hb dX8_costBy_56 ?_
        refine lv_istore (lv' := [(5, .int (((11 * (gQ i0.toNatClampNeg)) * (((4 + (blF mshield i1)) + 1) + 1)) * 1)), (4, .int (((4 + (blF mshield i1)) + 1) + 1)), (0, .ref n), (1, .int i0), (2, .int i1), (3, .int i2)]) hx hb dX8_costBy_57 hl (by decide) rfl (fun ls hl => ?_)
        refine lv_iload_n hx hb dX8_costBy_59 rfl (lv_at hl 5 rfl) ?_
        refine lv_bipush (v := 8) hx hb dX8_costBy_60 (by decide) ?_
        refine lv_iand hx hb dX8_costBy_62 ?_
        refine lv_if_le (tgt := 70) hx hb dX8_costBy_63 (by decide) (fun c40 => ?_) (fun c40 => ?_)
        · have t40 : (i2 &&& 8).toInt ≤ (0 : Int) := (tle c40)
          refine lv_aload_n hx hb dX8_costBy_70 rfl (lv_at hl 2 rfl) ?_
          refine va_get (D := (dC, dI)) (ci := 8) (v := .ref nM) (C := RX8) (T := TX8) (N := 53) hx hb hts hin8 hown hK hP 2 rfl rfl 11 (by decide) hw1 (fun _ h9 => h9) rfl dX8_costBy_71 ?_
          refine lv_iload_n hx hb dX8_costBy_74 rfl (lv_at hl 3 rfl) ?_
          refine va_iald hx hb hK hP 1 0 rfl rfl (vin (by omega) (by omega)) dX8_costBy_75 ?_
          refine lv_topi (fun y41 e41 => ?_)
          obtain rfl : gM i0.toNatClampNeg = y41 := e41.symm
          have g41 : 0 ≤ (gM i0.toNatClampNeg).toInt ∧ (gM i0.toNatClampNeg).toInt ≤ 60 := rgI h_gM (by omega) (by omega)
          refine lv_iload_n hx hb dX8_costBy_76 rfl (lv_at hl 5 rfl) ?_
          refine lv_iconst (v := 4) hx hb dX8_costBy_77 (by decide) ?_
          refine lv_iand hx hb dX8_costBy_78 ?_
          refine lv_if_le (tgt := 86) hx hb dX8_costBy_79 (by decide) (fun c42 => by exfalso; have t42 : (i2 &&& 4).toInt ≤ (0 : Int) := (tle c42); omega) (fun c42 => ?_)
          refine lv_iconst (v := 2) hx hb dX8_costBy_82 (by decide) ?_
          refine lv_goto (tgt := 87) hx hb dX8_costBy_83 (by decide) ?_
          refine lv_imul hx hb dX8_costBy_87 ?_
          refine lv_istore (lv' := [(6, .int ((gM i0.toNatClampNeg) * 2)), (5, .int (((11 * (gQ i0.toNatClampNeg)) * (((4 + (blF mshield i1)) + 1) + 1)) * 1)), (4, .int (((4 + (blF mshield i1)) + 1) + 1)), (0, .ref n), (1, .int i0), (2, .int i1), (3, .int i2)]) hx hb dX8_costBy_88 hl (by decide) rfl (fun ls hl => ?_)
          refine lv_iload hx hb dX8_costBy_90 (lv_at hl 1 rfl) ?_
          refine lv_iload hx hb dX8_costBy_92 (lv_at hl 0 rfl) ?_
          refine lv_iadd hx hb dX8_costBy_94 ?_
          have hP9 := mx_subP (wc := [(n, .inr (8, [.int mleft, .int mmetres, .int mshut, .int mshield, .int mtoday, .int mbagged, .int mwarmed, .ref nW, .ref nC, .int mmeals, .ref nQ, .ref nM, .ref nD, .ref nA, .ref nK, .int msights, .ref nP, .int mpadMany, .ref nE, .ref nF, .ref nG, .int macts, .int mgusty, .int mleakAct, .int mleakMuch, .int mendOfCan, .int mbadAct, .int mbadWhy, .int mburnt, .int mboiled, .ref nH, .ref nI, .ref nJ, .ref nL, .int mhadLeft, .int mhadToday, .int mhadBagged, .int mhadWarmed, .int mleaves, .int mdayThen, .int mcoldThen, .ref nO, .int mportionMany, .ref nT, .ref nU, .int mleakMany, .int mleakActs, .ref nV, .ref nX, .ref nY, .ref nZ, .int mkeptAt, .int misWriting])), (nQ, .inl (cI, 6, .inl gQ)), (nM, .inl (cI, 6, .inl gM))]) hP [2, 0, 1] rfl
          have hD9 := hD.sub (ws' := [(n, .inr (8, [.int mleft, .int mmetres, .int mshut, .int mshield, .int mtoday, .int mbagged, .int mwarmed, .ref nW, .ref nC, .int mmeals, .ref nQ, .ref nM, .ref nD, .ref nA, .ref nK, .int msights, .ref nP, .int mpadMany, .ref nE, .ref nF, .ref nG, .int macts, .int mgusty, .int mleakAct, .int mleakMuch, .int mendOfCan, .int mbadAct, .int mbadWhy, .int mburnt, .int mboiled, .ref nH, .ref nI, .ref nJ, .ref nL, .int mhadLeft, .int mhadToday, .int mhadBagged, .int mhadWarmed, .int mleaves, .int mdayThen, .int mcoldThen, .ref nO, .int mportionMany, .ref nT, .ref nU, .int mleakMany, .int mleakActs, .ref nV, .ref nX, .ref nY, .ref nZ, .int mkeptAt, .int misWriting])), (nQ, .inl (cI, 6, .inl gQ)), (nM, .inl (cI, 6, .inl gM))]) [2, 0, 1] (by decide) rfl
          exact W.iret (v := ((((11 * (gQ i0.toNatClampNeg)) * (((4 + (blF mshield i1)) + 1) + 1)) * 1) + ((gM i0.toNatClampNeg) * 2))) hx hb hr (fun t ht hW => ⟨⟨((((11 * (gQ i0.toNatClampNeg)) * (((4 + (blF mshield i1)) + 1) + 1)) * 1) + ((gM i0.toNatClampNeg) * 2)), (), rfl, (by simp only [cbF, if_neg c2, if_neg c26, if_pos c39, if_pos c40, Int32.add_zero]), by rw [ht]; exact hP9, hD9⟩, hS.F ht⟩) hS.2.2 dX8_costBy_95
        · have t40 : (0 : Int) < (i2 &&& 8).toInt := (tnle c40)
          refine lv_iconst (v := 0) hx hb dX8_costBy_66 (by decide) ?_
          refine lv_goto (tgt := 88) hx hb dX8_costBy_67 (by decide) ?_
          refine lv_istore (lv' := [(6, .int 0), (5, .int (((11 * (gQ i0.toNatClampNeg)) * (((4 + (blF mshield i1)) + 1) + 1)) * 1)), (4, .int (((4 + (blF mshield i1)) + 1) + 1)), (0, .ref n), (1, .int i0), (2, .int i1), (3, .int i2)]) hx hb dX8_costBy_88 hl (by decide) rfl (fun ls hl => ?_)
          refine lv_iload hx hb dX8_costBy_90 (lv_at hl 1 rfl) ?_
          refine lv_iload hx hb dX8_costBy_92 (lv_at hl 0 rfl) ?_
          refine lv_iadd hx hb dX8_costBy_94 ?_
          refine lv_topi (fun y43 e43 => ?_)
          obtain rfl : ((11 * (gQ i0.toNatClampNeg)) * (((4 + (blF mshield i1)) + 1) + 1)) * 1 = y43 := (e43.trans (by simp)).symm
          have hP9 := mx_subP (wc := [(n, .inr (8, [.int mleft, .int mmetres, .int mshut, .int mshield, .int mtoday, .int mbagged, .int mwarmed, .ref nW, .ref nC, .int mmeals, .ref nQ, .ref nM, .ref nD, .ref nA, .ref nK, .int msights, .ref nP, .int mpadMany, .ref nE, .ref nF, .ref nG, .int macts, .int mgusty, .int mleakAct, .int mleakMuch, .int mendOfCan, .int mbadAct, .int mbadWhy, .int mburnt, .int mboiled, .ref nH, .ref nI, .ref nJ, .ref nL, .int mhadLeft, .int mhadToday, .int mhadBagged, .int mhadWarmed, .int mleaves, .int mdayThen, .int mcoldThen, .ref nO, .int mportionMany, .ref nT, .ref nU, .int mleakMany, .int mleakActs, .ref nV, .ref nX, .ref nY, .ref nZ, .int mkeptAt, .int misWriting])), (nQ, .inl (cI, 6, .inl gQ)), (nM, .inl (cI, 6, .inl gM))]) hP [2, 0, 1] rfl
          have hD9 := hD.sub (ws' := [(n, .inr (8, [.int mleft, .int mmetres, .int mshut, .int mshield, .int mtoday, .int mbagged, .int mwarmed, .ref nW, .ref nC, .int mmeals, .ref nQ, .ref nM, .ref nD, .ref nA, .ref nK, .int msights, .ref nP, .int mpadMany, .ref nE, .ref nF, .ref nG, .int macts, .int mgusty, .int mleakAct, .int mleakMuch, .int mendOfCan, .int mbadAct, .int mbadWhy, .int mburnt, .int mboiled, .ref nH, .ref nI, .ref nJ, .ref nL, .int mhadLeft, .int mhadToday, .int mhadBagged, .int mhadWarmed, .int mleaves, .int mdayThen, .int mcoldThen, .ref nO, .int mportionMany, .ref nT, .ref nU, .int mleakMany, .int mleakActs, .ref nV, .ref nX, .ref nY, .ref nZ, .int mkeptAt, .int misWriting])), (nQ, .inl (cI, 6, .inl gQ)), (nM, .inl (cI, 6, .inl gM))]) [2, 0, 1] (by decide) rfl
          exact W.iret (v := (((11 * (gQ i0.toNatClampNeg)) * (((4 + (blF mshield i1)) + 1) + 1)) * 1)) hx hb hr (fun t ht hW => ⟨⟨(((11 * (gQ i0.toNatClampNeg)) * (((4 + (blF mshield i1)) + 1) + 1)) * 1), (), rfl, (by simp only [cbF, if_neg c2, if_neg c26, if_pos c39, if_neg c40, Int32.add_zero]), by rw [ht]; exact hP9, hD9⟩, hS.F ht⟩) hS.2.2 dX8_costBy_95
      · have t39 : (0 : Int) < (i2 &&& 1).toInt := (tnle c39)
        refine lv_iconst (v := 2) hx hb dX8_costBy_51 (by decide) ?_
        refine lv_goto (tgt := 56) hx hb dX8_costBy_52 (by decide) ?_
        refine lv_imul hx hb dX8_costBy_56 ?_
        refine lv_istore (lv' := [(5, .int (((11 * (gQ i0.toNatClampNeg)) * (((4 + (blF mshield i1)) + 1) + 1)) * 2)), (4, .int (((4 + (blF mshield i1)) + 1) + 1)), (0, .ref n), (1, .int i0), (2, .int i1), (3, .int i2)]) hx hb dX8_costBy_57 hl (by decide) rfl (fun ls hl => ?_)
        refine lv_iload_n hx hb dX8_costBy_59 rfl (lv_at hl 5 rfl) ?_
        refine lv_bipush (v := 8) hx hb dX8_costBy_60 (by decide) ?_
        refine lv_iand hx hb dX8_costBy_62 ?_
        refine lv_if_le (tgt := 70) hx hb dX8_costBy_63 (by decide) (fun c44 => ?_) (fun c44 => ?_)
        · have t44 : (i2 &&& 8).toInt ≤ (0 : Int) := (tle c44)
          refine lv_aload_n hx hb dX8_costBy_70 rfl (lv_at hl 2 rfl) ?_
          refine va_get (D := (dC, dI)) (ci := 8) (v := .ref nM) (C := RX8) (T := TX8) (N := 53) hx hb hts hin8 hown hK hP 2 rfl rfl 11 (by decide) hw1 (fun _ h9 => h9) rfl dX8_costBy_71 ?_
          refine lv_iload_n hx hb dX8_costBy_74 rfl (lv_at hl 3 rfl) ?_
          refine va_iald hx hb hK hP 1 0 rfl rfl (vin (by omega) (by omega)) dX8_costBy_75 ?_
          refine lv_topi (fun y45 e45 => ?_)
          obtain rfl : gM i0.toNatClampNeg = y45 := e45.symm
          have g45 : 0 ≤ (gM i0.toNatClampNeg).toInt ∧ (gM i0.toNatClampNeg).toInt ≤ 60 := rgI h_gM (by omega) (by omega)
          refine lv_iload_n hx hb dX8_costBy_76 rfl (lv_at hl 5 rfl) ?_
          refine lv_iconst (v := 4) hx hb dX8_costBy_77 (by decide) ?_
          refine lv_iand hx hb dX8_costBy_78 ?_
          refine lv_if_le (tgt := 86) hx hb dX8_costBy_79 (by decide) (fun c46 => by exfalso; have t46 : (i2 &&& 4).toInt ≤ (0 : Int) := (tle c46); omega) (fun c46 => ?_)
          refine lv_iconst (v := 2) hx hb dX8_costBy_82 (by decide) ?_
          refine lv_goto (tgt := 87) hx hb dX8_costBy_83 (by decide) ?_
          refine lv_imul hx hb dX8_costBy_87 ?_
          refine lv_istore (lv' := [(6, .int ((gM i0.toNatClampNeg) * 2)), (5, .int (((11 * (gQ i0.toNatClampNeg)) * (((4 + (blF mshield i1)) + 1) + 1)) * 2)), (4, .int (((4 + (blF mshield i1)) + 1) + 1)), (0, .ref n), (1, .int i0), (2, .int i1), (3, .int i2)]) hx hb dX8_costBy_88 hl (by decide) rfl (fun ls hl => ?_)
          refine lv_iload hx hb dX8_costBy_90 (lv_at hl 1 rfl) ?_
          refine lv_iload hx hb dX8_costBy_92 (lv_at hl 0 rfl) ?_
          refine lv_iadd hx hb dX8_costBy_94 ?_
          have hP9 := mx_subP (wc := [(n, .inr (8, [.int mleft, .int mmetres, .int mshut, .int mshield, .int mtoday, .int mbagged, .int mwarmed, .ref nW, .ref nC, .int mmeals, .ref nQ, .ref nM, .ref nD, .ref nA, .ref nK, .int msights, .ref nP, .int mpadMany, .ref nE, .ref nF, .ref nG, .int macts, .int mgusty, .int mleakAct, .int mleakMuch, .int mendOfCan, .int mbadAct, .int mbadWhy, .int mburnt, .int mboiled, .ref nH, .ref nI, .ref nJ, .ref nL, .int mhadLeft, .int mhadToday, .int mhadBagged, .int mhadWarmed, .int mleaves, .int mdayThen, .int mcoldThen, .ref nO, .int mportionMany, .ref nT, .ref nU, .int mleakMany, .int mleakActs, .ref nV, .ref nX, .ref nY, .ref nZ, .int mkeptAt, .int misWriting])), (nQ, .inl (cI, 6, .inl gQ)), (nM, .inl (cI, 6, .inl gM))]) hP [2, 0, 1] rfl
          have hD9 := hD.sub (ws' := [(n, .inr (8, [.int mleft, .int mmetres, .int mshut, .int mshield, .int mtoday, .int mbagged, .int mwarmed, .ref nW, .ref nC, .int mmeals, .ref nQ, .ref nM, .ref nD, .ref nA, .ref nK, .int msights, .ref nP, .int mpadMany, .ref nE, .ref nF, .ref nG, .int macts, .int mgusty, .int mleakAct, .int mleakMuch, .int mendOfCan, .int mbadAct, .int mbadWhy, .int mburnt, .int mboiled, .ref nH, .ref nI, .ref nJ, .ref nL, .int mhadLeft, .int mhadToday, .int mhadBagged, .int mhadWarmed, .int mleaves, .int mdayThen, .int mcoldThen, .ref nO, .int mportionMany, .ref nT, .ref nU, .int mleakMany, .int mleakActs, .ref nV, .ref nX, .ref nY, .ref nZ, .int mkeptAt, .int misWriting])), (nQ, .inl (cI, 6, .inl gQ)), (nM, .inl (cI, 6, .inl gM))]) [2, 0, 1] (by decide) rfl
          exact W.iret (v := ((((11 * (gQ i0.toNatClampNeg)) * (((4 + (blF mshield i1)) + 1) + 1)) * 2) + ((gM i0.toNatClampNeg) * 2))) hx hb hr (fun t ht hW => ⟨⟨((((11 * (gQ i0.toNatClampNeg)) * (((4 + (blF mshield i1)) + 1) + 1)) * 2) + ((gM i0.toNatClampNeg) * 2)), (), rfl, (by simp only [cbF, if_neg c2, if_neg c26, if_neg c39, if_pos c44, Int32.add_zero]), by rw [ht]; exact hP9, hD9⟩, hS.F ht⟩) hS.2.2 dX8_costBy_95
        · have t44 : (0 : Int) < (i2 &&& 8).toInt := (tnle c44)
          refine lv_iconst (v := 0) hx hb dX8_costBy_66 (by decide) ?_
          refine lv_goto (tgt := 88) hx hb dX8_costBy_67 (by decide) ?_
          refine lv_istore (lv' := [(6, .int 0), (5, .int (((11 * (gQ i0.toNatClampNeg)) * (((4 + (blF mshield i1)) + 1) + 1)) * 2)), (4, .int (((4 + (blF mshield i1)) + 1) + 1)), (0, .ref n), (1, .int i0), (2, .int i1), (3, .int i2)]) hx hb dX8_costBy_88 hl (by decide) rfl (fun ls hl => ?_)
          refine lv_iload hx hb dX8_costBy_90 (lv_at hl 1 rfl) ?_
          refine lv_iload hx hb dX8_costBy_92 (lv_at hl 0 rfl) ?_
          refine lv_iadd hx hb dX8_costBy_94 ?_
          refine lv_topi (fun y47 e47 => ?_)
          obtain rfl : ((11 * (gQ i0.toNatClampNeg)) * (((4 + (blF mshield i1)) + 1) + 1)) * 2 = y47 := (e47.trans (by simp)).symm
          have hP9 := mx_subP (wc := [(n, .inr (8, [.int mleft, .int mmetres, .int mshut, .int mshield, .int mtoday, .int mbagged, .int mwarmed, .ref nW, .ref nC, .int mmeals, .ref nQ, .ref nM, .ref nD, .ref nA, .ref nK, .int msights, .ref nP, .int mpadMany, .ref nE, .ref nF, .ref nG, .int macts, .int mgusty, .int mleakAct, .int mleakMuch, .int mendOfCan, .int mbadAct, .int mbadWhy, .int mburnt, .int mboiled, .ref nH, .ref nI, .ref nJ, .ref nL, .int mhadLeft, .int mhadToday, .int mhadBagged, .int mhadWarmed, .int mleaves, .int mdayThen, .int mcoldThen, .ref nO, .int mportionMany, .ref nT, .ref nU, .int mleakMany, .int mleakActs, .ref nV, .ref nX, .ref nY, .ref nZ, .int mkeptAt, .int misWriting])), (nQ, .inl (cI, 6, .inl gQ)), (nM, .inl (cI, 6, .inl gM))]) hP [2, 0, 1] rfl
          have hD9 := hD.sub (ws' := [(n, .inr (8, [.int mleft, .int mmetres, .int mshut, .int mshield, .int mtoday, .int mbagged, .int mwarmed, .ref nW, .ref nC, .int mmeals, .ref nQ, .ref nM, .ref nD, .ref nA, .ref nK, .int msights, .ref nP, .int mpadMany, .ref nE, .ref nF, .ref nG, .int macts, .int mgusty, .int mleakAct, .int mleakMuch, .int mendOfCan, .int mbadAct, .int mbadWhy, .int mburnt, .int mboiled, .ref nH, .ref nI, .ref nJ, .ref nL, .int mhadLeft, .int mhadToday, .int mhadBagged, .int mhadWarmed, .int mleaves, .int mdayThen, .int mcoldThen, .ref nO, .int mportionMany, .ref nT, .ref nU, .int mleakMany, .int mleakActs, .ref nV, .ref nX, .ref nY, .ref nZ, .int mkeptAt, .int misWriting])), (nQ, .inl (cI, 6, .inl gQ)), (nM, .inl (cI, 6, .inl gM))]) [2, 0, 1] (by decide) rfl
          exact W.iret (v := (((11 * (gQ i0.toNatClampNeg)) * (((4 + (blF mshield i1)) + 1) + 1)) * 2)) hx hb hr (fun t ht hW => ⟨⟨(((11 * (gQ i0.toNatClampNeg)) * (((4 + (blF mshield i1)) + 1) + 1)) * 2), (), rfl, (by simp only [cbF, if_neg c2, if_neg c26, if_neg c39, if_neg c44, Int32.add_zero]), by rw [ht]; exact hP9, hD9⟩, hS.F ht⟩) hS.2.2 dX8_costBy_95
set_option maxHeartbeats 4000000 in
set_option maxRecDepth 100000 in
theorem c_X8_windOn (l : Launch) (dC : Nat → ClassId) (dI : Nat → Nat → Nat) (cI cZ cK : ClassId) (tS : Nat) (aK aV : Nat → Nat) (n : Nat) (i0 : Int32) (mleft : Int32) (mmetres : Int32) (mshut : Int32) (mshield : Int32) (mtoday : Int32) (mbagged : Int32) (mwarmed : Int32) (nW : Nat) (nC : Nat) (mmeals : Int32) (nQ : Nat) (nM : Nat) (nD : Nat) (nA : Nat) (nK : Nat) (msights : Int32) (nP : Nat) (mpadMany : Int32) (nE : Nat) (nF : Nat) (nG : Nat) (macts : Int32) (mgusty : Int32) (mleakAct : Int32) (mleakMuch : Int32) (mendOfCan : Int32) (mbadAct : Int32) (mbadWhy : Int32) (mburnt : Int32) (mboiled : Int32) (nH : Nat) (nI : Nat) (nJ : Nat) (nL : Nat) (mhadLeft : Int32) (mhadToday : Int32) (mhadBagged : Int32) (mhadWarmed : Int32) (mleaves : Int32) (mdayThen : Int32) (mcoldThen : Int32) (nO : Nat) (mportionMany : Int32) (nT : Nat) (nU : Nat) (mleakMany : Int32) (mleakActs : Int32) (nV : Nat) (nX : Nat) (nY : Nat) (nZ : Nat) (mkeptAt : Int32) (misWriting : Int32) (gW : Nat → Int32) (sz : Nat) (h_gW : rg gW 14 0 4) (h_i0 : 0 ≤ i0.toInt ∧ i0.toInt ≤ 13) : Ci l yX8_windOn (wq yX8_windOn cX8_windOn 3 (some .int)) ({ frames := 0, cells := 0, slots := 0, locals := 0 }) dC dI cI cZ cK tS aK aV [.ref n, .int i0] sz [(n, .inr (8, [.int mleft, .int mmetres, .int mshut, .int mshield, .int mtoday, .int mbagged, .int mwarmed, .ref nW, .ref nC, .int mmeals, .ref nQ, .ref nM, .ref nD, .ref nA, .ref nK, .int msights, .ref nP, .int mpadMany, .ref nE, .ref nF, .ref nG, .int macts, .int mgusty, .int mleakAct, .int mleakMuch, .int mendOfCan, .int mbadAct, .int mbadWhy, .int mburnt, .int mboiled, .ref nH, .ref nI, .ref nJ, .ref nL, .int mhadLeft, .int mhadToday, .int mhadBagged, .int mhadWarmed, .int mleaves, .int mdayThen, .int mcoldThen, .ref nO, .int mportionMany, .ref nT, .ref nU, .int mleakMany, .int mleakActs, .ref nV, .ref nX, .ref nY, .ref nZ, .int mkeptAt, .int misWriting])), (nW, .inl (cI, 14, .inl gW))] (fun (r : Int32) (u : Unit) => (r = (wnF mgusty (gW i0.toNatClampNeg) i0))) (fun _ => [(n, .inr (8, [.int mleft, .int mmetres, .int mshut, .int mshield, .int mtoday, .int mbagged, .int mwarmed, .ref nW, .ref nC, .int mmeals, .ref nQ, .ref nM, .ref nD, .ref nA, .ref nK, .int msights, .ref nP, .int mpadMany, .ref nE, .ref nF, .ref nG, .int macts, .int mgusty, .int mleakAct, .int mleakMuch, .int mendOfCan, .int mbadAct, .int mbadWhy, .int mburnt, .int mboiled, .ref nH, .ref nI, .ref nJ, .ref nL, .int mhadLeft, .int mhadToday, .int mhadBagged, .int mhadWarmed, .int mleaves, .int mdayThen, .int mcoldThen, .ref nO, .int mportionMany, .ref nT, .ref nU, .int mleakMany, .int mleakActs, .ref nV, .ref nX, .ref nY, .ref nZ, .int mkeptAt, .int misWriting])), (nW, .inl (cI, 14, .inl gW))]) := by
  refine Met.ofW (cc := cX8_windOn) (maxL := 3) (ret := (some .int)) (by decide) rfl ?_
  intro p e s m args below meth c s₁ B hml hv
  obtain ⟨rfl, hsz, hP, hKx, hD0⟩ := hv
  have hx := B.exec
  have hb := B.bytes
  have hr := B.returns
  have hts := atoms_spec (ws := wq yX8_windOn cX8_windOn 3 (some .int)) B.pre
  have hown : s.vm.findClass RX8 = some m.cls := findClass_of_methodNamed B.named
  have hlocks := B.notSynchronized
  subst hsz
  have hD := hD0.self (sz := s.heap.size)
  generalize hAe : va_A [(n, .inr (8, [.int mleft, .int mmetres, .int mshut, .int mshield, .int mtoday, .int mbagged, .int mwarmed, .ref nW, .ref nC, .int mmeals, .ref nQ, .ref nM, .ref nD, .ref nA, .ref nK, .int msights, .ref nP, .int mpadMany, .ref nE, .ref nF, .ref nG, .int macts, .int mgusty, .int mleakAct, .int mleakMuch, .int mendOfCan, .int mbadAct, .int mbadWhy, .int mburnt, .int mboiled, .ref nH, .ref nI, .ref nJ, .ref nL, .int mhadLeft, .int mhadToday, .int mhadBagged, .int mhadWarmed, .int mleaves, .int mdayThen, .int mcoldThen, .ref nO, .int mportionMany, .ref nT, .ref nU, .int mleakMany, .int mleakActs, .ref nV, .ref nX, .ref nY, .ref nZ, .int mkeptAt, .int misWriting])), (nW, .inl (cI, 14, .inl gW))] s.heap.size = A at hD hKx ⊢
  have hA : ∀ q : Nat, s.heap.size ≤ q → A q := fun q h => by rw [← hAe]; exact Or.inr h
  have hS : va_S A s.heap s.heap [] := va_S.rf
  have hP : va_P (dC, dI) vwCl [(n, .inr (8, [.int mleft, .int mmetres, .int mshut, .int mshield, .int mtoday, .int mbagged, .int mwarmed, .ref nW, .ref nC, .int mmeals, .ref nQ, .ref nM, .ref nD, .ref nA, .ref nK, .int msights, .ref nP, .int mpadMany, .ref nE, .ref nF, .ref nG, .int macts, .int mgusty, .int mleakAct, .int mleakMuch, .int mendOfCan, .int mbadAct, .int mbadWhy, .int mburnt, .int mboiled, .ref nH, .ref nI, .ref nJ, .ref nL, .int mhadLeft, .int mhadToday, .int mhadBagged, .int mhadWarmed, .int mleaves, .int mdayThen, .int mcoldThen, .ref nO, .int mportionMany, .ref nT, .ref nU, .int mleakMany, .int mleakActs, .ref nV, .ref nX, .ref nY, .ref nZ, .int mkeptAt, .int misWriting])), (nW, .inl (cI, 14, .inl gW))] s.heap := hP
  have hl := lv_entry ([.ref n, .int i0]) (n := 3) (Nat.le_of_ble_eq_true rfl)
  rw [lg_entry_eq]
  generalize (lg_sl ([.ref n, .int i0]) ++ List.replicate (3 - (lg_sl ([.ref n, .int i0])).length) Slot.unset).toArray = ls at hl ⊢
  have hl : lv_has ls 3 [(0, .ref n), (1, .int i0)] := hl
  have hK := hKx.1
  have hin8 := fun w9 h9 => List.mem_cons_of_mem (Cond.code yX8_windOn cX8_windOn 3 (some .int)) (inlX8 w9 h9)
  have hw0 := hts (.fieldLink RX8 7 "OneCanModel" "wind" "[I") (List.mem_cons_of_mem _ wm_112)
  have hw1 := hts (.fieldLink RX8 153 "OneCanModel" "gusty" "I") (List.mem_cons_of_mem _ wm_452)
  refine lv_aload_n hx hb dX8_windOn_0 rfl (lv_at hl 0 rfl) ?_
  refine va_get (D := (dC, dI)) (ci := 8) (v := .ref nW) (C := RX8) (T := TX8) (N := 53) hx hb hts hin8 hown hK hP 0 rfl rfl 7 (by decide) hw0 (fun _ h9 => h9) rfl dX8_windOn_1 ?_
  refine lv_iload_n hx hb dX8_windOn_4 rfl (lv_at hl 1 rfl) ?_
  refine va_iald hx hb hK hP 1 0 rfl rfl (vin (by omega) (by omega)) dX8_windOn_5 ?_
  refine lv_topi (fun y1 e1 => ?_)
  obtain rfl : gW i0.toNatClampNeg = y1 := e1.symm
  have g1 : 0 ≤ (gW i0.toNatClampNeg).toInt ∧ (gW i0.toNatClampNeg).toInt ≤ 4 := rgI h_gW (by omega) (by omega)
  refine lv_aload_n hx hb dX8_windOn_6 rfl (lv_at hl 0 rfl) ?_
  refine va_get (D := (dC, dI)) (ci := 8) (v := .int mgusty) (C := RX8) (T := TX8) (N := 53) hx hb hts hin8 hown hK hP 0 rfl rfl 22 (by decide) hw1 (fun _ h9 => h9) rfl dX8_windOn_7 ?_
  refine lv_iload_n hx hb dX8_windOn_10 rfl (lv_at hl 1 rfl) ?_
  refine lv_ishr hx hb dX8_windOn_11 ?_
  refine lv_iconst (v := 1) hx hb dX8_windOn_12 (by decide) ?_
  refine lv_iand hx hb dX8_windOn_13 ?_
  refine lv_iconst (v := 1) hx hb dX8_windOn_14 (by decide) ?_
  refine lv_icmp_ne (tgt := 22) hx hb dX8_windOn_15 (by decide) (fun c2 => ?_) (fun c2 => ?_)
  · have t2 : ((mgusty >>> (i0 &&& 31)) &&& 1).toInt ≠ (1 : Int) := (tne c2)
    refine lv_iconst (v := 0) hx hb dX8_windOn_22 (by decide) ?_
    refine lv_iadd hx hb dX8_windOn_23 ?_
    refine lv_topi (fun y3 e3 => ?_)
    obtain rfl : gW i0.toNatClampNeg = y3 := (e3.trans (by simp)).symm
    refine lv_istore_n (lv' := [(2, .int (gW i0.toNatClampNeg)), (0, .ref n), (1, .int i0)]) hx hb dX8_windOn_24 rfl hl (by decide) rfl (fun ls hl => ?_)
    refine lv_iload_n hx hb dX8_windOn_25 rfl (lv_at hl 0 rfl) ?_
    refine lv_iconst (v := 4) hx hb dX8_windOn_26 (by decide) ?_
    refine lv_icmp_le (tgt := 34) hx hb dX8_windOn_27 (by decide) (fun c4 => ?_) (fun c4 => by exfalso; have t4 : (4 : Int) < (gW i0.toNatClampNeg).toInt := (tnle c4); omega)
    refine lv_iload_n hx hb dX8_windOn_34 rfl (lv_at hl 0 rfl) ?_
    have hP9 := mx_subP (wc := [(n, .inr (8, [.int mleft, .int mmetres, .int mshut, .int mshield, .int mtoday, .int mbagged, .int mwarmed, .ref nW, .ref nC, .int mmeals, .ref nQ, .ref nM, .ref nD, .ref nA, .ref nK, .int msights, .ref nP, .int mpadMany, .ref nE, .ref nF, .ref nG, .int macts, .int mgusty, .int mleakAct, .int mleakMuch, .int mendOfCan, .int mbadAct, .int mbadWhy, .int mburnt, .int mboiled, .ref nH, .ref nI, .ref nJ, .ref nL, .int mhadLeft, .int mhadToday, .int mhadBagged, .int mhadWarmed, .int mleaves, .int mdayThen, .int mcoldThen, .ref nO, .int mportionMany, .ref nT, .ref nU, .int mleakMany, .int mleakActs, .ref nV, .ref nX, .ref nY, .ref nZ, .int mkeptAt, .int misWriting])), (nW, .inl (cI, 14, .inl gW))]) hP [0, 1] rfl
    have hD9 := hD.sub (ws' := [(n, .inr (8, [.int mleft, .int mmetres, .int mshut, .int mshield, .int mtoday, .int mbagged, .int mwarmed, .ref nW, .ref nC, .int mmeals, .ref nQ, .ref nM, .ref nD, .ref nA, .ref nK, .int msights, .ref nP, .int mpadMany, .ref nE, .ref nF, .ref nG, .int macts, .int mgusty, .int mleakAct, .int mleakMuch, .int mendOfCan, .int mbadAct, .int mbadWhy, .int mburnt, .int mboiled, .ref nH, .ref nI, .ref nJ, .ref nL, .int mhadLeft, .int mhadToday, .int mhadBagged, .int mhadWarmed, .int mleaves, .int mdayThen, .int mcoldThen, .ref nO, .int mportionMany, .ref nT, .ref nU, .int mleakMany, .int mleakActs, .ref nV, .ref nX, .ref nY, .ref nZ, .int mkeptAt, .int misWriting])), (nW, .inl (cI, 14, .inl gW))]) [0, 1] (by decide) rfl
    exact W.iret (v := (gW i0.toNatClampNeg)) hx hb hr (fun t ht hW => ⟨⟨(gW i0.toNatClampNeg), (), rfl, (by simp only [wnF, if_neg c2]), by rw [ht]; exact hP9, hD9⟩, hS.F ht⟩) hS.2.2 dX8_windOn_35
  · have t2 : ((mgusty >>> (i0 &&& 31)) &&& 1).toInt = (1 : Int) := (teq c2)
    refine lv_iconst (v := 2) hx hb dX8_windOn_18 (by decide) ?_
    refine lv_goto (tgt := 23) hx hb dX8_windOn_19 (by decide) ?_
    refine lv_iadd hx hb dX8_windOn_23 ?_
    refine lv_istore_n (lv' := [(2, .int ((gW i0.toNatClampNeg) + 2)), (0, .ref n), (1, .int i0)]) hx hb dX8_windOn_24 rfl hl (by decide) rfl (fun ls hl => ?_)
    refine lv_iload_n hx hb dX8_windOn_25 rfl (lv_at hl 0 rfl) ?_
    refine lv_iconst (v := 4) hx hb dX8_windOn_26 (by decide) ?_
    refine lv_icmp_le (tgt := 34) hx hb dX8_windOn_27 (by decide) (fun c5 => ?_) (fun c5 => ?_)
    · have t5 : ((gW i0.toNatClampNeg) + 2).toInt ≤ (4 : Int) := (tle c5)
      refine lv_iload_n hx hb dX8_windOn_34 rfl (lv_at hl 0 rfl) ?_
      have hP9 := mx_subP (wc := [(n, .inr (8, [.int mleft, .int mmetres, .int mshut, .int mshield, .int mtoday, .int mbagged, .int mwarmed, .ref nW, .ref nC, .int mmeals, .ref nQ, .ref nM, .ref nD, .ref nA, .ref nK, .int msights, .ref nP, .int mpadMany, .ref nE, .ref nF, .ref nG, .int macts, .int mgusty, .int mleakAct, .int mleakMuch, .int mendOfCan, .int mbadAct, .int mbadWhy, .int mburnt, .int mboiled, .ref nH, .ref nI, .ref nJ, .ref nL, .int mhadLeft, .int mhadToday, .int mhadBagged, .int mhadWarmed, .int mleaves, .int mdayThen, .int mcoldThen, .ref nO, .int mportionMany, .ref nT, .ref nU, .int mleakMany, .int mleakActs, .ref nV, .ref nX, .ref nY, .ref nZ, .int mkeptAt, .int misWriting])), (nW, .inl (cI, 14, .inl gW))]) hP [0, 1] rfl
      have hD9 := hD.sub (ws' := [(n, .inr (8, [.int mleft, .int mmetres, .int mshut, .int mshield, .int mtoday, .int mbagged, .int mwarmed, .ref nW, .ref nC, .int mmeals, .ref nQ, .ref nM, .ref nD, .ref nA, .ref nK, .int msights, .ref nP, .int mpadMany, .ref nE, .ref nF, .ref nG, .int macts, .int mgusty, .int mleakAct, .int mleakMuch, .int mendOfCan, .int mbadAct, .int mbadWhy, .int mburnt, .int mboiled, .ref nH, .ref nI, .ref nJ, .ref nL, .int mhadLeft, .int mhadToday, .int mhadBagged, .int mhadWarmed, .int mleaves, .int mdayThen, .int mcoldThen, .ref nO, .int mportionMany, .ref nT, .ref nU, .int mleakMany, .int mleakActs, .ref nV, .ref nX, .ref nY, .ref nZ, .int mkeptAt, .int misWriting])), (nW, .inl (cI, 14, .inl gW))]) [0, 1] (by decide) rfl
      exact W.iret (v := ((gW i0.toNatClampNeg) + 2)) hx hb hr (fun t ht hW => ⟨⟨((gW i0.toNatClampNeg) + 2), (), rfl, (by simp only [wnF, if_pos c2, if_pos c5]), by rw [ht]; exact hP9, hD9⟩, hS.F ht⟩) hS.2.2 dX8_windOn_35
    · have t5 : (4 : Int) < ((gW i0.toNatClampNeg) + 2).toInt := (tnle c5)
      refine lv_iconst (v := 4) hx hb dX8_windOn_30 (by decide) ?_
      refine lv_goto (tgt := 35) hx hb dX8_windOn_31 (by decide) ?_
      have hP9 := mx_subP (wc := [(n, .inr (8, [.int mleft, .int mmetres, .int mshut, .int mshield, .int mtoday, .int mbagged, .int mwarmed, .ref nW, .ref nC, .int mmeals, .ref nQ, .ref nM, .ref nD, .ref nA, .ref nK, .int msights, .ref nP, .int mpadMany, .ref nE, .ref nF, .ref nG, .int macts, .int mgusty, .int mleakAct, .int mleakMuch, .int mendOfCan, .int mbadAct, .int mbadWhy, .int mburnt, .int mboiled, .ref nH, .ref nI, .ref nJ, .ref nL, .int mhadLeft, .int mhadToday, .int mhadBagged, .int mhadWarmed, .int mleaves, .int mdayThen, .int mcoldThen, .ref nO, .int mportionMany, .ref nT, .ref nU, .int mleakMany, .int mleakActs, .ref nV, .ref nX, .ref nY, .ref nZ, .int mkeptAt, .int misWriting])), (nW, .inl (cI, 14, .inl gW))]) hP [0, 1] rfl
      have hD9 := hD.sub (ws' := [(n, .inr (8, [.int mleft, .int mmetres, .int mshut, .int mshield, .int mtoday, .int mbagged, .int mwarmed, .ref nW, .ref nC, .int mmeals, .ref nQ, .ref nM, .ref nD, .ref nA, .ref nK, .int msights, .ref nP, .int mpadMany, .ref nE, .ref nF, .ref nG, .int macts, .int mgusty, .int mleakAct, .int mleakMuch, .int mendOfCan, .int mbadAct, .int mbadWhy, .int mburnt, .int mboiled, .ref nH, .ref nI, .ref nJ, .ref nL, .int mhadLeft, .int mhadToday, .int mhadBagged, .int mhadWarmed, .int mleaves, .int mdayThen, .int mcoldThen, .ref nO, .int mportionMany, .ref nT, .ref nU, .int mleakMany, .int mleakActs, .ref nV, .ref nX, .ref nY, .ref nZ, .int mkeptAt, .int misWriting])), (nW, .inl (cI, 14, .inl gW))]) [0, 1] (by decide) rfl
      exact W.iret (v := 4) hx hb hr (fun t ht hW => ⟨⟨4, (), rfl, (by simp only [wnF, if_pos c2, if_neg c5]), by rw [ht]; exact hP9, hD9⟩, hS.F ht⟩) hS.2.2 dX8_windOn_35
