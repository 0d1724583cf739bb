set_option maxHeartbeats 4000000 in
set_option maxRecDepth 100000 in
theorem c_X8_arePortions (l : Launch) (dC : Nat → ClassId) (dI : Nat → Nat → Nat) (cI cZ cK : ClassId) (tS : Nat) (aK aV : Nat → Nat) (i0 : Int32) (sz : Nat) : Ci l yX8_arePortions (wq yX8_arePortions cX8_arePortions 1 (some .boolean)) ({ frames := 1, cells := 0, slots := 0, locals := 25 }) dC dI cI cZ cK tS aK aV [.int i0] sz [] (fun (r : Int32) (u : Unit) => (r = 1 ∧ (0 ≤ i0.toInt ∧ i0.toInt ≤ 999999)) ∨ (r = 0 ∧ (i0.toInt < 0 ∨ 999999 < i0.toInt))) (fun _ => []) := by
  refine Met.ofW (cc := cX8_arePortions) (maxL := 1) (ret := (some .boolean)) (by decide) rfl ?_
  intro p e s m args below meth c s₁ B hml hv
  obtain ⟨rfl, hsz, hP, hKx, hD0⟩ := hv
  have hx := B.exec
  have hb := B.bytes
  have hr := B.returns
  have hts := atoms_spec (ws := wq yX8_arePortions cX8_arePortions 1 (some .boolean)) B.pre
  have hown : s.vm.findClass RX8 = some m.cls := findClass_of_methodNamed B.named
  have hlocks := B.notSynchronized
  subst hsz
  have hD := hD0.self (sz := s.heap.size)
  generalize hAe : va_A [] s.heap.size = A at hD hKx ⊢
  have hA : ∀ q : Nat, s.heap.size ≤ q → A q := fun q h => by rw [← hAe]; exact Or.inr h
  have hS : va_S A s.heap s.heap [] := va_S.rf
  have hP : va_P (dC, dI) vwCl [] s.heap := hP
  have hl := lv_entry ([.int i0]) (n := 1) (Nat.le_of_ble_eq_true rfl)
  rw [lg_entry_eq]
  generalize (lg_sl ([.int i0]) ++ List.replicate (1 - (lg_sl ([.int i0])).length) Slot.unset).toArray = ls at hl ⊢
  have hl : lv_has ls 1 [(0, .int i0)] := hl
  have hK := hKx.1
  have hw0 := hts (.constantLong RX8 252 999999) (List.mem_cons_of_mem _ wm_606)
  refine lv_iload_n hx hb dX8_arePortions_0 rfl (lv_at hl 0 rfl) ?_
  refine lv_i2l (v := i0.toInt64) hx hb dX8_arePortions_1 rfl ?_
  refine lv_lconst (v := 0) hx hb dX8_arePortions_2 (by decide) ?_
  refine lv_ldc2 (v := 999999) hx hb hown hw0 dX8_arePortions_3 ?_
  refine mx_i (wr := []) (va_runS (As := [.long (i0.toInt64), .long 0, .long 999999]) (rest := []) ⟨hx, hb, hml, hown, hts⟩ (c_X8_in l dC dI cI cZ cK tS aK aV (i0.toInt64) 0 999999 s.heap.size) (va_cwS 3 hts (gw_s (fun _ h9 => List.mem_cons_of_mem _ h9) wm_155 wm_156 wm_5 wm_157) rfl rfl rfl (by decide +kernel) ⟨Nat.le_of_ble_eq_true rfl, Nat.le_of_ble_eq_true rfl⟩) (mx_preS hKx hP hD hS hA [] (by decide) rfl) rfl rfl hl.1 rfl (lv_room (Nat.le_of_ble_eq_true rfl)) dX8_arePortions_6 ⟨Nat.le_of_ble_eq_true rfl, Nat.le_of_ble_eq_true rfl⟩) hP hD hS hA [] [] rfl rfl (by decide) (by decide) (fun r1 u1 H locs hq1 hP hD hS => ?_)
  replace hP : va_P (dC, dI) vwCl [] H := hP
  replace hD : va_D A [] := hD
  rcases hq1 with ⟨rfl, hf1⟩ | ⟨rfl, hf1⟩
  · have hf1 : (0 : Int) ≤ i0.toInt ∧ i0.toInt ≤ (999999 : Int) := (by have h9 := hf1; simp only [Int32.toInt_toInt64] at h9; exact h9)
    have hP9 := mx_subP (wc := []) hP [] rfl
    have hD9 := hD.sub (ws' := []) [] (by decide) rfl
    exact W.zret (v := 1) hx hb hr rfl (fun t ht hW => ⟨⟨1, (), rfl, (by first | exact Or.inl (⟨rfl, by omega⟩) | exact Or.inr (⟨rfl, by omega⟩)), by rw [ht]; exact hP9, hD9⟩, hS.F ht⟩) hS.2.2 dX8_arePortions_9
  · have hf1 : i0.toInt < (0 : Int) ∨ (999999 : Int) < i0.toInt := (by have h9 := hf1; simp only [Int32.toInt_toInt64] at h9; exact h9)
    have hP9 := mx_subP (wc := []) hP [] rfl
    have hD9 := hD.sub (ws' := []) [] (by decide) rfl
    exact W.zret (v := 0) hx hb hr rfl (fun t ht hW => ⟨⟨0, (), rfl, (by first | exact Or.inl (⟨rfl, by omega⟩) | exact Or.inr (⟨rfl, by omega⟩)), by rw [ht]; exact hP9, hD9⟩, hS.F ht⟩) hS.2.2 dX8_arePortions_9
set_option maxHeartbeats 4000000 in
set_option maxRecDepth 100000 in
theorem c_X8_isDayOn (l : Launch) (dC : Nat → ClassId) (dI : Nat → Nat → Nat) (cI cZ cK : ClassId) (tS : Nat) (aK aV : Nat → Nat) (n : Nat) (i0 : Int32) (mleft : Int32) (mmetres : Int32) (mshut : Int32) (mshield : Int32) (mtoday : Int32) (mbagged : Int32) (mwarmed : Int32) (nW : Nat) (nC : Nat) (mmeals : Int32) (nQ : Nat) (nM : Nat) (nD : Nat) (nA : Nat) (nK : Nat) (msights : Int32) (nP : Nat) (mpadMany : Int32) (nE : Nat) (nF : Nat) (nG : Nat) (macts : Int32) (mgusty : Int32) (mleakAct : Int32) (mleakMuch : Int32) (mendOfCan : Int32) (mbadAct : Int32) (mbadWhy : Int32) (mburnt : Int32) (mboiled : Int32) (nH : Nat) (nI : Nat) (nJ : Nat) (nL : Nat) (mhadLeft : Int32) (mhadToday : Int32) (mhadBagged : Int32) (mhadWarmed : Int32) (mleaves : Int32) (mdayThen : Int32) (mcoldThen : Int32) (nO : Nat) (mportionMany : Int32) (nT : Nat) (nU : Nat) (mleakMany : Int32) (mleakActs : Int32) (nV : Nat) (nX : Nat) (nY : Nat) (nZ : Nat) (mkeptAt : Int32) (misWriting : Int32) (sz : Nat) (h_mtoday : 0 ≤ mtoday.toInt ∧ mtoday.toInt ≤ 13) : Ci l yX8_isDayOn (wq yX8_isDayOn cX8_isDayOn 2 (some .boolean)) ({ frames := 1, cells := 0, slots := 0, locals := 25 }) dC dI cI cZ cK tS aK aV [.ref n, .int i0] sz [(n, .inr (8, [.int mleft, .int mmetres, .int mshut, .int mshield, .int mtoday, .int mbagged, .int mwarmed, .ref nW, .ref nC, .int mmeals, .ref nQ, .ref nM, .ref nD, .ref nA, .ref nK, .int msights, .ref nP, .int mpadMany, .ref nE, .ref nF, .ref nG, .int macts, .int mgusty, .int mleakAct, .int mleakMuch, .int mendOfCan, .int mbadAct, .int mbadWhy, .int mburnt, .int mboiled, .ref nH, .ref nI, .ref nJ, .ref nL, .int mhadLeft, .int mhadToday, .int mhadBagged, .int mhadWarmed, .int mleaves, .int mdayThen, .int mcoldThen, .ref nO, .int mportionMany, .ref nT, .ref nU, .int mleakMany, .int mleakActs, .ref nV, .ref nX, .ref nY, .ref nZ, .int mkeptAt, .int misWriting]))] (fun (r : Int32) (u : Unit) => ((r = 1 ∧ (mtoday.toInt ≤ i0.toInt ∧ i0.toInt ≤ 13)) ∨ (r = 0 ∧ (True)))) (fun _ => [(n, .inr (8, [.int mleft, .int mmetres, .int mshut, .int mshield, .int mtoday, .int mbagged, .int mwarmed, .ref nW, .ref nC, .int mmeals, .ref nQ, .ref nM, .ref nD, .ref nA, .ref nK, .int msights, .ref nP, .int mpadMany, .ref nE, .ref nF, .ref nG, .int macts, .int mgusty, .int mleakAct, .int mleakMuch, .int mendOfCan, .int mbadAct, .int mbadWhy, .int mburnt, .int mboiled, .ref nH, .ref nI, .ref nJ, .ref nL, .int mhadLeft, .int mhadToday, .int mhadBagged, .int mhadWarmed, .int mleaves, .int mdayThen, .int mcoldThen, .ref nO, .int mportionMany, .ref nT, .ref nU, .int mleakMany, .int mleakActs, .ref nV, .ref nX, .ref nY, .ref nZ, .int mkeptAt, .int misWriting]))]) := by
  refine Met.ofW (cc := cX8_isDayOn) (maxL := 2) (ret := (some .boolean)) (by decide) rfl ?_
  intro p e s m args below meth c s₁ B hml hv
  obtain ⟨rfl, hsz, hP, hKx, hD0⟩ := hv
  have hx := B.exec
  have hb := B.bytes
  have hr := B.returns
  have hts := atoms_spec (ws := wq yX8_isDayOn cX8_isDayOn 2 (some .boolean)) B.pre
  have hown : s.vm.findClass RX8 = some m.cls := findClass_of_methodNamed B.named
  have hlocks := B.notSynchronized
  subst hsz
  have hD := hD0.self (sz := s.heap.size)
  generalize hAe : va_A [(n, .inr (8, [.int mleft, .int mmetres, .int mshut, .int mshield, .int mtoday, .int mbagged, .int mwarmed, .ref nW, .ref nC, .int mmeals, .ref nQ, .ref nM, .ref nD, .ref nA, .ref nK, .int msights, .ref nP, .int mpadMany, .ref nE, .ref nF, .ref nG, .int macts, .int mgusty, .int mleakAct, .int mleakMuch, .int mendOfCan, .int mbadAct, .int mbadWhy, .int mburnt, .int mboiled, .ref nH, .ref nI, .ref nJ, .ref nL, .int mhadLeft, .int mhadToday, .int mhadBagged, .int mhadWarmed, .int mleaves, .int mdayThen, .int mcoldThen, .ref nO, .int mportionMany, .ref nT, .ref nU, .int mleakMany, .int mleakActs, .ref nV, .ref nX, .ref nY, .ref nZ, .int mkeptAt, .int misWriting]))] s.heap.size = A at hD hKx ⊢
  have hA : ∀ q : Nat, s.heap.size ≤ q → A q := fun q h => by rw [← hAe]; exact Or.inr h
  have hS : va_S A s.heap s.heap [] := va_S.rf
  have hP : va_P (dC, dI) vwCl [(n, .inr (8, [.int mleft, .int mmetres, .int mshut, .int mshield, .int mtoday, .int mbagged, .int mwarmed, .ref nW, .ref nC, .int mmeals, .ref nQ, .ref nM, .ref nD, .ref nA, .ref nK, .int msights, .ref nP, .int mpadMany, .ref nE, .ref nF, .ref nG, .int macts, .int mgusty, .int mleakAct, .int mleakMuch, .int mendOfCan, .int mbadAct, .int mbadWhy, .int mburnt, .int mboiled, .ref nH, .ref nI, .ref nJ, .ref nL, .int mhadLeft, .int mhadToday, .int mhadBagged, .int mhadWarmed, .int mleaves, .int mdayThen, .int mcoldThen, .ref nO, .int mportionMany, .ref nT, .ref nU, .int mleakMany, .int mleakActs, .ref nV, .ref nX, .ref nY, .ref nZ, .int mkeptAt, .int misWriting]))] s.heap := hP
  have hl := lv_entry ([.ref n, .int i0]) (n := 2) (Nat.le_of_ble_eq_true rfl)
  rw [lg_entry_eq]
  generalize (lg_sl ([.ref n, .int i0]) ++ List.replicate (2 - (lg_sl ([.ref n, .int i0])).length) Slot.unset).toArray = ls at hl ⊢
  have hl : lv_has ls 2 [(0, .ref n), (1, .int i0)] := hl
  have hK := hKx.1
  have hin8 := fun w9 h9 => List.mem_cons_of_mem (Cond.code yX8_isDayOn cX8_isDayOn 2 (some .boolean)) (inlX8 w9 h9)
  have hw0 := hts (.fieldLink RX8 101 "OneCanModel" "today" "I") (List.mem_cons_of_mem _ wm_152)
  have hw1 := hts (.constantLong RX8 81 13) (List.mem_cons_of_mem _ wm_181)
  refine lv_iload_n hx hb dX8_isDayOn_0 rfl (lv_at hl 1 rfl) ?_
  refine lv_i2l (v := i0.toInt64) hx hb dX8_isDayOn_1 rfl ?_
  refine lv_aload_n hx hb dX8_isDayOn_2 rfl (lv_at hl 0 rfl) ?_
  refine va_get (D := (dC, dI)) (ci := 8) (v := .int mtoday) (C := RX8) (T := TX8) (N := 53) hx hb hts hin8 hown hK hP 0 rfl rfl 4 (by decide) hw0 (fun _ h9 => h9) rfl dX8_isDayOn_3 ?_
  refine lv_i2l (v := mtoday.toInt64) hx hb dX8_isDayOn_6 rfl ?_
  refine lv_ldc2 (v := 13) hx hb hown hw1 dX8_isDayOn_7 ?_
  refine mx_i (wr := [(n, .inr (8, [.int mleft, .int mmetres, .int mshut, .int mshield, .int mtoday, .int mbagged, .int mwarmed, .ref nW, .ref nC, .int mmeals, .ref nQ, .ref nM, .ref nD, .ref nA, .ref nK, .int msights, .ref nP, .int mpadMany, .ref nE, .ref nF, .ref nG, .int macts, .int mgusty, .int mleakAct, .int mleakMuch, .int mendOfCan, .int mbadAct, .int mbadWhy, .int mburnt, .int mboiled, .ref nH, .ref nI, .ref nJ, .ref nL, .int mhadLeft, .int mhadToday, .int mhadBagged, .int mhadWarmed, .int mleaves, .int mdayThen, .int mcoldThen, .ref nO, .int mportionMany, .ref nT, .ref nU, .int mleakMany, .int mleakActs, .ref nV, .ref nX, .ref nY, .ref nZ, .int mkeptAt, .int misWriting]))]) (va_runS (As := [.long (i0.toInt64), .long (mtoday.toInt64), .long 13]) (rest := []) ⟨hx, hb, hml, hown, hts⟩ (c_X8_in l dC dI cI cZ cK tS aK aV (i0.toInt64) (mtoday.toInt64) 13 s.heap.size) (va_cwS 3 hts (gw_s (fun _ h9 => List.mem_cons_of_mem _ h9) wm_155 wm_156 wm_5 wm_157) rfl rfl rfl (by decide +kernel) ⟨Nat.le_of_ble_eq_true rfl, Nat.le_of_ble_eq_true rfl⟩) (mx_preS hKx hP hD hS hA [] (by decide) rfl) rfl rfl hl.1 rfl (lv_room (Nat.le_of_ble_eq_true rfl)) dX8_isDayOn_10 ⟨Nat.le_of_ble_eq_true rfl, Nat.le_of_ble_eq_true rfl⟩) hP hD hS hA [] [0] rfl rfl (by decide) (by decide) (fun r1 u1 H locs hq1 hP hD hS => ?_)
  replace hP : va_P (dC, dI) vwCl [(n, .inr (8, [.int mleft, .int mmetres, .int mshut, .int mshield, .int mtoday, .int mbagged, .int mwarmed, .ref nW, .ref nC, .int mmeals, .ref nQ, .ref nM, .ref nD, .ref nA, .ref nK, .int msights, .ref nP, .int mpadMany, .ref nE, .ref nF, .ref nG, .int macts, .int mgusty, .int mleakAct, .int mleakMuch, .int mendOfCan, .int mbadAct, .int mbadWhy, .int mburnt, .int mboiled, .ref nH, .ref nI, .ref nJ, .ref nL, .int mhadLeft, .int mhadToday, .int mhadBagged, .int mhadWarmed, .int mleaves, .int mdayThen, .int mcoldThen, .ref nO, .int mportionMany, .ref nT, .ref nU, .int mleakMany, .int mleakActs, .ref nV, .ref nX, .ref nY, .ref nZ, .int mkeptAt, .int misWriting]))] H := hP
  replace hD : va_D A [(n, .inr (8, [.int mleft, .int mmetres, .int mshut, .int mshield, .int mtoday, .int mbagged, .int mwarmed, .ref nW, .ref nC, .int mmeals, .ref nQ, .ref nM, .ref nD, .ref nA, .ref nK, .int msights, .ref nP, .int mpadMany, .ref nE, .ref nF, .ref nG, .int macts, .int mgusty, .int mleakAct, .int mleakMuch, .int mendOfCan, .int mbadAct, .int mbadWhy, .int mburnt, .int mboiled, .ref nH, .ref nI, .ref nJ, .ref nL, .int mhadLeft, .int mhadToday, .int mhadBagged, .int mhadWarmed, .int mleaves, .int mdayThen, .int mcoldThen, .ref nO, .int mportionMany, .ref nT, .ref nU, .int mleakMany, .int mleakActs, .ref nV, .ref nX, .ref nY, .ref nZ, .int mkeptAt, .int misWriting]))] := hD
  rcases hq1 with ⟨rfl, hf1⟩ | ⟨rfl, hf1⟩
  · have hf1 : mtoday.toInt ≤ i0.toInt ∧ i0.toInt ≤ (13 : Int) := (by have h9 := hf1; simp only [Int32.toInt_toInt64] at h9; exact h9)
    have hP9 := mx_subP (wc := [(n, .inr (8, [.int mleft, .int mmetres, .int mshut, .int mshield, .int mtoday, .int mbagged, .int mwarmed, .ref nW, .ref nC, .int mmeals, .ref nQ, .ref nM, .ref nD, .ref nA, .ref nK, .int msights, .ref nP, .int mpadMany, .ref nE, .ref nF, .ref nG, .int macts, .int mgusty, .int mleakAct, .int mleakMuch, .int mendOfCan, .int mbadAct, .int mbadWhy, .int mburnt, .int mboiled, .ref nH, .ref nI, .ref nJ, .ref nL, .int mhadLeft, .int mhadToday, .int mhadBagged, .int mhadWarmed, .int mleaves, .int mdayThen, .int mcoldThen, .ref nO, .int mportionMany, .ref nT, .ref nU, .int mleakMany, .int mleakActs, .ref nV, .ref nX, .ref nY, .ref nZ, .int mkeptAt, .int misWriting]))]) hP [0] rfl
    have hD9 := hD.sub (ws' := [(n, .inr (8, [.int mleft, .int mmetres, .int mshut, .int mshield, .int mtoday, .int mbagged, .int mwarmed, .ref nW, .ref nC, .int mmeals, .ref nQ, .ref nM, .ref nD, .ref nA, .ref nK, .int msights, .ref nP, .int mpadMany, .ref nE, .ref nF, .ref nG, .int macts, .int mgusty, .int mleakAct, .int mleakMuch, .int mendOfCan, .int mbadAct, .int mbadWhy, .int mburnt, .int mboiled, .ref nH, .ref nI, .ref nJ, .ref nL, .int mhadLeft, .int mhadToday, .int mhadBagged, .int mhadWarmed, .int mleaves, .int mdayThen, .int mcoldThen, .ref nO, .int mportionMany, .ref nT, .ref nU, .int mleakMany, .int mleakActs, .ref nV, .ref nX, .ref nY, .ref nZ, .int mkeptAt, .int misWriting]))]) [0] (by decide) rfl
    exact W.zret (v := 1) hx hb hr rfl (fun t ht hW => ⟨⟨1, (), rfl, (by first | exact Or.inl (⟨rfl, by omega⟩) | exact Or.inr (⟨rfl, trivial⟩)), by rw [ht]; exact hP9, hD9⟩, hS.F ht⟩) hS.2.2 dX8_isDayOn_13
  · have hf1 : i0.toInt < mtoday.toInt ∨ (13 : Int) < i0.toInt := (by have h9 := hf1; simp only [Int32.toInt_toInt64] at h9; exact h9)
    have hP9 := mx_subP (wc := [(n, .inr (8, [.int mleft, .int mmetres, .int mshut, .int mshield, .int mtoday, .int mbagged, .int mwarmed, .ref nW, .ref nC, .int mmeals, .ref nQ, .ref nM, .ref nD, .ref nA, .ref nK, .int msights, .ref nP, .int mpadMany, .ref nE, .ref nF, .ref nG, .int macts, .int mgusty, .int mleakAct, .int mleakMuch, .int mendOfCan, .int mbadAct, .int mbadWhy, .int mburnt, .int mboiled, .ref nH, .ref nI, .ref nJ, .ref nL, .int mhadLeft, .int mhadToday, .int mhadBagged, .int mhadWarmed, .int mleaves, .int mdayThen, .int mcoldThen, .ref nO, .int mportionMany, .ref nT, .ref nU, .int mleakMany, .int mleakActs, .ref nV, .ref nX, .ref nY, .ref nZ, .int mkeptAt, .int misWriting]))]) hP [0] rfl
    have hD9 := hD.sub (ws' := [(n, .inr (8, [.int mleft, .int mmetres, .int mshut, .int mshield, .int mtoday, .int mbagged, .int mwarmed, .ref nW, .ref nC, .int mmeals, .ref nQ, .ref nM, .ref nD, .ref nA, .ref nK, .int msights, .ref nP, .int mpadMany, .ref nE, .ref nF, .ref nG, .int macts, .int mgusty, .int mleakAct, .int mleakMuch, .int mendOfCan, .int mbadAct, .int mbadWhy, .int mburnt, .int mboiled, .ref nH, .ref nI, .ref nJ, .ref nL, .int mhadLeft, .int mhadToday, .int mhadBagged, .int mhadWarmed, .int mleaves, .int mdayThen, .int mcoldThen, .ref nO, .int mportionMany, .ref nT, .ref nU, .int mleakMany, .int mleakActs, .ref nV, .ref nX, .ref nY, .ref nZ, .int mkeptAt, .int misWriting]))]) [0] (by decide) rfl
    exact W.zret (v := 0) hx hb hr rfl (fun t ht hW => ⟨⟨0, (), rfl, (by first | exact Or.inl (⟨rfl, by omega⟩) | exact Or.inr (⟨rfl, trivial⟩)), by rw [ht]; exact hP9, hD9⟩, hS.F ht⟩) hS.2.2 dX8_isDayOn_13
set_option maxHeartbeats 4000000 in
set_option maxRecDepth 100000 in
theorem c_X8_layPortions (l : Launch) (dC : Nat → ClassId) (dI : Nat → Nat → Nat) (cI cZ cK : ClassId) (tS : Nat) (aK aV : Nat → Nat) (n : Nat) (i0 : Int32) (mleft : Int32) (mmetres : Int32) (mshut : Int32) (mshield : Int32) (mtoday : Int32) (mbagged : Int32) (mwarmed : Int32) (nW : Nat) (nC : Nat) (mmeals : Int32) (nQ : Nat) (nM : Nat) (nD : Nat) (nA : Nat) (nK : Nat) (msights : Int32) (nP : Nat) (mpadMany : Int32) (nE : Nat) (nF : Nat) (nG : Nat) (macts : Int32) (mgusty : Int32) (mleakAct : Int32) (mleakMuch : Int32) (mendOfCan : Int32) (mbadAct : Int32) (mbadWhy : Int32) (mburnt : Int32) (mboiled : Int32) (nH : Nat) (nI : Nat) (nJ : Nat) (nL : Nat) (mhadLeft : Int32) (mhadToday : Int32) (mhadBagged : Int32) (mhadWarmed : Int32) (mleaves : Int32) (mdayThen : Int32) (mcoldThen : Int32) (nO : Nat) (mportionMany : Int32) (nT : Nat) (nU : Nat) (mleakMany : Int32) (mleakActs : Int32) (nV : Nat) (nX : Nat) (nY : Nat) (nZ : Nat) (mkeptAt : Int32) (misWriting : Int32) (gO : Nat → Int32) (sz : Nat) (h_gO : rg gO 6 0 9) (h_i0 : 0 ≤ i0.toInt ∧ i0.toInt ≤ 999999) : Ci l yX8_layPortions (wq yX8_layPortions cX8_layPortions 5 (some .boolean)) ({ frames := 2, cells := 0, slots := 0, locals := 46 }) dC dI cI cZ cK tS aK aV [.ref n, .int i0] sz [(n, .inr (8, [.int mleft, .int mmetres, .int mshut, .int mshield, .int mtoday, .int mbagged, .int mwarmed, .ref nW, .ref nC, .int mmeals, .ref nQ, .ref nM, .ref nD, .ref nA, .ref nK, .int msights, .ref nP, .int mpadMany, .ref nE, .ref nF, .ref nG, .int macts, .int mgusty, .int mleakAct, .int mleakMuch, .int mendOfCan, .int mbadAct, .int mbadWhy, .int mburnt, .int mboiled, .ref nH, .ref nI, .ref nJ, .ref nL, .int mhadLeft, .int mhadToday, .int mhadBagged, .int mhadWarmed, .int mleaves, .int mdayThen, .int mcoldThen, .ref nO, .int mportionMany, .ref nT, .ref nU, .int mleakMany, .int mleakActs, .ref nV, .ref nX, .ref nY, .ref nZ, .int mkeptAt, .int misWriting])), (nO, .inl (cI, 6, .inl gO))] (fun (r : Int32) (u : (Nat → Nat → Int32) × (Nat → Int32) × (Nat → Int64)) => (0 ≤ (u.2.1 0).toInt ∧ (u.2.1 0).toInt ≤ 54) ∧ rg (u.1 0) 6 0 9 ∧ (r.toInt = 0 ∨ ∀ j9 : Nat, j9 < 6 → ((u.1 0) j9).toInt ≠ 0 → bt mmeals j9 = true) ∧ ((u.2.1 0).toInt = psF (u.1 0) 6) ∧ (r.toInt = 0 ∨ r.toInt = 1)) (fun u => [(n, .inr (8, [.int mleft, .int mmetres, .int mshut, .int mshield, .int mtoday, .int mbagged, .int mwarmed, .ref nW, .ref nC, .int mmeals, .ref nQ, .ref nM, .ref nD, .ref nA, .ref nK, .int msights, .ref nP, .int mpadMany, .ref nE, .ref nF, .ref nG, .int macts, .int mgusty, .int mleakAct, .int mleakMuch, .int mendOfCan, .int mbadAct, .int mbadWhy, .int mburnt, .int mboiled, .ref nH, .ref nI, .ref nJ, .ref nL, .int mhadLeft, .int mhadToday, .int mhadBagged, .int mhadWarmed, .int mleaves, .int mdayThen, .int mcoldThen, .ref nO, .int (u.2.1 0), .ref nT, .ref nU, .int mleakMany, .int mleakActs, .ref nV, .ref nX, .ref nY, .ref nZ, .int mkeptAt, .int misWriting])), (nO, .inl (cI, 6, .inl (u.1 0)))]) := by
  refine Met.ofW (cc := cX8_layPortions) (maxL := 5) (ret := (some .boolean)) (by decide) rfl ?_
  intro p e s m args below meth c s₁ B hml hv
  obtain ⟨rfl, hsz, hP, hKx, hD0⟩ := hv
  have hx := B.exec
  have hb := B.bytes
  have hr := B.returns
  have hts := atoms_spec (ws := wq yX8_layPortions cX8_layPortions 5 (some .boolean)) B.pre
  have hown : s.vm.findClass RX8 = some m.cls := findClass_of_methodNamed B.named
  have hlocks := B.notSynchronized
  subst hsz
  have hD := hD0.self (sz := s.heap.size)
  generalize hAe : va_A [(n, .inr (8, [.int mleft, .int mmetres, .int mshut, .int mshield, .int mtoday, .int mbagged, .int mwarmed, .ref nW, .ref nC, .int mmeals, .ref nQ, .ref nM, .ref nD, .ref nA, .ref nK, .int msights, .ref nP, .int mpadMany, .ref nE, .ref nF, .ref nG, .int macts, .int mgusty, .int mleakAct, .int mleakMuch, .int mendOfCan, .int mbadAct, .int mbadWhy, .int mburnt, .int mboiled, .ref nH, .ref nI, .ref nJ, .ref nL, .int mhadLeft, .int mhadToday, .int mhadBagged, .int mhadWarmed, .int mleaves, .int mdayThen, .int mcoldThen, .ref nO, .int mportionMany, .ref nT, .ref nU, .int mleakMany, .int mleakActs, .ref nV, .ref nX, .ref nY, .ref nZ, .int mkeptAt, .int misWriting])), (nO, .inl (cI, 6, .inl gO))] s.heap.size = A at hD hKx ⊢
  have hA : ∀ q : Nat, s.heap.size ≤ q → A q := fun q h => by rw [← hAe]; exact Or.inr h
  have hS : va_S A s.heap s.heap [] := va_S.rf
  have hP : va_P (dC, dI) vwCl [(n, .inr (8, [.int mleft, .int mmetres, .int mshut, .int mshield, .int mtoday, .int mbagged, .int mwarmed, .ref nW, .ref nC, .int mmeals, .ref nQ, .ref nM, .ref nD, .ref nA, .ref nK, .int msights, .ref nP, .int mpadMany, .ref nE, .ref nF, .ref nG, .int macts, .int mgusty, .int mleakAct, .int mleakMuch, .int mendOfCan, .int mbadAct, .int mbadWhy, .int mburnt, .int mboiled, .ref nH, .ref nI, .ref nJ, .ref nL, .int mhadLeft, .int mhadToday, .int mhadBagged, .int mhadWarmed, .int mleaves, .int mdayThen, .int mcoldThen, .ref nO, .int mportionMany, .ref nT, .ref nU, .int mleakMany, .int mleakActs, .ref nV, .ref nX, .ref nY, .ref nZ, .int mkeptAt, .int misWriting])), (nO, .inl (cI, 6, .inl gO))] s.heap := hP
  have hl := lv_entry ([.ref n, .int i0]) (n := 5) (Nat.le_of_ble_eq_true rfl)
  rw [lg_entry_eq]
  generalize (lg_sl ([.ref n, .int i0]) ++ List.replicate (5 - (lg_sl ([.ref n, .int i0])).length) Slot.unset).toArray = ls at hl ⊢
  have hl : lv_has ls 5 [(0, .ref n), (1, .int i0)] := hl
  have hK := hKx.1
  have hin8 := fun w9 h9 => List.mem_cons_of_mem (Cond.code yX8_layPortions cX8_layPortions 5 (some .boolean)) (inlX8 w9 h9)
  have hw0 := hts (.fieldLink RX8 249 "OneCanModel" "portionMany" "I") (List.mem_cons_of_mem _ wm_611)
  have hw1 := hts (.fieldLink RX8 55 "OneCanModel" "portion" "[I") (List.mem_cons_of_mem _ wm_127)
  refine lv_aload_n hx hb dX8_layPortions_0 rfl (lv_at hl 0 rfl) ?_
  refine lv_iconst (v := 0) hx hb dX8_layPortions_1 (by decide) ?_
  refine va_put (D := (dC, dI)) (ci := 8) (v := .int 0) (ty := .int) (C := RX8) (T := TX8) (N := 53) hx hb hts hin8 tyX8 tyX8_ok nmX8 hown hK hP hD hS 0 rfl rfl 42 (by decide) hw0 (fun _ h9 => h9) rfl (by decide +kernel) rfl rfl (Nat.le_of_ble_eq_true rfl) dX8_layPortions_2 (fun H locs hP hD hS => ?_)
  replace hP : va_P (dC, dI) vwCl [(n, .inr (8, [.int mleft, .int mmetres, .int mshut, .int mshield, .int mtoday, .int mbagged, .int mwarmed, .ref nW, .ref nC, .int mmeals, .ref nQ, .ref nM, .ref nD, .ref nA, .ref nK, .int msights, .ref nP, .int mpadMany, .ref nE, .ref nF, .ref nG, .int macts, .int mgusty, .int mleakAct, .int mleakMuch, .int mendOfCan, .int mbadAct, .int mbadWhy, .int mburnt, .int mboiled, .ref nH, .ref nI, .ref nJ, .ref nL, .int mhadLeft, .int mhadToday, .int mhadBagged, .int mhadWarmed, .int mleaves, .int mdayThen, .int mcoldThen, .ref nO, .int 0, .ref nT, .ref nU, .int mleakMany, .int mleakActs, .ref nV, .ref nX, .ref nY, .ref nZ, .int mkeptAt, .int misWriting])), (nO, .inl (cI, 6, .inl gO))] H := hP
  replace hD : va_D A [(n, .inr (8, [.int mleft, .int mmetres, .int mshut, .int mshield, .int mtoday, .int mbagged, .int mwarmed, .ref nW, .ref nC, .int mmeals, .ref nQ, .ref nM, .ref nD, .ref nA, .ref nK, .int msights, .ref nP, .int mpadMany, .ref nE, .ref nF, .ref nG, .int macts, .int mgusty, .int mleakAct, .int mleakMuch, .int mendOfCan, .int mbadAct, .int mbadWhy, .int mburnt, .int mboiled, .ref nH, .ref nI, .ref nJ, .ref nL, .int mhadLeft, .int mhadToday, .int mhadBagged, .int mhadWarmed, .int mleaves, .int mdayThen, .int mcoldThen, .ref nO, .int 0, .ref nT, .ref nU, .int mleakMany, .int mleakActs, .ref nV, .ref nX, .ref nY, .ref nZ, .int mkeptAt, .int misWriting])), (nO, .inl (cI, 6, .inl gO))] := hD
  refine lv_iconst (v := 1) hx hb dX8_layPortions_5 (by decide) ?_
  refine lv_istore_n (lv' := [(2, .int 1), (0, .ref n), (1, .int i0)]) hx hb dX8_layPortions_6 rfl hl (by decide) rfl (fun ls hl => ?_)
  refine lv_iload_n hx hb dX8_layPortions_7 rfl (lv_at hl 2 rfl) ?_
  refine lv_istore_n (lv' := [(3, .int i0), (2, .int 1), (0, .ref n), (1, .int i0)]) hx hb dX8_layPortions_8 rfl hl (by decide) rfl (fun ls hl => ?_)
  refine lv_iconst (v := 5) hx hb dX8_layPortions_9 (by decide) ?_
  refine lv_istore (lv' := [(4, .int 5), (3, .int i0), (2, .int 1), (0, .ref n), (1, .int i0)]) hx hb dX8_layPortions_10 hl (by decide) rfl (fun ls hl => ?_)
  have z2 : (1 : Int32).toInt = 1 := rfl
  have z3 : (5 : Int32).toInt = 5 := rfl
  have z4 : (0 : Int32).toInt = 0 := rfl
  have hl0 := hl
  clear hl
  have hP0 := hP
  clear hP
  have hD0 := hD
  clear hD
  obtain ⟨y2, y3, y4, ypm, yO, ex, h_yO, hall, hsum, hl, hP, hD⟩ : ∃ (y2 y3 y4 ypm : Int32) (yO : Nat → Int32), (-1 ≤ y4.toInt ∧ y4.toInt ≤ 5 ∧ 0 ≤ y3.toInt ∧ y3.toInt ≤ 999999 ∧ (y2.toInt = 0 ∨ y2.toInt = 1) ∧ 0 ≤ ypm.toInt ∧ ypm.toInt ≤ 9 * (5 - y4.toInt)) ∧ rg yO 6 0 9 ∧ (y2.toInt = 0 ∨ ∀ j9 : Nat, y4.toInt < (j9 : Int) → j9 < 6 → (yO j9).toInt ≠ 0 → bt mmeals j9 = true) ∧ (ypm.toInt = psF yO (5 - y4.toInt).toNat) ∧ lv_has ls 5 [(4, .int y4), (3, .int y3), (2, .int y2), (0, .ref n), (1, .int i0)] ∧ va_P (dC, dI) vwCl [(n, .inr (8, [.int mleft, .int mmetres, .int mshut, .int mshield, .int mtoday, .int mbagged, .int mwarmed, .ref nW, .ref nC, .int mmeals, .ref nQ, .ref nM, .ref nD, .ref nA, .ref nK, .int msights, .ref nP, .int mpadMany, .ref nE, .ref nF, .ref nG, .int macts, .int mgusty, .int mleakAct, .int mleakMuch, .int mendOfCan, .int mbadAct, .int mbadWhy, .int mburnt, .int mboiled, .ref nH, .ref nI, .ref nJ, .ref nL, .int mhadLeft, .int mhadToday, .int mhadBagged, .int mhadWarmed, .int mleaves, .int mdayThen, .int mcoldThen, .ref nO, .int ypm, .ref nT, .ref nU, .int mleakMany, .int mleakActs, .ref nV, .ref nX, .ref nY, .ref nZ, .int mkeptAt, .int misWriting])), (nO, .inl (cI, 6, .inl yO))] H ∧ va_D A [(n, .inr (8, [.int mleft, .int mmetres, .int mshut, .int mshield, .int mtoday, .int mbagged, .int mwarmed, .ref nW, .ref nC, .int mmeals, .ref nQ, .ref nM, .ref nD, .ref nA, .ref nK, .int msights, .ref nP, .int mpadMany, .ref nE, .ref nF, .ref nG, .int macts, .int mgusty, .int mleakAct, .int mleakMuch, .int mendOfCan, .int mbadAct, .int mbadWhy, .int mburnt, .int mboiled, .ref nH, .ref nI, .ref nJ, .ref nL, .int mhadLeft, .int mhadToday, .int mhadBagged, .int mhadWarmed, .int mleaves, .int mdayThen, .int mcoldThen, .ref nO, .int ypm, .ref nT, .ref nU, .int mleakMany, .int mleakActs, .ref nV, .ref nX, .ref nY, .ref nZ, .int mkeptAt, .int misWriting])), (nO, .inl (cI, 6, .inl yO))] := ⟨1, i0, 5, 0, gO, by omega, h_gO, (Or.inr (fun j9 h1 h2 => by exfalso; have z8 : (5 : Int32).toInt = 5 := rfl; omega)), rfl, hl0, hP0, hD0⟩
  clear hl0 hP0 hD0
  obtain ⟨n1, hn⟩ : ∃ n : Nat, (n : Int) = y4.toInt + 1 := ⟨(y4.toInt + 1).toNat, by omega⟩
  induction n1 generalizing y2 y3 y4 ypm yO ls H locs with
  | zero =>
    skip
    refine lv_iload hx hb dX8_layPortions_12 (lv_at hl 0 rfl) ?_
    refine lv_if_lt (tgt := 84) hx hb dX8_layPortions_14 (by decide) (fun c5 => ?_) (fun c5 => by exfalso; have t5 : (0 : Int) ≤ y4.toInt := (tnlt c5); omega)
    refine lv_iload_n hx hb dX8_layPortions_84 rfl (lv_at hl 2 rfl) ?_
    have hP9 := mx_subP (wc := [(n, .inr (8, [.int mleft, .int mmetres, .int mshut, .int mshield, .int mtoday, .int mbagged, .int mwarmed, .ref nW, .ref nC, .int mmeals, .ref nQ, .ref nM, .ref nD, .ref nA, .ref nK, .int msights, .ref nP, .int mpadMany, .ref nE, .ref nF, .ref nG, .int macts, .int mgusty, .int mleakAct, .int mleakMuch, .int mendOfCan, .int mbadAct, .int mbadWhy, .int mburnt, .int mboiled, .ref nH, .ref nI, .ref nJ, .ref nL, .int mhadLeft, .int mhadToday, .int mhadBagged, .int mhadWarmed, .int mleaves, .int mdayThen, .int mcoldThen, .ref nO, .int ypm, .ref nT, .ref nU, .int mleakMany, .int mleakActs, .ref nV, .ref nX, .ref nY, .ref nZ, .int mkeptAt, .int misWriting])), (nO, .inl (cI, 6, .inl yO))]) hP [0, 1] rfl
    have hD9 := hD.sub (ws' := [(n, .inr (8, [.int mleft, .int mmetres, .int mshut, .int mshield, .int mtoday, .int mbagged, .int mwarmed, .ref nW, .ref nC, .int mmeals, .ref nQ, .ref nM, .ref nD, .ref nA, .ref nK, .int msights, .ref nP, .int mpadMany, .ref nE, .ref nF, .ref nG, .int macts, .int mgusty, .int mleakAct, .int mleakMuch, .int mendOfCan, .int mbadAct, .int mbadWhy, .int mburnt, .int mboiled, .ref nH, .ref nI, .ref nJ, .ref nL, .int mhadLeft, .int mhadToday, .int mhadBagged, .int mhadWarmed, .int mleaves, .int mdayThen, .int mcoldThen, .ref nO, .int ypm, .ref nT, .ref nU, .int mleakMany, .int mleakActs, .ref nV, .ref nX, .ref nY, .ref nZ, .int mkeptAt, .int misWriting])), (nO, .inl (cI, 6, .inl yO))]) [0, 1] (by decide) rfl
    exact W.zret (v := y2) hx hb hr (nar_z (by omega)) (fun t ht hW => ⟨⟨y2, ((fun u9 => ([yO] : List (Nat → Int32)).getD u9 (fun _ => 0)), (fun u9 => ([ypm] : List Int32).getD u9 0), (fun u9 => ([] : List Int64).getD u9 0)), rfl, ⟨(show 0 ≤ (ypm).toInt ∧ (ypm).toInt ≤ 54 from (by omega)), h_yO, (show y2.toInt = 0 ∨ ∀ j9 : Nat, j9 < 6 → (yO j9).toInt ≠ 0 → bt mmeals j9 = true from (hall.imp id (fun h9 j9 h1 h2 => h9 j9 (by omega) h1 h2))), (show ypm.toInt = psF yO 6 from (by have e9 : (5 - y4.toInt).toNat = 6 := (by omega); rw [← e9]; exact hsum)), (by omega)⟩, by rw [ht]; exact hP9, hD9⟩, hS.F ht⟩) hS.2.2 dX8_layPortions_85
  | succ n1 ih =>
    skip
    refine lv_iload hx hb dX8_layPortions_12 (lv_at hl 0 rfl) ?_
    refine lv_if_lt (tgt := 84) hx hb dX8_layPortions_14 (by decide) (fun c6 => by exfalso; have t6 : y4.toInt < (0 : Int) := (tlt c6); omega) (fun c6 => ?_)
    refine lv_aload_n hx hb dX8_layPortions_17 rfl (lv_at hl 3 rfl) ?_
    refine va_get (D := (dC, dI)) (ci := 8) (v := .ref nO) (C := RX8) (T := TX8) (N := 53) hx hb hts hin8 hown hK hP 0 rfl rfl 41 (by decide) hw1 (fun _ h9 => h9) rfl dX8_layPortions_18 ?_
    refine lv_iload hx hb dX8_layPortions_21 (lv_at hl 0 rfl) ?_
    refine lv_iload_n hx hb dX8_layPortions_23 rfl (lv_at hl 1 rfl) ?_
    refine lv_bipush (v := 10) hx hb dX8_layPortions_24 (by decide) ?_
    refine lv_irem hx hb dX8_layPortions_26 (by decide) ?_
    refine lv_topi (fun x7 e7 => ?_)
    have f7 : x7.toInt = y3.toInt % 10 := by rw [e7]; exact tremc (by omega) (by decide)
    refine va_iast hx hb hK hP hD hS 1 0 rfl rfl (vin (by omega) (by omega)) dX8_layPortions_27 (fun H locs hP hD hS => ?_)
    replace hP : va_P (dC, dI) vwCl [(n, .inr (8, [.int mleft, .int mmetres, .int mshut, .int mshield, .int mtoday, .int mbagged, .int mwarmed, .ref nW, .ref nC, .int mmeals, .ref nQ, .ref nM, .ref nD, .ref nA, .ref nK, .int msights, .ref nP, .int mpadMany, .ref nE, .ref nF, .ref nG, .int macts, .int mgusty, .int mleakAct, .int mleakMuch, .int mendOfCan, .int mbadAct, .int mbadWhy, .int mburnt, .int mboiled, .ref nH, .ref nI, .ref nJ, .ref nL, .int mhadLeft, .int mhadToday, .int mhadBagged, .int mhadWarmed, .int mleaves, .int mdayThen, .int mcoldThen, .ref nO, .int ypm, .ref nT, .ref nU, .int mleakMany, .int mleakActs, .ref nV, .ref nX, .ref nY, .ref nZ, .int mkeptAt, .int misWriting])), (nO, .inl (cI, 6, .inl (upd yO y4.toNatClampNeg x7)))] H := hP
    replace hD : va_D A [(n, .inr (8, [.int mleft, .int mmetres, .int mshut, .int mshield, .int mtoday, .int mbagged, .int mwarmed, .ref nW, .ref nC, .int mmeals, .ref nQ, .ref nM, .ref nD, .ref nA, .ref nK, .int msights, .ref nP, .int mpadMany, .ref nE, .ref nF, .ref nG, .int macts, .int mgusty, .int mleakAct, .int mleakMuch, .int mendOfCan, .int mbadAct, .int mbadWhy, .int mburnt, .int mboiled, .ref nH, .ref nI, .ref nJ, .ref nL, .int mhadLeft, .int mhadToday, .int mhadBagged, .int mhadWarmed, .int mleaves, .int mdayThen, .int mcoldThen, .ref nO, .int ypm, .ref nT, .ref nU, .int mleakMany, .int mleakActs, .ref nV, .ref nX, .ref nY, .ref nZ, .int mkeptAt, .int misWriting])), (nO, .inl (cI, 6, .inl (upd yO y4.toNatClampNeg x7)))] := hD
    refine lv_aload_n hx hb dX8_layPortions_28 rfl (lv_at hl 3 rfl) ?_
    refine lv_dup hx hb dX8_layPortions_29 rfl ?_
    refine va_get (D := (dC, dI)) (ci := 8) (v := .int ypm) (C := RX8) (T := TX8) (N := 53) hx hb hts hin8 hown hK hP 0 rfl rfl 42 (by decide) hw0 (fun _ h9 => h9) rfl dX8_layPortions_30 ?_
    refine lv_aload_n hx hb dX8_layPortions_33 rfl (lv_at hl 3 rfl) ?_
    refine va_get (D := (dC, dI)) (ci := 8) (v := .ref nO) (C := RX8) (T := TX8) (N := 53) hx hb hts hin8 hown hK hP 0 rfl rfl 41 (by decide) hw1 (fun _ h9 => h9) rfl dX8_layPortions_34 ?_
    refine lv_iload hx hb dX8_layPortions_37 (lv_at hl 0 rfl) ?_
    refine va_iald hx hb hK hP 1 0 rfl rfl (vin (by omega) (by omega)) dX8_layPortions_39 ?_
    refine lv_topi (fun x8 e8 => ?_)
    have g8 : 0 ≤ x8.toInt ∧ x8.toInt ≤ 9 := by rw [e8]; exact rgI (rg_upd h_yO (by omega) (by omega)) (by omega) (by omega)
    refine lv_iadd hx hb dX8_layPortions_40 ?_
    refine lv_topi (fun x9 e9 => ?_)
    have f9 : x9.toInt = ypm.toInt + x8.toInt := by rw [e9]; exact tadd (by have t8 := tb ypm; have t8 := tb x8; omega) (by have t8 := tb ypm; have t8 := tb x8; omega)
    refine va_put (D := (dC, dI)) (ci := 8) (v := .int x9) (ty := .int) (C := RX8) (T := TX8) (N := 53) hx hb hts hin8 tyX8 tyX8_ok nmX8 hown hK hP hD hS 0 rfl rfl 42 (by decide) hw0 (fun _ h9 => h9) rfl (by decide +kernel) rfl rfl (Nat.le_of_ble_eq_true rfl) dX8_layPortions_41 (fun H locs hP hD hS => ?_)
    replace hP : va_P (dC, dI) vwCl [(n, .inr (8, [.int mleft, .int mmetres, .int mshut, .int mshield, .int mtoday, .int mbagged, .int mwarmed, .ref nW, .ref nC, .int mmeals, .ref nQ, .ref nM, .ref nD, .ref nA, .ref nK, .int msights, .ref nP, .int mpadMany, .ref nE, .ref nF, .ref nG, .int macts, .int mgusty, .int mleakAct, .int mleakMuch, .int mendOfCan, .int mbadAct, .int mbadWhy, .int mburnt, .int mboiled, .ref nH, .ref nI, .ref nJ, .ref nL, .int mhadLeft, .int mhadToday, .int mhadBagged, .int mhadWarmed, .int mleaves, .int mdayThen, .int mcoldThen, .ref nO, .int x9, .ref nT, .ref nU, .int mleakMany, .int mleakActs, .ref nV, .ref nX, .ref nY, .ref nZ, .int mkeptAt, .int misWriting])), (nO, .inl (cI, 6, .inl (upd yO y4.toNatClampNeg x7)))] H := hP
    replace hD : va_D A [(n, .inr (8, [.int mleft, .int mmetres, .int mshut, .int mshield, .int mtoday, .int mbagged, .int mwarmed, .ref nW, .ref nC, .int mmeals, .ref nQ, .ref nM, .ref nD, .ref nA, .ref nK, .int msights, .ref nP, .int mpadMany, .ref nE, .ref nF, .ref nG, .int macts, .int mgusty, .int mleakAct, .int mleakMuch, .int mendOfCan, .int mbadAct, .int mbadWhy, .int mburnt, .int mboiled, .ref nH, .ref nI, .ref nJ, .ref nL, .int mhadLeft, .int mhadToday, .int mhadBagged, .int mhadWarmed, .int mleaves, .int mdayThen, .int mcoldThen, .ref nO, .int x9, .ref nT, .ref nU, .int mleakMany, .int mleakActs, .ref nV, .ref nX, .ref nY, .ref nZ, .int mkeptAt, .int misWriting])), (nO, .inl (cI, 6, .inl (upd yO y4.toNatClampNeg x7)))] := hD
    refine lv_iload_n hx hb dX8_layPortions_44 rfl (lv_at hl 2 rfl) ?_
    refine lv_if_eq (tgt := 71) hx hb dX8_layPortions_45 (by decide) (fun c10 => ?_) (fun c10 => ?_)
    · have t10 : y2.toInt = (0 : Int) := (teq c10)
      refine lv_iconst (v := 0) hx hb dX8_layPortions_71 (by decide) ?_
      refine lv_istore_n (lv' := [(2, .int 0), (4, .int y4), (3, .int y3), (0, .ref n), (1, .int i0)]) hx hb dX8_layPortions_72 rfl hl (by decide) rfl (fun ls hl => ?_)
      refine lv_iload_n hx hb dX8_layPortions_73 rfl (lv_at hl 2 rfl) ?_
      refine lv_bipush (v := 10) hx hb dX8_layPortions_74 (by decide) ?_
      refine lv_idiv hx hb dX8_layPortions_76 (by decide) ?_
      refine lv_topi (fun x11 e11 => ?_)
      have f11 : x11.toInt = y3.toInt / 10 := by rw [e11]; exact tdivc (by omega) (by decide)
      refine lv_istore_n (lv' := [(3, .int x11), (2, .int 0), (4, .int y4), (0, .ref n), (1, .int i0)]) hx hb dX8_layPortions_77 rfl hl (by decide) rfl (fun ls hl => ?_)
      obtain ⟨x12, e12⟩ : ∃ y : Int32, y = y4 + Int32.ofInt (-1) := ⟨_, rfl⟩
      refine lv_iinc (v := x12) (lv' := [(4, .int x12), (3, .int x11), (2, .int 0), (0, .ref n), (1, .int i0)]) hx hb dX8_layPortions_78 hl (k := 2) rfl e12.symm (by decide) rfl (fun ls hl => ?_)
      have f12 : x12.toInt = y4.toInt + (-1) := by rw [e12]; exact tinc (by decide) (by have t8 := tb y4; omega) (by have t8 := tb y4; omega)
      refine lv_goto (tgt := 12) hx hb dX8_layPortions_81 (by decide) ?_
      have z13 : (0 : Int32).toInt = 0 := rfl
      exact ih (H := H) (locs := locs) (ls := ls) (y2 := 0) (y3 := x11) (y4 := x12) (yO := (upd yO y4.toNatClampNeg x7)) (ypm := x9) hS (by omega) (rg_upd h_yO (by omega) (by omega)) (Or.inl (by decide)) (by rw [psF_step (by omega) (by omega) (by omega), ← hsum]; have e9 : x8.toInt = x7.toInt := (by rw [e8, pk_us]); omega) (show lv_has ls 5 [(4, .int x12), (3, .int x11), (2, .int 0), (0, .ref n), (1, .int i0)] from lv_sub hl [0, 1, 2, 3, 4] rfl) (mx_subP (wc := [(n, .inr (8, [.int mleft, .int mmetres, .int mshut, .int mshield, .int mtoday, .int mbagged, .int mwarmed, .ref nW, .ref nC, .int mmeals, .ref nQ, .ref nM, .ref nD, .ref nA, .ref nK, .int msights, .ref nP, .int mpadMany, .ref nE, .ref nF, .ref nG, .int macts, .int mgusty, .int mleakAct, .int mleakMuch, .int mendOfCan, .int mbadAct, .int mbadWhy, .int mburnt, .int mboiled, .ref nH, .ref nI, .ref nJ, .ref nL, .int mhadLeft, .int mhadToday, .int mhadBagged, .int mhadWarmed, .int mleaves, .int mdayThen, .int mcoldThen, .ref nO, .int x9, .ref nT, .ref nU, .int mleakMany, .int mleakActs, .ref nV, .ref nX, .ref nY, .ref nZ, .int mkeptAt, .int misWriting])), (nO, .inl (cI, 6, .inl (upd yO y4.toNatClampNeg x7)))]) hP [0, 1] rfl) (hD.sub (ws' := [(n, .inr (8, [.int mleft, .int mmetres, .int mshut, .int mshield, .int mtoday, .int mbagged, .int mwarmed, .ref nW, .ref nC, .int mmeals, .ref nQ, .ref nM, .ref nD, .ref nA, .ref nK, .int msights, .ref nP, .int mpadMany, .ref nE, .ref nF, .ref nG, .int macts, .int mgusty, .int mleakAct, .int mleakMuch, .int mendOfCan, .int mbadAct, .int mbadWhy, .int mburnt, .int mboiled, .ref nH, .ref nI, .ref nJ, .ref nL, .int mhadLeft, .int mhadToday, .int mhadBagged, .int mhadWarmed, .int mleaves, .int mdayThen, .int mcoldThen, .ref nO, .int x9, .ref nT, .ref nU, .int mleakMany, .int mleakActs, .ref nV, .ref nX, .ref nY, .ref nZ, .int mkeptAt, .int misWriting])), (nO, .inl (cI, 6, .inl (upd yO y4.toNatClampNeg x7)))]) [0, 1] (by decide) rfl) (by omega)
    · have t10 : y2.toInt ≠ (0 : Int) := (tne c10)
      refine lv_aload_n hx hb dX8_layPortions_48 rfl (lv_at hl 3 rfl) ?_
      refine va_get (D := (dC, dI)) (ci := 8) (v := .ref nO) (C := RX8) (T := TX8) (N := 53) hx hb hts hin8 hown hK hP 0 rfl rfl 41 (by decide) hw1 (fun _ h9 => h9) rfl dX8_layPortions_49 ?_
      refine lv_iload hx hb dX8_layPortions_52 (lv_at hl 0 rfl) ?_
      refine va_iald hx hb hK hP 1 0 rfl rfl (vin (by omega) (by omega)) dX8_layPortions_54 ?_
      refine lv_topi (fun x14 e14 => ?_)
      have g14 : 0 ≤ x14.toInt ∧ x14.toInt ≤ 9 := by rw [e14]; exact rgI (rg_upd h_yO (by omega) (by omega)) (by omega) (by omega)
      refine lv_if_eq (tgt := 67) hx hb dX8_layPortions_55 (by decide) (fun c15 => ?_) (fun c15 => ?_)
      · have t15 : x14.toInt = (0 : Int) := (teq c15)
        refine lv_iconst (v := 1) hx hb dX8_layPortions_67 (by decide) ?_
        refine lv_goto (tgt := 72) hx hb dX8_layPortions_68 (by decide) ?_
        refine lv_istore_n (lv' := [(2, .int 1), (4, .int y4), (3, .int y3), (0, .ref n), (1, .int i0)]) hx hb dX8_layPortions_72 rfl hl (by decide) rfl (fun ls hl => ?_)
        refine lv_iload_n hx hb dX8_layPortions_73 rfl (lv_at hl 2 rfl) ?_
        refine lv_bipush (v := 10) hx hb dX8_layPortions_74 (by decide) ?_
        refine lv_idiv hx hb dX8_layPortions_76 (by decide) ?_
        refine lv_topi (fun x16 e16 => ?_)
        have f16 : x16.toInt = y3.toInt / 10 := by rw [e16]; exact tdivc (by omega) (by decide)
        refine lv_istore_n (lv' := [(3, .int x16), (2, .int 1), (4, .int y4), (0, .ref n), (1, .int i0)]) hx hb dX8_layPortions_77 rfl hl (by decide) rfl (fun ls hl => ?_)
        obtain ⟨x17, e17⟩ : ∃ y : Int32, y = y4 + Int32.ofInt (-1) := ⟨_, rfl⟩
        refine lv_iinc (v := x17) (lv' := [(4, .int x17), (3, .int x16), (2, .int 1), (0, .ref n), (1, .int i0)]) hx hb dX8_layPortions_78 hl (k := 2) rfl e17.symm (by decide) rfl (fun ls hl => ?_)
        have f17 : x17.toInt = y4.toInt + (-1) := by rw [e17]; exact tinc (by decide) (by have t8 := tb y4; omega) (by have t8 := tb y4; omega)
        refine lv_goto (tgt := 12) hx hb dX8_layPortions_81 (by decide) ?_
        have z18 : (1 : Int32).toInt = 1 := rfl
        exact ih (H := H) (locs := locs) (ls := ls) (y2 := 1) (y3 := x16) (y4 := x17) (yO := (upd yO y4.toNatClampNeg x7)) (ypm := x9) hS (by omega) (rg_upd h_yO (by omega) (by omega)) (Or.inr (fun j9 h1 h2 h3 => by by_cases q9 : j9 = y4.toNatClampNeg; (subst q9; rw [← e14] at h3; omega); (rw [pk_un q9] at h3; exact hall.resolve_left (by omega) j9 (by have q8 : j9 ≠ y4.toInt.toNat := q9; omega) h2 h3))) (by rw [psF_step (by omega) (by omega) (by omega), ← hsum]; have e9 : x8.toInt = x7.toInt := (by rw [e8, pk_us]); omega) (show lv_has ls 5 [(4, .int x17), (3, .int x16), (2, .int 1), (0, .ref n), (1, .int i0)] from lv_sub hl [0, 1, 2, 3, 4] rfl) (mx_subP (wc := [(n, .inr (8, [.int mleft, .int mmetres, .int mshut, .int mshield, .int mtoday, .int mbagged, .int mwarmed, .ref nW, .ref nC, .int mmeals, .ref nQ, .ref nM, .ref nD, .ref nA, .ref nK, .int msights, .ref nP, .int mpadMany, .ref nE, .ref nF, .ref nG, .int macts, .int mgusty, .int mleakAct, .int mleakMuch, .int mendOfCan, .int mbadAct, .int mbadWhy, .int mburnt, .int mboiled, .ref nH, .ref nI, .ref nJ, .ref nL, .int mhadLeft, .int mhadToday, .int mhadBagged, .int mhadWarmed, .int mleaves, .int mdayThen, .int mcoldThen, .ref nO, .int x9, .ref nT, .ref nU, .int mleakMany, .int mleakActs, .ref nV, .ref nX, .ref nY, .ref nZ, .int mkeptAt, .int misWriting])), (nO, .inl (cI, 6, .inl (upd yO y4.toNatClampNeg x7)))]) hP [0, 1] rfl) (hD.sub (ws' := [(n, .inr (8, [.int mleft, .int mmetres, .int mshut, .int mshield, .int mtoday, .int mbagged, .int mwarmed, .ref nW, .ref nC, .int mmeals, .ref nQ, .ref nM, .ref nD, .ref nA, .ref nK, .int msights, .ref nP, .int mpadMany, .ref nE, .ref nF, .ref nG, .int macts, .int mgusty, .int mleakAct, .int mleakMuch, .int mendOfCan, .int mbadAct, .int mbadWhy, .int mburnt, .int mboiled, .ref nH, .ref nI, .ref nJ, .ref nL, .int mhadLeft, .int mhadToday, .int mhadBagged, .int mhadWarmed, .int mleaves, .int mdayThen, .int mcoldThen, .ref nO, .int x9, .ref nT, .ref nU, .int mleakMany, .int mleakActs, .ref nV, .ref nX, .ref nY, .ref nZ, .int mkeptAt, .int misWriting])), (nO, .inl (cI, 6, .inl (upd yO y4.toNatClampNeg x7)))]) [0, 1] (by decide) rfl) (by omega)
      · have t15 : x14.toInt ≠ (0 : Int) := (tne c15)
        refine lv_aload_n hx hb dX8_layPortions_58 rfl (lv_at hl 3 rfl) ?_
        refine lv_iload hx hb dX8_layPortions_59 (lv_at hl 0 rfl) ?_
        refine mx_i (wr := [(nO, .inl (cI, 6, .inl (upd yO y4.toNatClampNeg x7)))]) (va_runV (As := [.int y4]) (rest := []) ⟨hx, hb, hml, hown, hts⟩ (c_X8_isMeal l dC dI cI cZ cK tS aK aV n y4 mleft mmetres mshut mshield mtoday mbagged mwarmed nW nC mmeals nQ nM nD nA nK msights nP mpadMany nE nF nG macts mgusty mleakAct mleakMuch mendOfCan mbadAct mbadWhy mburnt mboiled nH nI nJ nL mhadLeft mhadToday mhadBagged mhadWarmed mleaves mdayThen mcoldThen nO x9 nT nU mleakMany mleakActs nV nX nY nZ mkeptAt misWriting H.size) (cwV 1 hts (gw_v (fun _ h9 => List.mem_cons_of_mem _ h9) wm_468 wm_469 wm_470 wm_5 wm_471) rfl rfl rfl (by decide +kernel) ⟨Nat.le_of_ble_eq_true rfl, Nat.le_of_ble_eq_true rfl⟩) (mx_preV (C := RX8) (T := TX8) (N := 53) (ci := 8) hKx hP hD hS hA [0] (by decide) rfl rfl rfl) rfl rfl hl.1 rfl (lv_room (Nat.le_of_ble_eq_true rfl)) dX8_layPortions_61 ⟨Nat.le_of_ble_eq_true rfl, Nat.le_of_ble_eq_true rfl⟩) hP hD hS hA [0] [1] rfl rfl (by decide) (by decide) (fun r19 u19 H locs hq19 hP hD hS => ?_)
        replace hP : va_P (dC, dI) vwCl [(nO, .inl (cI, 6, .inl (upd yO y4.toNatClampNeg x7))), (n, .inr (8, [.int mleft, .int mmetres, .int mshut, .int mshield, .int mtoday, .int mbagged, .int mwarmed, .ref nW, .ref nC, .int mmeals, .ref nQ, .ref nM, .ref nD, .ref nA, .ref nK, .int msights, .ref nP, .int mpadMany, .ref nE, .ref nF, .ref nG, .int macts, .int mgusty, .int mleakAct, .int mleakMuch, .int mendOfCan, .int mbadAct, .int mbadWhy, .int mburnt, .int mboiled, .ref nH, .ref nI, .ref nJ, .ref nL, .int mhadLeft, .int mhadToday, .int mhadBagged, .int mhadWarmed, .int mleaves, .int mdayThen, .int mcoldThen, .ref nO, .int x9, .ref nT, .ref nU, .int mleakMany, .int mleakActs, .ref nV, .ref nX, .ref nY, .ref nZ, .int mkeptAt, .int misWriting]))] H := hP
        replace hD : va_D A [(nO, .inl (cI, 6, .inl (upd yO y4.toNatClampNeg x7))), (n, .inr (8, [.int mleft, .int mmetres, .int mshut, .int mshield, .int mtoday, .int mbagged, .int mwarmed, .ref nW, .ref nC, .int mmeals, .ref nQ, .ref nM, .ref nD, .ref nA, .ref nK, .int msights, .ref nP, .int mpadMany, .ref nE, .ref nF, .ref nG, .int macts, .int mgusty, .int mleakAct, .int mleakMuch, .int mendOfCan, .int mbadAct, .int mbadWhy, .int mburnt, .int mboiled, .ref nH, .ref nI, .ref nJ, .ref nL, .int mhadLeft, .int mhadToday, .int mhadBagged, .int mhadWarmed, .int mleaves, .int mdayThen, .int mcoldThen, .ref nO, .int x9, .ref nT, .ref nU, .int mleakMany, .int mleakActs, .ref nV, .ref nX, .ref nY, .ref nZ, .int mkeptAt, .int misWriting]))] := hD
        obtain ⟨hx19_0, hr19⟩ := hq19
        replace hx19_0 : r19.toInt ≠ 1 ∨ bt mmeals y4.toNatClampNeg = true := hx19_0
        rcases hr19 with ⟨rfl, hf19⟩ | ⟨rfl, hf19⟩
        · have hf19 : 0 ≤ y4.toInt ∧ y4.toInt ≤ 5 := hf19
          refine lv_if_eq (tgt := 71) hx hb dX8_layPortions_64 (by decide) (fun c20 => absurd c20 (by decide)) (fun c20 => ?_)
          refine lv_iconst (v := 1) hx hb dX8_layPortions_67 (by decide) ?_
          refine lv_goto (tgt := 72) hx hb dX8_layPortions_68 (by decide) ?_
          refine lv_istore_n (lv' := [(2, .int 1), (4, .int y4), (3, .int y3), (0, .ref n), (1, .int i0)]) hx hb dX8_layPortions_72 rfl hl (by decide) rfl (fun ls hl => ?_)
          refine lv_iload_n hx hb dX8_layPortions_73 rfl (lv_at hl 2 rfl) ?_
          refine lv_bipush (v := 10) hx hb dX8_layPortions_74 (by decide) ?_
          refine lv_idiv hx hb dX8_layPortions_76 (by decide) ?_
          refine lv_topi (fun x21 e21 => ?_)
          have f21 : x21.toInt = y3.toInt / 10 := by rw [e21]; exact tdivc (by omega) (by decide)
          refine lv_istore_n (lv' := [(3, .int x21), (2, .int 1), (4, .int y4), (0, .ref n), (1, .int i0)]) hx hb dX8_layPortions_77 rfl hl (by decide) rfl (fun ls hl => ?_)
          obtain ⟨x22, e22⟩ : ∃ y : Int32, y = y4 + Int32.ofInt (-1) := ⟨_, rfl⟩
          refine lv_iinc (v := x22) (lv' := [(4, .int x22), (3, .int x21), (2, .int 1), (0, .ref n), (1, .int i0)]) hx hb dX8_layPortions_78 hl (k := 2) rfl e22.symm (by decide) rfl (fun ls hl => ?_)
          have f22 : x22.toInt = y4.toInt + (-1) := by rw [e22]; exact tinc (by decide) (by have t8 := tb y4; omega) (by have t8 := tb y4; omega)
          refine lv_goto (tgt := 12) hx hb dX8_layPortions_81 (by decide) ?_
          have z23 : (1 : Int32).toInt = 1 := rfl
          exact ih (H := H) (locs := locs) (ls := ls) (y2 := 1) (y3 := x21) (y4 := x22) (yO := (upd yO y4.toNatClampNeg x7)) (ypm := x9) hS (by omega) (rg_upd h_yO (by omega) (by omega)) (Or.inr (fun j9 h1 h2 h3 => by by_cases q9 : j9 = y4.toNatClampNeg; (subst q9; exact hx19_0.resolve_left (by decide)); (rw [pk_un q9] at h3; exact hall.resolve_left (by omega) j9 (by have q8 : j9 ≠ y4.toInt.toNat := q9; omega) h2 h3))) (by rw [psF_step (by omega) (by omega) (by omega), ← hsum]; have e9 : x8.toInt = x7.toInt := (by rw [e8, pk_us]); omega) (show lv_has ls 5 [(4, .int x22), (3, .int x21), (2, .int 1), (0, .ref n), (1, .int i0)] from lv_sub hl [0, 1, 2, 3, 4] rfl) (mx_subP (wc := [(n, .inr (8, [.int mleft, .int mmetres, .int mshut, .int mshield, .int mtoday, .int mbagged, .int mwarmed, .ref nW, .ref nC, .int mmeals, .ref nQ, .ref nM, .ref nD, .ref nA, .ref nK, .int msights, .ref nP, .int mpadMany, .ref nE, .ref nF, .ref nG, .int macts, .int mgusty, .int mleakAct, .int mleakMuch, .int mendOfCan, .int mbadAct, .int mbadWhy, .int mburnt, .int mboiled, .ref nH, .ref nI, .ref nJ, .ref nL, .int mhadLeft, .int mhadToday, .int mhadBagged, .int mhadWarmed, .int mleaves, .int mdayThen, .int mcoldThen, .ref nO, .int x9, .ref nT, .ref nU, .int mleakMany, .int mleakActs, .ref nV, .ref nX, .ref nY, .ref nZ, .int mkeptAt, .int misWriting])), (nO, .inl (cI, 6, .inl (upd yO y4.toNatClampNeg x7)))]) hP [1, 0] rfl) (hD.sub (ws' := [(n, .inr (8, [.int mleft, .int mmetres, .int mshut, .int mshield, .int mtoday, .int mbagged, .int mwarmed, .ref nW, .ref nC, .int mmeals, .ref nQ, .ref nM, .ref nD, .ref nA, .ref nK, .int msights, .ref nP, .int mpadMany, .ref nE, .ref nF, .ref nG, .int macts, .int mgusty, .int mleakAct, .int mleakMuch, .int mendOfCan, .int mbadAct, .int mbadWhy, .int mburnt, .int mboiled, .ref nH, .ref nI, .ref nJ, .ref nL, .int mhadLeft, .int mhadToday, .int mhadBagged, .int mhadWarmed, .int mleaves, .int mdayThen, .int mcoldThen, .ref nO, .int x9, .ref nT, .ref nU, .int mleakMany, .int mleakActs, .ref nV, .ref nX, .ref nY, .ref nZ, .int mkeptAt, .int misWriting])), (nO, .inl (cI, 6, .inl (upd yO y4.toNatClampNeg x7)))]) [1, 0] (by decide) rfl) (by omega)
        · skip
          refine lv_if_eq (tgt := 71) hx hb dX8_layPortions_64 (by decide) (fun c24 => ?_) (fun c24 => absurd c24 (by decide))
          refine lv_iconst (v := 0) hx hb dX8_layPortions_71 (by decide) ?_
          refine lv_istore_n (lv' := [(2, .int 0), (4, .int y4), (3, .int y3), (0, .ref n), (1, .int i0)]) hx hb dX8_layPortions_72 rfl hl (by decide) rfl (fun ls hl => ?_)
          refine lv_iload_n hx hb dX8_layPortions_73 rfl (lv_at hl 2 rfl) ?_
          refine lv_bipush (v := 10) hx hb dX8_layPortions_74 (by decide) ?_
          refine lv_idiv hx hb dX8_layPortions_76 (by decide) ?_
          refine lv_topi (fun x25 e25 => ?_)
          have f25 : x25.toInt = y3.toInt / 10 := by rw [e25]; exact tdivc (by omega) (by decide)
          refine lv_istore_n (lv' := [(3, .int x25), (2, .int 0), (4, .int y4), (0, .ref n), (1, .int i0)]) hx hb dX8_layPortions_77 rfl hl (by decide) rfl (fun ls hl => ?_)
          obtain ⟨x26, e26⟩ : ∃ y : Int32, y = y4 + Int32.ofInt (-1) := ⟨_, rfl⟩
          refine lv_iinc (v := x26) (lv' := [(4, .int x26), (3, .int x25), (2, .int 0), (0, .ref n), (1, .int i0)]) hx hb dX8_layPortions_78 hl (k := 2) rfl e26.symm (by decide) rfl (fun ls hl => ?_)
          have f26 : x26.toInt = y4.toInt + (-1) := by rw [e26]; exact tinc (by decide) (by have t8 := tb y4; omega) (by have t8 := tb y4; omega)
          refine lv_goto (tgt := 12) hx hb dX8_layPortions_81 (by decide) ?_
          have z27 : (0 : Int32).toInt = 0 := rfl
          exact ih (H := H) (locs := locs) (ls := ls) (y2 := 0) (y3 := x25) (y4 := x26) (yO := (upd yO y4.toNatClampNeg x7)) (ypm := x9) hS (by omega) (rg_upd h_yO (by omega) (by omega)) (Or.inl (by decide)) (by rw [psF_step (by omega) (by omega) (by omega), ← hsum]; have e9 : x8.toInt = x7.toInt := (by rw [e8, pk_us]); omega) (show lv_has ls 5 [(4, .int x26), (3, .int x25), (2, .int 0), (0, .ref n), (1, .int i0)] from lv_sub hl [0, 1, 2, 3, 4] rfl) (mx_subP (wc := [(n, .inr (8, [.int mleft, .int mmetres, .int mshut, .int mshield, .int mtoday, .int mbagged, .int mwarmed, .ref nW, .ref nC, .int mmeals, .ref nQ, .ref nM, .ref nD, .ref nA, .ref nK, .int msights, .ref nP, .int mpadMany, .ref nE, .ref nF, .ref nG, .int macts, .int mgusty, .int mleakAct, .int mleakMuch, .int mendOfCan, .int mbadAct, .int mbadWhy, .int mburnt, .int mboiled, .ref nH, .ref nI, .ref nJ, .ref nL, .int mhadLeft, .int mhadToday, .int mhadBagged, .int mhadWarmed, .int mleaves, .int mdayThen, .int mcoldThen, .ref nO, .int x9, .ref nT, .ref nU, .int mleakMany, .int mleakActs, .ref nV, .ref nX, .ref nY, .ref nZ, .int mkeptAt, .int misWriting])), (nO, .inl (cI, 6, .inl (upd yO y4.toNatClampNeg x7)))]) hP [1, 0] rfl) (hD.sub (ws' := [(n, .inr (8, [.int mleft, .int mmetres, .int mshut, .int mshield, .int mtoday, .int mbagged, .int mwarmed, .ref nW, .ref nC, .int mmeals, .ref nQ, .ref nM, .ref nD, .ref nA, .ref nK, .int msights, .ref nP, .int mpadMany, .ref nE, .ref nF, .ref nG, .int macts, .int mgusty, .int mleakAct, .int mleakMuch, .int mendOfCan, .int mbadAct, .int mbadWhy, .int mburnt, .int mboiled, .ref nH, .ref nI, .ref nJ, .ref nL, .int mhadLeft, .int mhadToday, .int mhadBagged, .int mhadWarmed, .int mleaves, .int mdayThen, .int mcoldThen, .ref nO, .int x9, .ref nT, .ref nU, .int mleakMany, .int mleakActs, .ref nV, .ref nX, .ref nY, .ref nZ, .int mkeptAt, .int misWriting])), (nO, .inl (cI, 6, .inl (upd yO y4.toNatClampNeg x7)))]) [1, 0] (by decide) rfl) (by omega)
set_option maxHeartbeats 4000000 in
set_option maxRecDepth 100000 in
theorem c_X8_shared (l : Launch) (dC : Nat → ClassId) (dI : Nat → Nat → Nat) (cI cZ cK : ClassId) (tS : Nat) (aK aV : Nat → Nat) (n : Nat) (i0 : Int32) (i1 : Int32) (mleft : Int32) (mmetres : Int32) (mshut : Int32) (mshield : Int32) (mtoday : Int32) (mbagged : Int32) (mwarmed : Int32) (nW : Nat) (nC : Nat) (mmeals : Int32) (nQ : Nat) (nM : Nat) (nD : Nat) (nA : Nat) (nK : Nat) (msights : Int32) (nP : Nat) (mpadMany : Int32) (nE : Nat) (nF : Nat) (nG : Nat) (macts : Int32) (mgusty : Int32) (mleakAct : Int32) (mleakMuch : Int32) (mendOfCan : Int32) (mbadAct : Int32) (mbadWhy : Int32) (mburnt : Int32) (mboiled : Int32) (nH : Nat) (nI : Nat) (nJ : Nat) (nL : Nat) (mhadLeft : Int32) (mhadToday : Int32) (mhadBagged : Int32) (mhadWarmed : Int32) (mleaves : Int32) (mdayThen : Int32) (mcoldThen : Int32) (nO : Nat) (mportionMany : Int32) (nT : Nat) (nU : Nat) (mleakMany : Int32) (mleakActs : Int32) (nV : Nat) (nX : Nat) (nY : Nat) (nZ : Nat) (mkeptAt : Int32) (misWriting : Int32) (gO : Nat → Int32) (gQ : Nat → Int32) (gM : Nat → Int32) (gW : Nat → Int32) (sz : Nat) (h_gO : rg gO 6 0 9) (h_gQ : rg gQ 6 0 4) (h_gM : rg gM 6 0 60) (h_gW : rg gW 14 0 4) (hmq : mqOK mmeals gQ) : Ci l yX8_shared (wq yX8_shared cX8_shared 7 (some .int)) ({ frames := 3, cells := 0, slots := 0, locals := 70 }) dC dI cI cZ cK tS aK aV [.ref n, .int i0, .int i1] sz [(n, .inr (8, [.int mleft, .int mmetres, .int mshut, .int mshield, .int mtoday, .int mbagged, .int mwarmed, .ref nW, .ref nC, .int mmeals, .ref nQ, .ref nM, .ref nD, .ref nA, .ref nK, .int msights, .ref nP, .int mpadMany, .ref nE, .ref nF, .ref nG, .int macts, .int mgusty, .int mleakAct, .int mleakMuch, .int mendOfCan, .int mbadAct, .int mbadWhy, .int mburnt, .int mboiled, .ref nH, .ref nI, .ref nJ, .ref nL, .int mhadLeft, .int mhadToday, .int mhadBagged, .int mhadWarmed, .int mleaves, .int mdayThen, .int mcoldThen, .ref nO, .int mportionMany, .ref nT, .ref nU, .int mleakMany, .int mleakActs, .ref nV, .ref nX, .ref nY, .ref nZ, .int mkeptAt, .int misWriting])), (nO, .inl (cI, 6, .inl gO)), (nQ, .inl (cI, 6, .inl gQ)), (nM, .inl (cI, 6, .inl gM)), (nW, .inl (cI, 14, .inl gW))] (fun (r : Int32) (u : (Nat → Nat → Int32) × (Nat → Int32) × (Nat → Int64)) => rg (u.1 0) 6 0 9) (fun u => [(n, .inr (8, [.int mleft, .int mmetres, .int mshut, .int mshield, .int mtoday, .int mbagged, .int mwarmed, .ref nW, .ref nC, .int mmeals, .ref nQ, .ref nM, .ref nD, .ref nA, .ref nK, .int msights, .ref nP, .int mpadMany, .ref nE, .ref nF, .ref nG, .int macts, .int mgusty, .int mleakAct, .int mleakMuch, .int mendOfCan, .int mbadAct, .int mbadWhy, .int mburnt, .int mboiled, .ref nH, .ref nI, .ref nJ, .ref nL, .int mhadLeft, .int mhadToday, .int mhadBagged, .int mhadWarmed, .int mleaves, .int mdayThen, .int mcoldThen, .ref nO, .int (u.2.1 0), .ref nT, .ref nU, .int mleakMany, .int mleakActs, .ref nV, .ref nX, .ref nY, .ref nZ, .int mkeptAt, .int misWriting])), (nO, .inl (cI, 6, .inl (u.1 0))), (nQ, .inl (cI, 6, .inl gQ)), (nM, .inl (cI, 6, .inl gM)), (nW, .inl (cI, 14, .inl gW))]) := by
  refine Met.ofW (cc := cX8_shared) (maxL := 7) (ret := (some .int)) (by decide) rfl ?_
  intro p e s m args below meth c s₁ B hml hv
  obtain ⟨rfl, hsz, hP, hKx, hD0⟩ := hv
  have hx := B.exec
  have hb := B.bytes
  have hr := B.returns
  have hts := atoms_spec (ws := wq yX8_shared cX8_shared 7 (some .int)) B.pre
  have hown : s.vm.findClass RX8 = some m.cls := findClass_of_methodNamed B.named
  have hlocks := B.notSynchronized
  subst hsz
  have hD := hD0.self (sz := s.heap.size)
  generalize hAe : va_A [(n, .inr (8, [.int mleft, .int mmetres, .int mshut, .int mshield, .int mtoday, .int mbagged, .int mwarmed, .ref nW, .ref nC, .int mmeals, .ref nQ, .ref nM, .ref nD, .ref nA, .ref nK, .int msights, .ref nP, .int mpadMany, .ref nE, .ref nF, .ref nG, .int macts, .int mgusty, .int mleakAct, .int mleakMuch, .int mendOfCan, .int mbadAct, .int mbadWhy, .int mburnt, .int mboiled, .ref nH, .ref nI, .ref nJ, .ref nL, .int mhadLeft, .int mhadToday, .int mhadBagged, .int mhadWarmed, .int mleaves, .int mdayThen, .int mcoldThen, .ref nO, .int mportionMany, .ref nT, .ref nU, .int mleakMany, .int mleakActs, .ref nV, .ref nX, .ref nY, .ref nZ, .int mkeptAt, .int misWriting])), (nO, .inl (cI, 6, .inl gO)), (nQ, .inl (cI, 6, .inl gQ)), (nM, .inl (cI, 6, .inl gM)), (nW, .inl (cI, 14, .inl gW))] s.heap.size = A at hD hKx ⊢
  have hA : ∀ q : Nat, s.heap.size ≤ q → A q := fun q h => by rw [← hAe]; exact Or.inr h
  have hS : va_S A s.heap s.heap [] := va_S.rf
  have hP : va_P (dC, dI) vwCl [(n, .inr (8, [.int mleft, .int mmetres, .int mshut, .int mshield, .int mtoday, .int mbagged, .int mwarmed, .ref nW, .ref nC, .int mmeals, .ref nQ, .ref nM, .ref nD, .ref nA, .ref nK, .int msights, .ref nP, .int mpadMany, .ref nE, .ref nF, .ref nG, .int macts, .int mgusty, .int mleakAct, .int mleakMuch, .int mendOfCan, .int mbadAct, .int mbadWhy, .int mburnt, .int mboiled, .ref nH, .ref nI, .ref nJ, .ref nL, .int mhadLeft, .int mhadToday, .int mhadBagged, .int mhadWarmed, .int mleaves, .int mdayThen, .int mcoldThen, .ref nO, .int mportionMany, .ref nT, .ref nU, .int mleakMany, .int mleakActs, .ref nV, .ref nX, .ref nY, .ref nZ, .int mkeptAt, .int misWriting])), (nO, .inl (cI, 6, .inl gO)), (nQ, .inl (cI, 6, .inl gQ)), (nM, .inl (cI, 6, .inl gM)), (nW, .inl (cI, 14, .inl gW))] s.heap := hP
  have hl := lv_entry ([.ref n, .int i0, .int i1]) (n := 7) (Nat.le_of_ble_eq_true rfl)
  rw [lg_entry_eq]
  generalize (lg_sl ([.ref n, .int i0, .int i1]) ++ List.replicate (7 - (lg_sl ([.ref n, .int i0, .int i1])).length) Slot.unset).toArray = ls at hl ⊢
  have hl : lv_has ls 7 [(0, .ref n), (1, .int i0), (2, .int i1)] := hl
  have hK := hKx.1
  have hin8 := fun w9 h9 => List.mem_cons_of_mem (Cond.code yX8_shared cX8_shared 7 (some .int)) (inlX8 w9 h9)
  have hw0 := hts (.fieldLink RX8 55 "OneCanModel" "portion" "[I") (List.mem_cons_of_mem _ wm_127)
  have hw1 := hts (.fieldLink RX8 16 "OneCanModel" "quarts" "[I") (List.mem_cons_of_mem _ wm_114)
  have hw2 := hts (.fieldLink RX8 7 "OneCanModel" "wind" "[I") (List.mem_cons_of_mem _ wm_112)
  have hw3 := hts (.fieldLink RX8 19 "OneCanModel" "minutes" "[I") (List.mem_cons_of_mem _ wm_115)
  refine lv_iload_n hx hb dX8_shared_0 rfl (lv_at hl 1 rfl) ?_
  refine mx_i (wr := [(n, .inr (8, [.int mleft, .int mmetres, .int mshut, .int mshield, .int mtoday, .int mbagged, .int mwarmed, .ref nW, .ref nC, .int mmeals, .ref nQ, .ref nM, .ref nD, .ref nA, .ref nK, .int msights, .ref nP, .int mpadMany, .ref nE, .ref nF, .ref nG, .int macts, .int mgusty, .int mleakAct, .int mleakMuch, .int mendOfCan, .int mbadAct, .int mbadWhy, .int mburnt, .int mboiled, .ref nH, .ref nI, .ref nJ, .ref nL, .int mhadLeft, .int mhadToday, .int mhadBagged, .int mhadWarmed, .int mleaves, .int mdayThen, .int mcoldThen, .ref nO, .int mportionMany, .ref nT, .ref nU, .int mleakMany, .int mleakActs, .ref nV, .ref nX, .ref nY, .ref nZ, .int mkeptAt, .int misWriting])), (nO, .inl (cI, 6, .inl gO)), (nQ, .inl (cI, 6, .inl gQ)), (nM, .inl (cI, 6, .inl gM)), (nW, .inl (cI, 14, .inl gW))]) (va_runS (As := [.int i0]) (rest := []) ⟨hx, hb, hml, hown, hts⟩ (c_X8_arePortions l dC dI cI cZ cK tS aK aV i0 s.heap.size) (va_cwS 1 hts (gw_s (fun _ h9 => List.mem_cons_of_mem _ h9) wm_603 wm_604 wm_5 wm_605) rfl rfl rfl (by decide +kernel) ⟨Nat.le_of_ble_eq_true rfl, Nat.le_of_ble_eq_true rfl⟩) (mx_preS hKx hP hD hS hA [] (by decide) rfl) rfl rfl hl.1 rfl (lv_room (Nat.le_of_ble_eq_true rfl)) dX8_shared_1 ⟨Nat.le_of_ble_eq_true rfl, Nat.le_of_ble_eq_true rfl⟩) hP hD hS hA [] [0, 1, 2, 3, 4] rfl rfl (by decide) (by decide) (fun r1 u1 H locs hq1 hP hD hS => ?_)
  replace hP : va_P (dC, dI) vwCl [(n, .inr (8, [.int mleft, .int mmetres, .int mshut, .int mshield, .int mtoday, .int mbagged, .int mwarmed, .ref nW, .ref nC, .int mmeals, .ref nQ, .ref nM, .ref nD, .ref nA, .ref nK, .int msights, .ref nP, .int mpadMany, .ref nE, .ref nF, .ref nG, .int macts, .int mgusty, .int mleakAct, .int mleakMuch, .int mendOfCan, .int mbadAct, .int mbadWhy, .int mburnt, .int mboiled, .ref nH, .ref nI, .ref nJ, .ref nL, .int mhadLeft, .int mhadToday, .int mhadBagged, .int mhadWarmed, .int mleaves, .int mdayThen, .int mcoldThen, .ref nO, .int mportionMany, .ref nT, .ref nU, .int mleakMany, .int mleakActs, .ref nV, .ref nX, .ref nY, .ref nZ, .int mkeptAt, .int misWriting])), (nO, .inl (cI, 6, .inl gO)), (nQ, .inl (cI, 6, .inl gQ)), (nM, .inl (cI, 6, .inl gM)), (nW, .inl (cI, 14, .inl gW))] H := hP
  replace hD : va_D A [(n, .inr (8, [.int mleft, .int mmetres, .int mshut, .int mshield, .int mtoday, .int mbagged, .int mwarmed, .ref nW, .ref nC, .int mmeals, .ref nQ, .ref nM, .ref nD, .ref nA, .ref nK, .int msights, .ref nP, .int mpadMany, .ref nE, .ref nF, .ref nG, .int macts, .int mgusty, .int mleakAct, .int mleakMuch, .int mendOfCan, .int mbadAct, .int mbadWhy, .int mburnt, .int mboiled, .ref nH, .ref nI, .ref nJ, .ref nL, .int mhadLeft, .int mhadToday, .int mhadBagged, .int mhadWarmed, .int mleaves, .int mdayThen, .int mcoldThen, .ref nO, .int mportionMany, .ref nT, .ref nU, .int mleakMany, .int mleakActs, .ref nV, .ref nX, .ref nY, .ref nZ, .int mkeptAt, .int misWriting])), (nO, .inl (cI, 6, .inl gO)), (nQ, .inl (cI, 6, .inl gQ)), (nM, .inl (cI, 6, .inl gM)), (nW, .inl (cI, 14, .inl gW))] := hD
  rcases hq1 with ⟨rfl, hf1⟩ | ⟨rfl, hf1⟩
  · have hf1 : 0 ≤ i0.toInt ∧ i0.toInt ≤ 999999 := hf1
    refine lv_if_ne (tgt := 10) hx hb dX8_shared_4 (by decide) (fun c2 => ?_) (fun c2 => absurd c2 (by decide))
    refine lv_iload_n hx hb dX8_shared_10 rfl (lv_at hl 2 rfl) ?_
    refine mx_i (wr := [(n, .inr (8, [.int mleft, .int mmetres, .int mshut, .int mshield, .int mtoday, .int mbagged, .int mwarmed, .ref nW, .ref nC, .int mmeals, .ref nQ, .ref nM, .ref nD, .ref nA, .ref nK, .int msights, .ref nP, .int mpadMany, .ref nE, .ref nF, .ref nG, .int macts, .int mgusty, .int mleakAct, .int mleakMuch, .int mendOfCan, .int mbadAct, .int mbadWhy, .int mburnt, .int mboiled, .ref nH, .ref nI, .ref nJ, .ref nL, .int mhadLeft, .int mhadToday, .int mhadBagged, .int mhadWarmed, .int mleaves, .int mdayThen, .int mcoldThen, .ref nO, .int mportionMany, .ref nT, .ref nU, .int mleakMany, .int mleakActs, .ref nV, .ref nX, .ref nY, .ref nZ, .int mkeptAt, .int misWriting])), (nO, .inl (cI, 6, .inl gO)), (nQ, .inl (cI, 6, .inl gQ)), (nM, .inl (cI, 6, .inl gM)), (nW, .inl (cI, 14, .inl gW))]) (va_runS (As := [.int i1]) (rest := []) ⟨hx, hb, hml, hown, hts⟩ (c_X8_isDay l dC dI cI cZ cK tS aK aV i1 H.size) (va_cwS 1 hts (gw_s (fun _ h9 => List.mem_cons_of_mem _ h9) wm_178 wm_179 wm_5 wm_180) rfl rfl rfl (by decide +kernel) ⟨Nat.le_of_ble_eq_true rfl, Nat.le_of_ble_eq_true rfl⟩) (mx_preS hKx hP hD hS hA [] (by decide) rfl) rfl rfl hl.1 rfl (lv_room (Nat.le_of_ble_eq_true rfl)) dX8_shared_11 ⟨Nat.le_of_ble_eq_true rfl, Nat.le_of_ble_eq_true rfl⟩) hP hD hS hA [] [0, 1, 2, 3, 4] rfl rfl (by decide) (by decide) (fun r3 u3 H locs hq3 hP hD hS => ?_)
    replace hP : va_P (dC, dI) vwCl [(n, .inr (8, [.int mleft, .int mmetres, .int mshut, .int mshield, .int mtoday, .int mbagged, .int mwarmed, .ref nW, .ref nC, .int mmeals, .ref nQ, .ref nM, .ref nD, .ref nA, .ref nK, .int msights, .ref nP, .int mpadMany, .ref nE, .ref nF, .ref nG, .int macts, .int mgusty, .int mleakAct, .int mleakMuch, .int mendOfCan, .int mbadAct, .int mbadWhy, .int mburnt, .int mboiled, .ref nH, .ref nI, .ref nJ, .ref nL, .int mhadLeft, .int mhadToday, .int mhadBagged, .int mhadWarmed, .int mleaves, .int mdayThen, .int mcoldThen, .ref nO, .int mportionMany, .ref nT, .ref nU, .int mleakMany, .int mleakActs, .ref nV, .ref nX, .ref nY, .ref nZ, .int mkeptAt, .int misWriting])), (nO, .inl (cI, 6, .inl gO)), (nQ, .inl (cI, 6, .inl gQ)), (nM, .inl (cI, 6, .inl gM)), (nW, .inl (cI, 14, .inl gW))] H := hP
    replace hD : va_D A [(n, .inr (8, [.int mleft, .int mmetres, .int mshut, .int mshield, .int mtoday, .int mbagged, .int mwarmed, .ref nW, .ref nC, .int mmeals, .ref nQ, .ref nM, .ref nD, .ref nA, .ref nK, .int msights, .ref nP, .int mpadMany, .ref nE, .ref nF, .ref nG, .int macts, .int mgusty, .int mleakAct, .int mleakMuch, .int mendOfCan, .int mbadAct, .int mbadWhy, .int mburnt, .int mboiled, .ref nH, .ref nI, .ref nJ, .ref nL, .int mhadLeft, .int mhadToday, .int mhadBagged, .int mhadWarmed, .int mleaves, .int mdayThen, .int mcoldThen, .ref nO, .int mportionMany, .ref nT, .ref nU, .int mleakMany, .int mleakActs, .ref nV, .ref nX, .ref nY, .ref nZ, .int mkeptAt, .int misWriting])), (nO, .inl (cI, 6, .inl gO)), (nQ, .inl (cI, 6, .inl gQ)), (nM, .inl (cI, 6, .inl gM)), (nW, .inl (cI, 14, .inl gW))] := hD
    rcases hq3 with ⟨rfl, hf3⟩ | ⟨rfl, hf3⟩
    · have hf3 : 0 ≤ i1.toInt ∧ i1.toInt ≤ 13 := hf3
      refine lv_if_eq (tgt := 25) hx hb dX8_shared_14 (by decide) (fun c4 => absurd c4 (by decide)) (fun c4 => ?_)
      refine lv_aload_n hx hb dX8_shared_17 rfl (lv_at hl 0 rfl) ?_
      refine lv_iload_n hx hb dX8_shared_18 rfl (lv_at hl 1 rfl) ?_
      refine mx_i (wr := [(nQ, .inl (cI, 6, .inl gQ)), (nM, .inl (cI, 6, .inl gM)), (nW, .inl (cI, 14, .inl gW))]) (va_runV (As := [.int i0]) (rest := []) ⟨hx, hb, hml, hown, hts⟩ (c_X8_layPortions l dC dI cI cZ cK tS aK aV n i0 mleft mmetres mshut mshield mtoday mbagged mwarmed nW nC mmeals nQ nM nD nA nK msights nP mpadMany nE nF nG macts mgusty mleakAct mleakMuch mendOfCan mbadAct mbadWhy mburnt mboiled nH nI nJ nL mhadLeft mhadToday mhadBagged mhadWarmed mleaves mdayThen mcoldThen nO mportionMany nT nU mleakMany mleakActs nV nX nY nZ mkeptAt misWriting gO H.size h_gO (by first | omega | decide | assumption | trivial)) (cwV 1 hts (gw_v (fun _ h9 => List.mem_cons_of_mem _ h9) wm_607 wm_608 wm_609 wm_5 wm_610) rfl rfl rfl (by decide +kernel) ⟨Nat.le_of_ble_eq_true rfl, Nat.le_of_ble_eq_true rfl⟩) (mx_preV (C := RX8) (T := TX8) (N := 53) (ci := 8) hKx hP hD hS hA [0, 1] (by decide) rfl rfl rfl) rfl rfl hl.1 rfl (lv_room (Nat.le_of_ble_eq_true rfl)) dX8_shared_19 ⟨Nat.le_of_ble_eq_true rfl, Nat.le_of_ble_eq_true rfl⟩) hP hD hS hA [0, 1] [2, 3, 4] rfl rfl (by decide) (by decide) (fun r5 u5 H locs hq5 hP hD hS => ?_)
      replace hP : va_P (dC, dI) vwCl [(nQ, .inl (cI, 6, .inl gQ)), (nM, .inl (cI, 6, .inl gM)), (nW, .inl (cI, 14, .inl gW)), (n, .inr (8, [.int mleft, .int mmetres, .int mshut, .int mshield, .int mtoday, .int mbagged, .int mwarmed, .ref nW, .ref nC, .int mmeals, .ref nQ, .ref nM, .ref nD, .ref nA, .ref nK, .int msights, .ref nP, .int mpadMany, .ref nE, .ref nF, .ref nG, .int macts, .int mgusty, .int mleakAct, .int mleakMuch, .int mendOfCan, .int mbadAct, .int mbadWhy, .int mburnt, .int mboiled, .ref nH, .ref nI, .ref nJ, .ref nL, .int mhadLeft, .int mhadToday, .int mhadBagged, .int mhadWarmed, .int mleaves, .int mdayThen, .int mcoldThen, .ref nO, .int (u5.2.1 0), .ref nT, .ref nU, .int mleakMany, .int mleakActs, .ref nV, .ref nX, .ref nY, .ref nZ, .int mkeptAt, .int misWriting])), (nO, .inl (cI, 6, .inl (u5.1 0)))] H := hP
      replace hD : va_D A [(nQ, .inl (cI, 6, .inl gQ)), (nM, .inl (cI, 6, .inl gM)), (nW, .inl (cI, 14, .inl gW)), (n, .inr (8, [.int mleft, .int mmetres, .int mshut, .int mshield, .int mtoday, .int mbagged, .int mwarmed, .ref nW, .ref nC, .int mmeals, .ref nQ, .ref nM, .ref nD, .ref nA, .ref nK, .int msights, .ref nP, .int mpadMany, .ref nE, .ref nF, .ref nG, .int macts, .int mgusty, .int mleakAct, .int mleakMuch, .int mendOfCan, .int mbadAct, .int mbadWhy, .int mburnt, .int mboiled, .ref nH, .ref nI, .ref nJ, .ref nL, .int mhadLeft, .int mhadToday, .int mhadBagged, .int mhadWarmed, .int mleaves, .int mdayThen, .int mcoldThen, .ref nO, .int (u5.2.1 0), .ref nT, .ref nU, .int mleakMany, .int mleakActs, .ref nV, .ref nX, .ref nY, .ref nZ, .int mkeptAt, .int misWriting])), (nO, .inl (cI, 6, .inl (u5.1 0)))] := hD
      obtain ⟨hu5_0, hu5_1, hx5_0, hx5_1, hr5⟩ := hq5
      replace hx5_0 : r5.toInt = 0 ∨ ∀ j9 : Nat, j9 < 6 → ((u5.1 0) j9).toInt ≠ 0 → bt mmeals j9 = true := hx5_0
      replace hx5_1 : (u5.2.1 0).toInt = psF (u5.1 0) 6 := hx5_1
      refine lv_if_ne (tgt := 27) hx hb dX8_shared_22 (by decide) (fun c6 => ?_) (fun c6 => ?_)
      · have t6 : r5.toInt ≠ (0 : Int) := (tne c6)
        refine lv_iconst (v := 0) hx hb dX8_shared_27 (by decide) ?_
        refine lv_istore_n (lv' := [(3, .int 0), (0, .ref n), (1, .int i0), (2, .int i1)]) hx hb dX8_shared_28 rfl hl (by decide) rfl (fun ls hl => ?_)
        refine lv_iconst (v := 0) hx hb dX8_shared_29 (by decide) ?_
        refine lv_istore (lv' := [(4, .int 0), (3, .int 0), (0, .ref n), (1, .int i0), (2, .int i1)]) hx hb dX8_shared_30 hl (by decide) rfl (fun ls hl => ?_)
        have z8 : (0 : Int32).toInt = 0 := rfl
        have z9 : (0 : Int32).toInt = 0 := rfl
        have hl0 := hl
        clear hl
        have hP0 := hP
        clear hP
        have hD0 := hD
        clear hD
        obtain ⟨y3, y4, ex, hl, hP, hD⟩ : ∃ (y3 y4 : Int32), (0 ≤ y4.toInt ∧ y4.toInt ≤ 6) ∧ lv_has ls 7 [(4, .int y4), (3, .int y3), (0, .ref n), (1, .int i0), (2, .int i1)] ∧ va_P (dC, dI) vwCl [(nQ, .inl (cI, 6, .inl gQ)), (nM, .inl (cI, 6, .inl gM)), (nW, .inl (cI, 14, .inl gW)), (n, .inr (8, [.int mleft, .int mmetres, .int mshut, .int mshield, .int mtoday, .int mbagged, .int mwarmed, .ref nW, .ref nC, .int mmeals, .ref nQ, .ref nM, .ref nD, .ref nA, .ref nK, .int msights, .ref nP, .int mpadMany, .ref nE, .ref nF, .ref nG, .int macts, .int mgusty, .int mleakAct, .int mleakMuch, .int mendOfCan, .int mbadAct, .int mbadWhy, .int mburnt, .int mboiled, .ref nH, .ref nI, .ref nJ, .ref nL, .int mhadLeft, .int mhadToday, .int mhadBagged, .int mhadWarmed, .int mleaves, .int mdayThen, .int mcoldThen, .ref nO, .int (u5.2.1 0), .ref nT, .ref nU, .int mleakMany, .int mleakActs, .ref nV, .ref nX, .ref nY, .ref nZ, .int mkeptAt, .int misWriting])), (nO, .inl (cI, 6, .inl (u5.1 0)))] H ∧ va_D A [(nQ, .inl (cI, 6, .inl gQ)), (nM, .inl (cI, 6, .inl gM)), (nW, .inl (cI, 14, .inl gW)), (n, .inr (8, [.int mleft, .int mmetres, .int mshut, .int mshield, .int mtoday, .int mbagged, .int mwarmed, .ref nW, .ref nC, .int mmeals, .ref nQ, .ref nM, .ref nD, .ref nA, .ref nK, .int msights, .ref nP, .int mpadMany, .ref nE, .ref nF, .ref nG, .int macts, .int mgusty, .int mleakAct, .int mleakMuch, .int mendOfCan, .int mbadAct, .int mbadWhy, .int mburnt, .int mboiled, .ref nH, .ref nI, .ref nJ, .ref nL, .int mhadLeft, .int mhadToday, .int mhadBagged, .int mhadWarmed, .int mleaves, .int mdayThen, .int mcoldThen, .ref nO, .int (u5.2.1 0), .ref nT, .ref nU, .int mleakMany, .int mleakActs, .ref nV, .ref nX, .ref nY, .ref nZ, .int mkeptAt, .int misWriting])), (nO, .inl (cI, 6, .inl (u5.1 0)))] := ⟨0, 0, by omega, hl0, hP0, hD0⟩
        clear hl0 hP0 hD0
        obtain ⟨n7, hn⟩ : ∃ n : Nat, (n : Int) = 6 - y4.toInt := ⟨(6 - y4.toInt).toNat, by omega⟩
        induction n7 generalizing y3 y4 ls H locs with
        | zero =>
          skip
          refine lv_iload hx hb dX8_shared_32 (lv_at hl 0 rfl) ?_
          refine lv_bipush (v := 6) hx hb dX8_shared_34 (by decide) ?_
          refine lv_icmp_ge (tgt := 137) hx hb dX8_shared_36 (by decide) (fun c10 => ?_) (fun c10 => by exfalso; have t10 : y4.toInt < (6 : Int) := (tnle c10); omega)
          refine lv_iload_n hx hb dX8_shared_137 rfl (lv_at hl 1 rfl) ?_
          have hP9 := mx_subP (wc := [(n, .inr (8, [.int mleft, .int mmetres, .int mshut, .int mshield, .int mtoday, .int mbagged, .int mwarmed, .ref nW, .ref nC, .int mmeals, .ref nQ, .ref nM, .ref nD, .ref nA, .ref nK, .int msights, .ref nP, .int mpadMany, .ref nE, .ref nF, .ref nG, .int macts, .int mgusty, .int mleakAct, .int mleakMuch, .int mendOfCan, .int mbadAct, .int mbadWhy, .int mburnt, .int mboiled, .ref nH, .ref nI, .ref nJ, .ref nL, .int mhadLeft, .int mhadToday, .int mhadBagged, .int mhadWarmed, .int mleaves, .int mdayThen, .int mcoldThen, .ref nO, .int (u5.2.1 0), .ref nT, .ref nU, .int mleakMany, .int mleakActs, .ref nV, .ref nX, .ref nY, .ref nZ, .int mkeptAt, .int misWriting])), (nO, .inl (cI, 6, .inl (u5.1 0))), (nQ, .inl (cI, 6, .inl gQ)), (nM, .inl (cI, 6, .inl gM)), (nW, .inl (cI, 14, .inl gW))]) hP [3, 4, 0, 1, 2] rfl
          have hD9 := hD.sub (ws' := [(n, .inr (8, [.int mleft, .int mmetres, .int mshut, .int mshield, .int mtoday, .int mbagged, .int mwarmed, .ref nW, .ref nC, .int mmeals, .ref nQ, .ref nM, .ref nD, .ref nA, .ref nK, .int msights, .ref nP, .int mpadMany, .ref nE, .ref nF, .ref nG, .int macts, .int mgusty, .int mleakAct, .int mleakMuch, .int mendOfCan, .int mbadAct, .int mbadWhy, .int mburnt, .int mboiled, .ref nH, .ref nI, .ref nJ, .ref nL, .int mhadLeft, .int mhadToday, .int mhadBagged, .int mhadWarmed, .int mleaves, .int mdayThen, .int mcoldThen, .ref nO, .int (u5.2.1 0), .ref nT, .ref nU, .int mleakMany, .int mleakActs, .ref nV, .ref nX, .ref nY, .ref nZ, .int mkeptAt, .int misWriting])), (nO, .inl (cI, 6, .inl (u5.1 0))), (nQ, .inl (cI, 6, .inl gQ)), (nM, .inl (cI, 6, .inl gM)), (nW, .inl (cI, 14, .inl gW))]) [3, 4, 0, 1, 2] (by decide) rfl
          exact W.iret (v := y3) hx hb hr (fun t ht hW => ⟨⟨y3, ((fun u9 => ([(u5.1 0)] : List (Nat → Int32)).getD u9 (fun _ => 0)), (fun u9 => ([(u5.2.1 0)] : List Int32).getD u9 0), (fun u9 => ([] : List Int64).getD u9 0)), rfl, hu5_1, by rw [ht]; exact hP9, hD9⟩, hS.F ht⟩) hS.2.2 dX8_shared_138
        | succ n7 ih =>
          skip
          refine lv_iload hx hb dX8_shared_32 (lv_at hl 0 rfl) ?_
          refine lv_bipush (v := 6) hx hb dX8_shared_34 (by decide) ?_
          refine lv_icmp_ge (tgt := 137) hx hb dX8_shared_36 (by decide) (fun c11 => by exfalso; have t11 : (6 : Int) ≤ y4.toInt := (tle c11); omega) (fun c11 => ?_)
          refine lv_aload_n hx hb dX8_shared_39 rfl (lv_at hl 2 rfl) ?_
          refine va_get (D := (dC, dI)) (ci := 8) (v := .ref nO) (C := RX8) (T := TX8) (N := 53) hx hb hts hin8 hown hK hP 3 rfl rfl 41 (by decide) hw0 (fun _ h9 => h9) rfl dX8_shared_40 ?_
          refine lv_iload hx hb dX8_shared_43 (lv_at hl 0 rfl) ?_
          refine va_iald hx hb hK hP 4 0 rfl rfl (vin (by omega) (by omega)) dX8_shared_45 ?_
          refine lv_topi (fun y12 e12 => ?_)
          obtain rfl : (u5.1 0) y4.toNatClampNeg = y12 := e12.symm
          have g12 : 0 ≤ ((u5.1 0) y4.toNatClampNeg).toInt ∧ ((u5.1 0) y4.toNatClampNeg).toInt ≤ 9 := rgI hu5_1 (by omega) (by omega)
          refine lv_if_ne (tgt := 53) hx hb dX8_shared_46 (by decide) (fun c13 => ?_) (fun c13 => ?_)
          · have t13 : ((u5.1 0) y4.toNatClampNeg).toInt ≠ (0 : Int) := (tne c13)
            refine lv_iconst (v := 4) hx hb dX8_shared_53 (by decide) ?_
            refine lv_aload_n hx hb dX8_shared_54 rfl (lv_at hl 2 rfl) ?_
            refine va_get (D := (dC, dI)) (ci := 8) (v := .ref nQ) (C := RX8) (T := TX8) (N := 53) hx hb hts hin8 hown hK hP 3 rfl rfl 10 (by decide) hw1 (fun _ h9 => h9) rfl dX8_shared_55 ?_
            refine lv_iload hx hb dX8_shared_58 (lv_at hl 0 rfl) ?_
            refine va_iald hx hb hK hP 0 0 rfl rfl (vin (by omega) (by omega)) dX8_shared_60 ?_
            refine lv_topi (fun y14 e14 => ?_)
            obtain rfl : gQ y4.toNatClampNeg = y14 := e14.symm
            have g14 : 0 ≤ (gQ y4.toNatClampNeg).toInt ∧ (gQ y4.toNatClampNeg).toInt ≤ 4 := rgI h_gQ (by omega) (by omega)
            have hq9 : 1 ≤ (gQ y4.toNatClampNeg).toInt := hmq _ (by show y4.toInt.toNat < 6; omega) (hx5_0.resolve_left (by omega) _ (by show y4.toInt.toNat < 6; omega) (by omega))
            refine lv_idiv hx hb dX8_shared_61 (by intro h9; have := teq h9; have h8 : (0 : Int32).toInt = 0 := rfl; omega) ?_
            refine lv_topi (fun x15 e15 => ?_)
            have hd9 : 1 ≤ x15.toInt ∧ x15.toInt ≤ 4 := by rw [e15]; exact d4 ⟨hq9, by omega⟩
            refine lv_istore (lv' := [(5, .int x15), (4, .int y4), (3, .int y3), (0, .ref n), (1, .int i0), (2, .int i1)]) hx hb dX8_shared_62 hl (by decide) rfl (fun ls hl => ?_)
            refine lv_aload_n hx hb dX8_shared_64 rfl (lv_at hl 3 rfl) ?_
            refine va_get (D := (dC, dI)) (ci := 8) (v := .ref nO) (C := RX8) (T := TX8) (N := 53) hx hb hts hin8 hown hK hP 3 rfl rfl 41 (by decide) hw0 (fun _ h9 => h9) rfl dX8_shared_65 ?_
            refine lv_iload hx hb dX8_shared_68 (lv_at hl 1 rfl) ?_
            refine va_iald hx hb hK hP 4 0 rfl rfl (vin (by omega) (by omega)) dX8_shared_70 ?_
            refine lv_topi (fun y16 e16 => ?_)
            obtain rfl : (u5.1 0) y4.toNatClampNeg = y16 := e16.symm
            have g16 : 0 ≤ ((u5.1 0) y4.toNatClampNeg).toInt ∧ ((u5.1 0) y4.toNatClampNeg).toInt ≤ 9 := rgI hu5_1 (by omega) (by omega)
            refine lv_iload hx hb dX8_shared_71 (lv_at hl 0 rfl) ?_
            refine lv_iadd hx hb dX8_shared_73 ?_
            refine lv_topi (fun x17 e17 => ?_)
            have f17 : x17.toInt = ((u5.1 0) y4.toNatClampNeg).toInt + x15.toInt := by rw [e17]; exact tadd (by have t8 := tb ((u5.1 0) y4.toNatClampNeg); have t8 := tb x15; omega) (by have t8 := tb ((u5.1 0) y4.toNatClampNeg); have t8 := tb x15; omega)
            refine lv_iconst (v := 1) hx hb dX8_shared_74 (by decide) ?_
            refine lv_isub hx hb dX8_shared_75 ?_
            refine lv_topi (fun x18 e18 => ?_)
            have f18 : x18.toInt = x17.toInt - (1 : Int) := by rw [e18]; exact tsub (by have t8 := tb x17; have z8 : (1 : Int32).toInt = 1 := rfl; omega) (by have t8 := tb x17; have z8 : (1 : Int32).toInt = 1 := rfl; omega)
            refine lv_iload hx hb dX8_shared_76 (lv_at hl 0 rfl) ?_
            refine lv_idiv hx hb dX8_shared_78 (by intro h9; have := teq h9; have h8 : (0 : Int32).toInt = 0 := rfl; omega) ?_
            refine lv_topi (fun x19 e19 => ?_)
            refine lv_istore (lv' := [(6, .int x19), (5, .int x15), (4, .int y4), (3, .int y3), (0, .ref n), (1, .int i0), (2, .int i1)]) hx hb dX8_shared_79 hl (by decide) rfl (fun ls hl => ?_)
            refine lv_iload_n hx hb dX8_shared_81 rfl (lv_at hl 3 rfl) ?_
            refine lv_aload_n hx hb dX8_shared_82 rfl (lv_at hl 4 rfl) ?_
            refine va_get (D := (dC, dI)) (ci := 8) (v := .ref nO) (C := RX8) (T := TX8) (N := 53) hx hb hts hin8 hown hK hP 3 rfl rfl 41 (by decide) hw0 (fun _ h9 => h9) rfl dX8_shared_83 ?_
            refine lv_iload hx hb dX8_shared_86 (lv_at hl 2 rfl) ?_
            refine va_iald hx hb hK hP 4 0 rfl rfl (vin (by omega) (by omega)) dX8_shared_88 ?_
            refine lv_topi (fun y20 e20 => ?_)
            obtain rfl : (u5.1 0) y4.toNatClampNeg = y20 := e20.symm
            have g20 : 0 ≤ ((u5.1 0) y4.toNatClampNeg).toInt ∧ ((u5.1 0) y4.toNatClampNeg).toInt ≤ 9 := rgI hu5_1 (by omega) (by omega)
            refine lv_if_ne (tgt := 96) hx hb dX8_shared_89 (by decide) (fun c21 => ?_) (fun c21 => ?_)
            · have t21 : ((u5.1 0) y4.toNatClampNeg).toInt ≠ (0 : Int) := (tne c21)
              refine lv_aload_n hx hb dX8_shared_96 rfl (lv_at hl 4 rfl) ?_
              refine va_get (D := (dC, dI)) (ci := 8) (v := .ref nO) (C := RX8) (T := TX8) (N := 53) hx hb hts hin8 hown hK hP 3 rfl rfl 41 (by decide) hw0 (fun _ h9 => h9) rfl dX8_shared_97 ?_
              refine lv_iload hx hb dX8_shared_100 (lv_at hl 2 rfl) ?_
              refine va_iald hx hb hK hP 4 0 rfl rfl (vin (by omega) (by omega)) dX8_shared_102 ?_
              refine lv_topi (fun y22 e22 => ?_)
              obtain rfl : (u5.1 0) y4.toNatClampNeg = y22 := e22.symm
              have g22 : 0 ≤ ((u5.1 0) y4.toNatClampNeg).toInt ∧ ((u5.1 0) y4.toNatClampNeg).toInt ≤ 9 := rgI hu5_1 (by omega) (by omega)
              refine lv_aload_n hx hb dX8_shared_103 rfl (lv_at hl 4 rfl) ?_
              refine lv_iload hx hb dX8_shared_104 (lv_at hl 2 rfl) ?_
              refine lv_aload_n hx hb dX8_shared_106 rfl (lv_at hl 4 rfl) ?_
              refine va_get (D := (dC, dI)) (ci := 8) (v := .ref nW) (C := RX8) (T := TX8) (N := 53) hx hb hts hin8 hown hK hP 3 rfl rfl 7 (by decide) hw2 (fun _ h9 => h9) rfl dX8_shared_107 ?_
              refine lv_iload_n hx hb dX8_shared_110 rfl (lv_at hl 6 rfl) ?_
              refine va_iald hx hb hK hP 2 0 rfl rfl (vin (by omega) (by omega)) dX8_shared_111 ?_
              refine lv_topi (fun y23 e23 => ?_)
              obtain rfl : gW i1.toNatClampNeg = y23 := e23.symm
              have g23 : 0 ≤ (gW i1.toNatClampNeg).toInt ∧ (gW i1.toNatClampNeg).toInt ≤ 4 := rgI h_gW (by omega) (by omega)
              refine lv_bipush (v := 8) hx hb dX8_shared_112 (by decide) ?_
              refine mx_i (wr := [(nW, .inl (cI, 14, .inl gW)), (nO, .inl (cI, 6, .inl (u5.1 0)))]) (va_runV (As := [.int y4, .int (gW i1.toNatClampNeg), .int 8]) (rest := [.int ((u5.1 0) y4.toNatClampNeg), .int y3]) ⟨hx, hb, hml, hown, hts⟩ (c_X8_costBy l dC dI cI cZ cK tS aK aV n y4 (gW i1.toNatClampNeg) 8 mleft mmetres mshut mshield mtoday mbagged mwarmed nW nC mmeals nQ nM nD nA nK msights nP mpadMany nE nF nG macts mgusty mleakAct mleakMuch mendOfCan mbadAct mbadWhy mburnt mboiled nH nI nJ nL mhadLeft mhadToday mhadBagged mhadWarmed mleaves mdayThen mcoldThen nO (u5.2.1 0) nT nU mleakMany mleakActs nV nX nY nZ mkeptAt misWriting gQ gM H.size h_gQ h_gM (by have z8 : (8 : Int32).toInt = 8 := rfl; first | omega | decide | assumption | trivial)) (cwV 3 hts (gw_v (fun _ h9 => List.mem_cons_of_mem _ h9) wm_484 wm_485 wm_486 wm_5 wm_487) rfl rfl rfl (by decide +kernel) ⟨Nat.le_of_ble_eq_true rfl, Nat.le_of_ble_eq_true rfl⟩) (mx_preV (C := RX8) (T := TX8) (N := 53) (ci := 8) hKx hP hD hS hA [3, 0, 1] (by decide) rfl rfl rfl) rfl rfl hl.1 rfl (lv_room (Nat.le_of_ble_eq_true rfl)) dX8_shared_114 ⟨Nat.le_of_ble_eq_true rfl, Nat.le_of_ble_eq_true rfl⟩) hP hD hS hA [3, 0, 1] [2, 4] rfl rfl (by decide) (by decide) (fun r24 u24 H locs hq24 hP hD hS => ?_)
              replace hP : va_P (dC, dI) vwCl [(nW, .inl (cI, 14, .inl gW)), (nO, .inl (cI, 6, .inl (u5.1 0))), (n, .inr (8, [.int mleft, .int mmetres, .int mshut, .int mshield, .int mtoday, .int mbagged, .int mwarmed, .ref nW, .ref nC, .int mmeals, .ref nQ, .ref nM, .ref nD, .ref nA, .ref nK, .int msights, .ref nP, .int mpadMany, .ref nE, .ref nF, .ref nG, .int macts, .int mgusty, .int mleakAct, .int mleakMuch, .int mendOfCan, .int mbadAct, .int mbadWhy, .int mburnt, .int mboiled, .ref nH, .ref nI, .ref nJ, .ref nL, .int mhadLeft, .int mhadToday, .int mhadBagged, .int mhadWarmed, .int mleaves, .int mdayThen, .int mcoldThen, .ref nO, .int (u5.2.1 0), .ref nT, .ref nU, .int mleakMany, .int mleakActs, .ref nV, .ref nX, .ref nY, .ref nZ, .int mkeptAt, .int misWriting])), (nQ, .inl (cI, 6, .inl gQ)), (nM, .inl (cI, 6, .inl gM))] H := hP
              replace hD : va_D A [(nW, .inl (cI, 14, .inl gW)), (nO, .inl (cI, 6, .inl (u5.1 0))), (n, .inr (8, [.int mleft, .int mmetres, .int mshut, .int mshield, .int mtoday, .int mbagged, .int mwarmed, .ref nW, .ref nC, .int mmeals, .ref nQ, .ref nM, .ref nD, .ref nA, .ref nK, .int msights, .ref nP, .int mpadMany, .ref nE, .ref nF, .ref nG, .int macts, .int mgusty, .int mleakAct, .int mleakMuch, .int mendOfCan, .int mbadAct, .int mbadWhy, .int mburnt, .int mboiled, .ref nH, .ref nI, .ref nJ, .ref nL, .int mhadLeft, .int mhadToday, .int mhadBagged, .int mhadWarmed, .int mleaves, .int mdayThen, .int mcoldThen, .ref nO, .int (u5.2.1 0), .ref nT, .ref nU, .int mleakMany, .int mleakActs, .ref nV, .ref nX, .ref nY, .ref nZ, .int mkeptAt, .int misWriting])), (nQ, .inl (cI, 6, .inl gQ)), (nM, .inl (cI, 6, .inl gM))] := hD
              have hr24 := hq24
              obtain rfl : (cbF (gQ y4.toNatClampNeg) (gM y4.toNatClampNeg) mshield (gW i1.toNatClampNeg) 8) = r24 := hr24.symm
              refine lv_imul hx hb dX8_shared_117 ?_
              refine lv_topi (fun x25 e25 => ?_)
              refine lv_iload hx hb dX8_shared_118 (lv_at hl 0 rfl) ?_
              refine lv_aload_n hx hb dX8_shared_120 rfl (lv_at hl 4 rfl) ?_
              refine va_get (D := (dC, dI)) (ci := 8) (v := .ref nM) (C := RX8) (T := TX8) (N := 53) hx hb hts hin8 hown hK hP 2 rfl rfl 11 (by decide) hw3 (fun _ h9 => h9) rfl dX8_shared_121 ?_
              refine lv_iload hx hb dX8_shared_124 (lv_at hl 2 rfl) ?_
              refine va_iald hx hb hK hP 4 0 rfl rfl (vin (by omega) (by omega)) dX8_shared_126 ?_
              refine lv_topi (fun y26 e26 => ?_)
              obtain rfl : gM y4.toNatClampNeg = y26 := e26.symm
              have g26 : 0 ≤ (gM y4.toNatClampNeg).toInt ∧ (gM y4.toNatClampNeg).toInt ≤ 60 := rgI h_gM (by omega) (by omega)
              refine lv_imul hx hb dX8_shared_127 ?_
              refine lv_topi (fun x27 e27 => ?_)
              refine lv_iadd hx hb dX8_shared_128 ?_
              refine lv_topi (fun x28 e28 => ?_)
              refine lv_iadd hx hb dX8_shared_129 ?_
              refine lv_topi (fun x29 e29 => ?_)
              refine lv_istore_n (lv' := [(3, .int x29), (6, .int x19), (5, .int x15), (4, .int y4), (0, .ref n), (1, .int i0), (2, .int i1)]) hx hb dX8_shared_130 rfl hl (by decide) rfl (fun ls hl => ?_)
              obtain ⟨x30, e30⟩ : ∃ y : Int32, y = y4 + Int32.ofInt 1 := ⟨_, rfl⟩
              refine lv_iinc (v := x30) (lv' := [(4, .int x30), (3, .int x29), (6, .int x19), (5, .int x15), (0, .ref n), (1, .int i0), (2, .int i1)]) hx hb dX8_shared_131 hl (k := 3) rfl e30.symm (by decide) rfl (fun ls hl => ?_)
              have f30 : x30.toInt = y4.toInt + 1 := by rw [e30]; exact tinc (by decide) (by have t8 := tb y4; omega) (by have t8 := tb y4; omega)
              refine lv_goto (tgt := 32) hx hb dX8_shared_134 (by decide) ?_
              exact ih (H := H) (locs := locs) (ls := ls) (y3 := x29) (y4 := x30) hS (by omega)  (show lv_has ls 7 [(4, .int x30), (3, .int x29), (0, .ref n), (1, .int i0), (2, .int i1)] from lv_sub hl [0, 1, 4, 5, 6] rfl) (mx_subP (wc := [(nQ, .inl (cI, 6, .inl gQ)), (nM, .inl (cI, 6, .inl gM)), (nW, .inl (cI, 14, .inl gW)), (n, .inr (8, [.int mleft, .int mmetres, .int mshut, .int mshield, .int mtoday, .int mbagged, .int mwarmed, .ref nW, .ref nC, .int mmeals, .ref nQ, .ref nM, .ref nD, .ref nA, .ref nK, .int msights, .ref nP, .int mpadMany, .ref nE, .ref nF, .ref nG, .int macts, .int mgusty, .int mleakAct, .int mleakMuch, .int mendOfCan, .int mbadAct, .int mbadWhy, .int mburnt, .int mboiled, .ref nH, .ref nI, .ref nJ, .ref nL, .int mhadLeft, .int mhadToday, .int mhadBagged, .int mhadWarmed, .int mleaves, .int mdayThen, .int mcoldThen, .ref nO, .int (u5.2.1 0), .ref nT, .ref nU, .int mleakMany, .int mleakActs, .ref nV, .ref nX, .ref nY, .ref nZ, .int mkeptAt, .int misWriting])), (nO, .inl (cI, 6, .inl (u5.1 0)))]) hP [3, 4, 0, 2, 1] rfl) (by omega)
            · have t21 : ((u5.1 0) y4.toNatClampNeg).toInt = (0 : Int) := (teq c21)
              refine lv_iconst (v := 0) hx hb dX8_shared_92 (by decide) ?_
              refine lv_goto (tgt := 129) hx hb dX8_shared_93 (by decide) ?_
              refine lv_iadd hx hb dX8_shared_129 ?_
              refine lv_topi (fun y31 e31 => ?_)
              obtain rfl : y3 = y31 := (e31.trans (by simp)).symm
              refine lv_istore_n (lv' := [(3, .int y3), (6, .int x19), (5, .int x15), (4, .int y4), (0, .ref n), (1, .int i0), (2, .int i1)]) hx hb dX8_shared_130 rfl hl (by decide) rfl (fun ls hl => ?_)
              obtain ⟨x32, e32⟩ : ∃ y : Int32, y = y4 + Int32.ofInt 1 := ⟨_, rfl⟩
              refine lv_iinc (v := x32) (lv' := [(4, .int x32), (3, .int y3), (6, .int x19), (5, .int x15), (0, .ref n), (1, .int i0), (2, .int i1)]) hx hb dX8_shared_131 hl (k := 3) rfl e32.symm (by decide) rfl (fun ls hl => ?_)
              have f32 : x32.toInt = y4.toInt + 1 := by rw [e32]; exact tinc (by decide) (by have t8 := tb y4; omega) (by have t8 := tb y4; omega)
              refine lv_goto (tgt := 32) hx hb dX8_shared_134 (by decide) ?_
              exact ih (H := H) (locs := locs) (ls := ls) (y3 := y3) (y4 := x32) hS (by omega)  (show lv_has ls 7 [(4, .int x32), (3, .int y3), (0, .ref n), (1, .int i0), (2, .int i1)] from lv_sub hl [0, 1, 4, 5, 6] rfl) (mx_subP (wc := [(nQ, .inl (cI, 6, .inl gQ)), (nM, .inl (cI, 6, .inl gM)), (nW, .inl (cI, 14, .inl gW)), (n, .inr (8, [.int mleft, .int mmetres, .int mshut, .int mshield, .int mtoday, .int mbagged, .int mwarmed, .ref nW, .ref nC, .int mmeals, .ref nQ, .ref nM, .ref nD, .ref nA, .ref nK, .int msights, .ref nP, .int mpadMany, .ref nE, .ref nF, .ref nG, .int macts, .int mgusty, .int mleakAct, .int mleakMuch, .int mendOfCan, .int mbadAct, .int mbadWhy, .int mburnt, .int mboiled, .ref nH, .ref nI, .ref nJ, .ref nL, .int mhadLeft, .int mhadToday, .int mhadBagged, .int mhadWarmed, .int mleaves, .int mdayThen, .int mcoldThen, .ref nO, .int (u5.2.1 0), .ref nT, .ref nU, .int mleakMany, .int mleakActs, .ref nV, .ref nX, .ref nY, .ref nZ, .int mkeptAt, .int misWriting])), (nO, .inl (cI, 6, .inl (u5.1 0)))]) hP [0, 1, 2, 3, 4] rfl) (by omega)
          · have t13 : ((u5.1 0) y4.toNatClampNeg).toInt = (0 : Int) := (teq c13)
            refine lv_iconst (v := 1) hx hb dX8_shared_49 (by decide) ?_
            refine lv_goto (tgt := 62) hx hb dX8_shared_50 (by decide) ?_
            refine lv_istore (lv' := [(5, .int 1), (4, .int y4), (3, .int y3), (0, .ref n), (1, .int i0), (2, .int i1)]) hx hb dX8_shared_62 hl (by decide) rfl (fun ls hl => ?_)
            refine lv_aload_n hx hb dX8_shared_64 rfl (lv_at hl 3 rfl) ?_
            refine va_get (D := (dC, dI)) (ci := 8) (v := .ref nO) (C := RX8) (T := TX8) (N := 53) hx hb hts hin8 hown hK hP 3 rfl rfl 41 (by decide) hw0 (fun _ h9 => h9) rfl dX8_shared_65 ?_
            refine lv_iload hx hb dX8_shared_68 (lv_at hl 1 rfl) ?_
            refine va_iald hx hb hK hP 4 0 rfl rfl (vin (by omega) (by omega)) dX8_shared_70 ?_
            refine lv_topi (fun y33 e33 => ?_)
            obtain rfl : (u5.1 0) y4.toNatClampNeg = y33 := e33.symm
            have g33 : 0 ≤ ((u5.1 0) y4.toNatClampNeg).toInt ∧ ((u5.1 0) y4.toNatClampNeg).toInt ≤ 9 := rgI hu5_1 (by omega) (by omega)
            refine lv_iload hx hb dX8_shared_71 (lv_at hl 0 rfl) ?_
            refine lv_iadd hx hb dX8_shared_73 ?_
            refine lv_topi (fun x34 e34 => ?_)
            have f34 : x34.toInt = ((u5.1 0) y4.toNatClampNeg).toInt + (1 : Int) := by rw [e34]; exact tadd (by have t8 := tb ((u5.1 0) y4.toNatClampNeg); have z8 : (1 : Int32).toInt = 1 := rfl; omega) (by have t8 := tb ((u5.1 0) y4.toNatClampNeg); have z8 : (1 : Int32).toInt = 1 := rfl; omega)
            refine lv_iconst (v := 1) hx hb dX8_shared_74 (by decide) ?_
            refine lv_isub hx hb dX8_shared_75 ?_
            refine lv_topi (fun x35 e35 => ?_)
            have f35 : x35.toInt = x34.toInt - (1 : Int) := by rw [e35]; exact tsub (by have t8 := tb x34; have z8 : (1 : Int32).toInt = 1 := rfl; omega) (by have t8 := tb x34; have z8 : (1 : Int32).toInt = 1 := rfl; omega)
            refine lv_iload hx hb dX8_shared_76 (lv_at hl 0 rfl) ?_
            refine lv_idiv hx hb dX8_shared_78 (by decide) ?_
            refine lv_topi (fun x36 e36 => ?_)
            have f36 : x36.toInt = x35.toInt / 1 := by rw [e36]; exact tdivc (by omega) (by decide)
            refine lv_istore (lv' := [(6, .int x36), (5, .int 1), (4, .int y4), (3, .int y3), (0, .ref n), (1, .int i0), (2, .int i1)]) hx hb dX8_shared_79 hl (by decide) rfl (fun ls hl => ?_)
            refine lv_iload_n hx hb dX8_shared_81 rfl (lv_at hl 3 rfl) ?_
            refine lv_aload_n hx hb dX8_shared_82 rfl (lv_at hl 4 rfl) ?_
            refine va_get (D := (dC, dI)) (ci := 8) (v := .ref nO) (C := RX8) (T := TX8) (N := 53) hx hb hts hin8 hown hK hP 3 rfl rfl 41 (by decide) hw0 (fun _ h9 => h9) rfl dX8_shared_83 ?_
            refine lv_iload hx hb dX8_shared_86 (lv_at hl 2 rfl) ?_
            refine va_iald hx hb hK hP 4 0 rfl rfl (vin (by omega) (by omega)) dX8_shared_88 ?_
            refine lv_topi (fun y37 e37 => ?_)
            obtain rfl : (u5.1 0) y4.toNatClampNeg = y37 := e37.symm
            have g37 : 0 ≤ ((u5.1 0) y4.toNatClampNeg).toInt ∧ ((u5.1 0) y4.toNatClampNeg).toInt ≤ 9 := rgI hu5_1 (by omega) (by omega)
            refine lv_if_ne (tgt := 96) hx hb dX8_shared_89 (by decide) (fun c38 => ?_) (fun c38 => ?_)
            · have t38 : ((u5.1 0) y4.toNatClampNeg).toInt ≠ (0 : Int) := (tne c38)
              refine lv_aload_n hx hb dX8_shared_96 rfl (lv_at hl 4 rfl) ?_
              refine va_get (D := (dC, dI)) (ci := 8) (v := .ref nO) (C := RX8) (T := TX8) (N := 53) hx hb hts hin8 hown hK hP 3 rfl rfl 41 (by decide) hw0 (fun _ h9 => h9) rfl dX8_shared_97 ?_
              refine lv_iload hx hb dX8_shared_100 (lv_at hl 2 rfl) ?_
              refine va_iald hx hb hK hP 4 0 rfl rfl (vin (by omega) (by omega)) dX8_shared_102 ?_
              refine lv_topi (fun y39 e39 => ?_)
              obtain rfl : (u5.1 0) y4.toNatClampNeg = y39 := e39.symm
              have g39 : 0 ≤ ((u5.1 0) y4.toNatClampNeg).toInt ∧ ((u5.1 0) y4.toNatClampNeg).toInt ≤ 9 := rgI hu5_1 (by omega) (by omega)
              refine lv_aload_n hx hb dX8_shared_103 rfl (lv_at hl 4 rfl) ?_
              refine lv_iload hx hb dX8_shared_104 (lv_at hl 2 rfl) ?_
              refine lv_aload_n hx hb dX8_shared_106 rfl (lv_at hl 4 rfl) ?_
              refine va_get (D := (dC, dI)) (ci := 8) (v := .ref nW) (C := RX8) (T := TX8) (N := 53) hx hb hts hin8 hown hK hP 3 rfl rfl 7 (by decide) hw2 (fun _ h9 => h9) rfl dX8_shared_107 ?_
              refine lv_iload_n hx hb dX8_shared_110 rfl (lv_at hl 6 rfl) ?_
              refine va_iald hx hb hK hP 2 0 rfl rfl (vin (by omega) (by omega)) dX8_shared_111 ?_
              refine lv_topi (fun y40 e40 => ?_)
              obtain rfl : gW i1.toNatClampNeg = y40 := e40.symm
              have g40 : 0 ≤ (gW i1.toNatClampNeg).toInt ∧ (gW i1.toNatClampNeg).toInt ≤ 4 := rgI h_gW (by omega) (by omega)
              refine lv_bipush (v := 8) hx hb dX8_shared_112 (by decide) ?_
              refine mx_i (wr := [(nW, .inl (cI, 14, .inl gW)), (nO, .inl (cI, 6, .inl (u5.1 0)))]) (va_runV (As := [.int y4, .int (gW i1.toNatClampNeg), .int 8]) (rest := [.int ((u5.1 0) y4.toNatClampNeg), .int y3]) ⟨hx, hb, hml, hown, hts⟩ (c_X8_costBy l dC dI cI cZ cK tS aK aV n y4 (gW i1.toNatClampNeg) 8 mleft mmetres mshut mshield mtoday mbagged mwarmed nW nC mmeals nQ nM nD nA nK msights nP mpadMany nE nF nG macts mgusty mleakAct mleakMuch mendOfCan mbadAct mbadWhy mburnt mboiled nH nI nJ nL mhadLeft mhadToday mhadBagged mhadWarmed mleaves mdayThen mcoldThen nO (u5.2.1 0) nT nU mleakMany mleakActs nV nX nY nZ mkeptAt misWriting gQ gM H.size h_gQ h_gM (by have z8 : (8 : Int32).toInt = 8 := rfl; first | omega | decide | assumption | trivial)) (cwV 3 hts (gw_v (fun _ h9 => List.mem_cons_of_mem _ h9) wm_484 wm_485 wm_486 wm_5 wm_487) rfl rfl rfl (by decide +kernel) ⟨Nat.le_of_ble_eq_true rfl, Nat.le_of_ble_eq_true rfl⟩) (mx_preV (C := RX8) (T := TX8) (N := 53) (ci := 8) hKx hP hD hS hA [3, 0, 1] (by decide) rfl rfl rfl) rfl rfl hl.1 rfl (lv_room (Nat.le_of_ble_eq_true rfl)) dX8_shared_114 ⟨Nat.le_of_ble_eq_true rfl, Nat.le_of_ble_eq_true rfl⟩) hP hD hS hA [3, 0, 1] [2, 4] rfl rfl (by decide) (by decide) (fun r41 u41 H locs hq41 hP hD hS => ?_)
              replace hP : va_P (dC, dI) vwCl [(nW, .inl (cI, 14, .inl gW)), (nO, .inl (cI, 6, .inl (u5.1 0))), (n, .inr (8, [.int mleft, .int mmetres, .int mshut, .int mshield, .int mtoday, .int mbagged, .int mwarmed, .ref nW, .ref nC, .int mmeals, .ref nQ, .ref nM, .ref nD, .ref nA, .ref nK, .int msights, .ref nP, .int mpadMany, .ref nE, .ref nF, .ref nG, .int macts, .int mgusty, .int mleakAct, .int mleakMuch, .int mendOfCan, .int mbadAct, .int mbadWhy, .int mburnt, .int mboiled, .ref nH, .ref nI, .ref nJ, .ref nL, .int mhadLeft, .int mhadToday, .int mhadBagged, .int mhadWarmed, .int mleaves, .int mdayThen, .int mcoldThen, .ref nO, .int (u5.2.1 0), .ref nT, .ref nU, .int mleakMany, .int mleakActs, .ref nV, .ref nX, .ref nY, .ref nZ, .int mkeptAt, .int misWriting])), (nQ, .inl (cI, 6, .inl gQ)), (nM, .inl (cI, 6, .inl gM))] H := hP
              replace hD : va_D A [(nW, .inl (cI, 14, .inl gW)), (nO, .inl (cI, 6, .inl (u5.1 0))), (n, .inr (8, [.int mleft, .int mmetres, .int mshut, .int mshield, .int mtoday, .int mbagged, .int mwarmed, .ref nW, .ref nC, .int mmeals, .ref nQ, .ref nM, .ref nD, .ref nA, .ref nK, .int msights, .ref nP, .int mpadMany, .ref nE, .ref nF, .ref nG, .int macts, .int mgusty, .int mleakAct, .int mleakMuch, .int mendOfCan, .int mbadAct, .int mbadWhy, .int mburnt, .int mboiled, .ref nH, .ref nI, .ref nJ, .ref nL, .int mhadLeft, .int mhadToday, .int mhadBagged, .int mhadWarmed, .int mleaves, .int mdayThen, .int mcoldThen, .ref nO, .int (u5.2.1 0), .ref nT, .ref nU, .int mleakMany, .int mleakActs, .ref nV, .ref nX, .ref nY, .ref nZ, .int mkeptAt, .int misWriting])), (nQ, .inl (cI, 6, .inl gQ)), (nM, .inl (cI, 6, .inl gM))] := hD
              have hr41 := hq41
              obtain rfl : (cbF (gQ y4.toNatClampNeg) (gM y4.toNatClampNeg) mshield (gW i1.toNatClampNeg) 8) = r41 := hr41.symm
              refine lv_imul hx hb dX8_shared_117 ?_
              refine lv_topi (fun x42 e42 => ?_)
              refine lv_iload hx hb dX8_shared_118 (lv_at hl 0 rfl) ?_
              refine lv_aload_n hx hb dX8_shared_120 rfl (lv_at hl 4 rfl) ?_
              refine va_get (D := (dC, dI)) (ci := 8) (v := .ref nM) (C := RX8) (T := TX8) (N := 53) hx hb hts hin8 hown hK hP 2 rfl rfl 11 (by decide) hw3 (fun _ h9 => h9) rfl dX8_shared_121 ?_
              refine lv_iload hx hb dX8_shared_124 (lv_at hl 2 rfl) ?_
              refine va_iald hx hb hK hP 4 0 rfl rfl (vin (by omega) (by omega)) dX8_shared_126 ?_
              refine lv_topi (fun y43 e43 => ?_)
              obtain rfl : gM y4.toNatClampNeg = y43 := e43.symm
              have g43 : 0 ≤ (gM y4.toNatClampNeg).toInt ∧ (gM y4.toNatClampNeg).toInt ≤ 60 := rgI h_gM (by omega) (by omega)
              refine lv_imul hx hb dX8_shared_127 ?_
              refine lv_topi (fun x44 e44 => ?_)
              refine lv_iadd hx hb dX8_shared_128 ?_
              refine lv_topi (fun x45 e45 => ?_)
              refine lv_iadd hx hb dX8_shared_129 ?_
              refine lv_topi (fun x46 e46 => ?_)
              refine lv_istore_n (lv' := [(3, .int x46), (6, .int x36), (5, .int 1), (4, .int y4), (0, .ref n), (1, .int i0), (2, .int i1)]) hx hb dX8_shared_130 rfl hl (by decide) rfl (fun ls hl => ?_)
              obtain ⟨x47, e47⟩ : ∃ y : Int32, y = y4 + Int32.ofInt 1 := ⟨_, rfl⟩
              refine lv_iinc (v := x47) (lv' := [(4, .int x47), (3, .int x46), (6, .int x36), (5, .int 1), (0, .ref n), (1, .int i0), (2, .int i1)]) hx hb dX8_shared_131 hl (k := 3) rfl e47.symm (by decide) rfl (fun ls hl => ?_)
              have f47 : x47.toInt = y4.toInt + 1 := by rw [e47]; exact tinc (by decide) (by have t8 := tb y4; omega) (by have t8 := tb y4; omega)
              refine lv_goto (tgt := 32) hx hb dX8_shared_134 (by decide) ?_
              exact ih (H := H) (locs := locs) (ls := ls) (y3 := x46) (y4 := x47) hS (by omega)  (show lv_has ls 7 [(4, .int x47), (3, .int x46), (0, .ref n), (1, .int i0), (2, .int i1)] from lv_sub hl [0, 1, 4, 5, 6] rfl) (mx_subP (wc := [(nQ, .inl (cI, 6, .inl gQ)), (nM, .inl (cI, 6, .inl gM)), (nW, .inl (cI, 14, .inl gW)), (n, .inr (8, [.int mleft, .int mmetres, .int mshut, .int mshield, .int mtoday, .int mbagged, .int mwarmed, .ref nW, .ref nC, .int mmeals, .ref nQ, .ref nM, .ref nD, .ref nA, .ref nK, .int msights, .ref nP, .int mpadMany, .ref nE, .ref nF, .ref nG, .int macts, .int mgusty, .int mleakAct, .int mleakMuch, .int mendOfCan, .int mbadAct, .int mbadWhy, .int mburnt, .int mboiled, .ref nH, .ref nI, .ref nJ, .ref nL, .int mhadLeft, .int mhadToday, .int mhadBagged, .int mhadWarmed, .int mleaves, .int mdayThen, .int mcoldThen, .ref nO, .int (u5.2.1 0), .ref nT, .ref nU, .int mleakMany, .int mleakActs, .ref nV, .ref nX, .ref nY, .ref nZ, .int mkeptAt, .int misWriting])), (nO, .inl (cI, 6, .inl (u5.1 0)))]) hP [3, 4, 0, 2, 1] rfl) (by omega)
            · have t38 : ((u5.1 0) y4.toNatClampNeg).toInt = (0 : Int) := (teq c38)
              refine lv_iconst (v := 0) hx hb dX8_shared_92 (by decide) ?_
              refine lv_goto (tgt := 129) hx hb dX8_shared_93 (by decide) ?_
              refine lv_iadd hx hb dX8_shared_129 ?_
              refine lv_topi (fun y48 e48 => ?_)
              obtain rfl : y3 = y48 := (e48.trans (by simp)).symm
              refine lv_istore_n (lv' := [(3, .int y3), (6, .int x36), (5, .int 1), (4, .int y4), (0, .ref n), (1, .int i0), (2, .int i1)]) hx hb dX8_shared_130 rfl hl (by decide) rfl (fun ls hl => ?_)
              obtain ⟨x49, e49⟩ : ∃ y : Int32, y = y4 + Int32.ofInt 1 := ⟨_, rfl⟩
              refine lv_iinc (v := x49) (lv' := [(4, .int x49), (3, .int y3), (6, .int x36), (5, .int 1), (0, .ref n), (1, .int i0), (2, .int i1)]) hx hb dX8_shared_131 hl (k := 3) rfl e49.symm (by decide) rfl (fun ls hl => ?_)
              have f49 : x49.toInt = y4.toInt + 1 := by rw [e49]; exact tinc (by decide) (by have t8 := tb y4; omega) (by have t8 := tb y4; omega)
              refine lv_goto (tgt := 32) hx hb dX8_shared_134 (by decide) ?_
              exact ih (H := H) (locs := locs) (ls := ls) (y3 := y3) (y4 := x49) hS (by omega)  (show lv_has ls 7 [(4, .int x49), (3, .int y3), (0, .ref n), (1, .int i0), (2, .int i1)] from lv_sub hl [0, 1, 4, 5, 6] rfl) (mx_subP (wc := [(nQ, .inl (cI, 6, .inl gQ)), (nM, .inl (cI, 6, .inl gM)), (nW, .inl (cI, 14, .inl gW)), (n, .inr (8, [.int mleft, .int mmetres, .int mshut, .int mshield, .int mtoday, .int mbagged, .int mwarmed, .ref nW, .ref nC, .int mmeals, .ref nQ, .ref nM, .ref nD, .ref nA, .ref nK, .int msights, .ref nP, .int mpadMany, .ref nE, .ref nF, .ref nG, .int macts, .int mgusty, .int mleakAct, .int mleakMuch, .int mendOfCan, .int mbadAct, .int mbadWhy, .int mburnt, .int mboiled, .ref nH, .ref nI, .ref nJ, .ref nL, .int mhadLeft, .int mhadToday, .int mhadBagged, .int mhadWarmed, .int mleaves, .int mdayThen, .int mcoldThen, .ref nO, .int (u5.2.1 0), .ref nT, .ref nU, .int mleakMany, .int mleakActs, .ref nV, .ref nX, .ref nY, .ref nZ, .int mkeptAt, .int misWriting])), (nO, .inl (cI, 6, .inl (u5.1 0)))]) hP [0, 1, 2, 3, 4] rfl) (by omega)
      · have t6 : r5.toInt = (0 : Int) := (teq c6)
        refine lv_iconst (v := (-1)) hx hb dX8_shared_25 (by decide) ?_
        have hP9 := mx_subP (wc := [(n, .inr (8, [.int mleft, .int mmetres, .int mshut, .int mshield, .int mtoday, .int mbagged, .int mwarmed, .ref nW, .ref nC, .int mmeals, .ref nQ, .ref nM, .ref nD, .ref nA, .ref nK, .int msights, .ref nP, .int mpadMany, .ref nE, .ref nF, .ref nG, .int macts, .int mgusty, .int mleakAct, .int mleakMuch, .int mendOfCan, .int mbadAct, .int mbadWhy, .int mburnt, .int mboiled, .ref nH, .ref nI, .ref nJ, .ref nL, .int mhadLeft, .int mhadToday, .int mhadBagged, .int mhadWarmed, .int mleaves, .int mdayThen, .int mcoldThen, .ref nO, .int (u5.2.1 0), .ref nT, .ref nU, .int mleakMany, .int mleakActs, .ref nV, .ref nX, .ref nY, .ref nZ, .int mkeptAt, .int misWriting])), (nO, .inl (cI, 6, .inl (u5.1 0))), (nQ, .inl (cI, 6, .inl gQ)), (nM, .inl (cI, 6, .inl gM)), (nW, .inl (cI, 14, .inl gW))]) hP [3, 4, 0, 1, 2] rfl
        have hD9 := hD.sub (ws' := [(n, .inr (8, [.int mleft, .int mmetres, .int mshut, .int mshield, .int mtoday, .int mbagged, .int mwarmed, .ref nW, .ref nC, .int mmeals, .ref nQ, .ref nM, .ref nD, .ref nA, .ref nK, .int msights, .ref nP, .int mpadMany, .ref nE, .ref nF, .ref nG, .int macts, .int mgusty, .int mleakAct, .int mleakMuch, .int mendOfCan, .int mbadAct, .int mbadWhy, .int mburnt, .int mboiled, .ref nH, .ref nI, .ref nJ, .ref nL, .int mhadLeft, .int mhadToday, .int mhadBagged, .int mhadWarmed, .int mleaves, .int mdayThen, .int mcoldThen, .ref nO, .int (u5.2.1 0), .ref nT, .ref nU, .int mleakMany, .int mleakActs, .ref nV, .ref nX, .ref nY, .ref nZ, .int mkeptAt, .int misWriting])), (nO, .inl (cI, 6, .inl (u5.1 0))), (nQ, .inl (cI, 6, .inl gQ)), (nM, .inl (cI, 6, .inl gM)), (nW, .inl (cI, 14, .inl gW))]) [3, 4, 0, 1, 2] (by decide) rfl
        exact W.iret (v := (-1)) hx hb hr (fun t ht hW => ⟨⟨(-1), ((fun u9 => ([(u5.1 0)] : List (Nat → Int32)).getD u9 (fun _ => 0)), (fun u9 => ([(u5.2.1 0)] : List Int32).getD u9 0), (fun u9 => ([] : List Int64).getD u9 0)), rfl, hu5_1, by rw [ht]; exact hP9, hD9⟩, hS.F ht⟩) hS.2.2 dX8_shared_26
    · have hf3 : i1.toInt < 0 ∨ 13 < i1.toInt := hf3
      refine lv_if_eq (tgt := 25) hx hb dX8_shared_14 (by decide) (fun c50 => ?_) (fun c50 => absurd c50 (by decide))
      refine lv_iconst (v := (-1)) hx hb dX8_shared_25 (by decide) ?_
      have hP9 := mx_subP (wc := [(n, .inr (8, [.int mleft, .int mmetres, .int mshut, .int mshield, .int mtoday, .int mbagged, .int mwarmed, .ref nW, .ref nC, .int mmeals, .ref nQ, .ref nM, .ref nD, .ref nA, .ref nK, .int msights, .ref nP, .int mpadMany, .ref nE, .ref nF, .ref nG, .int macts, .int mgusty, .int mleakAct, .int mleakMuch, .int mendOfCan, .int mbadAct, .int mbadWhy, .int mburnt, .int mboiled, .ref nH, .ref nI, .ref nJ, .ref nL, .int mhadLeft, .int mhadToday, .int mhadBagged, .int mhadWarmed, .int mleaves, .int mdayThen, .int mcoldThen, .ref nO, .int mportionMany, .ref nT, .ref nU, .int mleakMany, .int mleakActs, .ref nV, .ref nX, .ref nY, .ref nZ, .int mkeptAt, .int misWriting])), (nO, .inl (cI, 6, .inl gO)), (nQ, .inl (cI, 6, .inl gQ)), (nM, .inl (cI, 6, .inl gM)), (nW, .inl (cI, 14, .inl gW))]) hP [0, 1, 2, 3, 4] rfl
      have hD9 := hD.sub (ws' := [(n, .inr (8, [.int mleft, .int mmetres, .int mshut, .int mshield, .int mtoday, .int mbagged, .int mwarmed, .ref nW, .ref nC, .int mmeals, .ref nQ, .ref nM, .ref nD, .ref nA, .ref nK, .int msights, .ref nP, .int mpadMany, .ref nE, .ref nF, .ref nG, .int macts, .int mgusty, .int mleakAct, .int mleakMuch, .int mendOfCan, .int mbadAct, .int mbadWhy, .int mburnt, .int mboiled, .ref nH, .ref nI, .ref nJ, .ref nL, .int mhadLeft, .int mhadToday, .int mhadBagged, .int mhadWarmed, .int mleaves, .int mdayThen, .int mcoldThen, .ref nO, .int mportionMany, .ref nT, .ref nU, .int mleakMany, .int mleakActs, .ref nV, .ref nX, .ref nY, .ref nZ, .int mkeptAt, .int misWriting])), (nO, .inl (cI, 6, .inl gO)), (nQ, .inl (cI, 6, .inl gQ)), (nM, .inl (cI, 6, .inl gM)), (nW, .inl (cI, 14, .inl gW))]) [0, 1, 2, 3, 4] (by decide) rfl
      exact W.iret (v := (-1)) hx hb hr (fun t ht hW => ⟨⟨(-1), ((fun u9 => ([gO] : List (Nat → Int32)).getD u9 (fun _ => 0)), (fun u9 => ([mportionMany] : List Int32).getD u9 0), (fun u9 => ([] : List Int64).getD u9 0)), rfl, h_gO, by rw [ht]; exact hP9, hD9⟩, hS.F ht⟩) hS.2.2 dX8_shared_26
  · have hf1 : i0.toInt < 0 ∨ 999999 < i0.toInt := hf1
    refine lv_if_ne (tgt := 10) hx hb dX8_shared_4 (by decide) (fun c51 => absurd c51 (by decide)) (fun c51 => ?_)
    refine lv_bipush (v := (-2)) hx hb dX8_shared_7 (by decide) ?_
    have hP9 := mx_subP (wc := [(n, .inr (8, [.int mleft, .int mmetres, .int mshut, .int mshield, .int mtoday, .int mbagged, .int mwarmed, .ref nW, .ref nC, .int mmeals, .ref nQ, .ref nM, .ref nD, .ref nA, .ref nK, .int msights, .ref nP, .int mpadMany, .ref nE, .ref nF, .ref nG, .int macts, .int mgusty, .int mleakAct, .int mleakMuch, .int mendOfCan, .int mbadAct, .int mbadWhy, .int mburnt, .int mboiled, .ref nH, .ref nI, .ref nJ, .ref nL, .int mhadLeft, .int mhadToday, .int mhadBagged, .int mhadWarmed, .int mleaves, .int mdayThen, .int mcoldThen, .ref nO, .int mportionMany, .ref nT, .ref nU, .int mleakMany, .int mleakActs, .ref nV, .ref nX, .ref nY, .ref nZ, .int mkeptAt, .int misWriting])), (nO, .inl (cI, 6, .inl gO)), (nQ, .inl (cI, 6, .inl gQ)), (nM, .inl (cI, 6, .inl gM)), (nW, .inl (cI, 14, .inl gW))]) hP [0, 1, 2, 3, 4] rfl
    have hD9 := hD.sub (ws' := [(n, .inr (8, [.int mleft, .int mmetres, .int mshut, .int mshield, .int mtoday, .int mbagged, .int mwarmed, .ref nW, .ref nC, .int mmeals, .ref nQ, .ref nM, .ref nD, .ref nA, .ref nK, .int msights, .ref nP, .int mpadMany, .ref nE, .ref nF, .ref nG, .int macts, .int mgusty, .int mleakAct, .int mleakMuch, .int mendOfCan, .int mbadAct, .int mbadWhy, .int mburnt, .int mboiled, .ref nH, .ref nI, .ref nJ, .ref nL, .int mhadLeft, .int mhadToday, .int mhadBagged, .int mhadWarmed, .int mleaves, .int mdayThen, .int mcoldThen, .ref nO, .int mportionMany, .ref nT, .ref nU, .int mleakMany, .int mleakActs, .ref nV, .ref nX, .ref nY, .ref nZ, .int mkeptAt, .int misWriting])), (nO, .inl (cI, 6, .inl gO)), (nQ, .inl (cI, 6, .inl gQ)), (nM, .inl (cI, 6, .inl gM)), (nW, .inl (cI, 14, .inl gW))]) [0, 1, 2, 3, 4] (by decide) rfl
    exact W.iret (v := (-2)) hx hb hr (fun t ht hW => ⟨⟨(-2), ((fun u9 => ([gO] : List (Nat → Int32)).getD u9 (fun _ => 0)), (fun u9 => ([mportionMany] : List Int32).getD u9 0), (fun u9 => ([] : List Int64).getD u9 0)), rfl, h_gO, by rw [ht]; exact hP9, hD9⟩, hS.F ht⟩) hS.2.2 dX8_shared_9
