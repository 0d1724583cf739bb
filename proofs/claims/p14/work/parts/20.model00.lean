set_option maxHeartbeats 4000000 in
set_option maxRecDepth 100000 in
theorem c_X8_in (l : Launch) (dC : Nat → ClassId) (dI : Nat → Nat → Nat) (cI cZ cK : ClassId) (tS : Nat) (aK aV : Nat → Nat) (i0 : Int64) (i1 : Int64) (i2 : Int64) (sz : Nat) : Ci l yX8_in (wq yX8_in cX8_in 6 (some .boolean)) ({ frames := 0, cells := 0, slots := 0, locals := 0 }) dC dI cI cZ cK tS aK aV [.long i0, .long i1, .long i2] sz [] (fun (r : Int32) (u : Unit) => (r = 1 ∧ (i1.toInt ≤ i0.toInt ∧ i0.toInt ≤ i2.toInt)) ∨ (r = 0 ∧ (i0.toInt < i1.toInt ∨ i2.toInt < i0.toInt))) (fun _ => []) := by
  refine Met.ofW (cc := cX8_in) (maxL := 6) (ret := (some .boolean)) (by decide) rfl ?_
  intro p e s m args below meth c s₁ B hml hv
  obtain ⟨rfl, hsz, hP, hKx, hD0⟩ := hv
  have hx := B.exec
  have hb := B.bytes
  have hr := B.returns
  have hts := atoms_spec (ws := wq yX8_in cX8_in 6 (some .boolean)) B.pre
  have hown : s.vm.findClass RX8 = some m.cls := findClass_of_methodNamed B.named
  have hlocks := B.notSynchronized
  subst hsz
  have hD := hD0.self (sz := s.heap.size)
  generalize hAe : va_A [] s.heap.size = A at hD hKx ⊢
  have hA : ∀ q : Nat, s.heap.size ≤ q → A q := fun q h => by rw [← hAe]; exact Or.inr h
  have hS : va_S A s.heap s.heap [] := va_S.rf
  have hP : va_P (dC, dI) vwCl [] s.heap := hP
  have hl := lv_entry ([.long i0, .long i1, .long i2]) (n := 6) (Nat.le_of_ble_eq_true rfl)
  rw [lg_entry_eq]
  generalize (lg_sl ([.long i0, .long i1, .long i2]) ++ List.replicate (6 - (lg_sl ([.long i0, .long i1, .long i2])).length) Slot.unset).toArray = ls at hl ⊢
  have hl : lv_has ls 6 [(0, .long i0), (2, .long i1), (4, .long i2)] := hl
  have hK := hKx.1
  refine lv_lload_n hx hb dX8_in_0 rfl (lv_at hl 0 rfl) ?_
  refine lv_lload_n hx hb dX8_in_1 rfl (lv_at hl 1 rfl) ?_
  refine W.lcmp hx hb dX8_in_2 ?_
  refine lv_if_lt (tgt := 17) hx hb dX8_in_3 (by decide) (fun c1 => ?_) (fun c1 => ?_)
  · have t1 : i0.toInt < i1.toInt := (lltp c1)
    refine lv_iconst (v := 0) hx hb dX8_in_17 (by decide) ?_
    have hP9 := mx_subP (wc := []) hP [] rfl
    have hD9 := hD.sub (ws' := []) [] (by decide) rfl
    exact W.zret (v := 0) hx hb hr rfl (fun t ht hW => ⟨⟨0, (), rfl, (by first | exact Or.inl (⟨rfl, by omega⟩) | exact Or.inr (⟨rfl, by omega⟩)), by rw [ht]; exact hP9, hD9⟩, hS.F ht⟩) hS.2.2 dX8_in_18
  · have t1 : i1.toInt ≤ i0.toInt := (lltn c1)
    refine lv_lload_n hx hb dX8_in_6 rfl (lv_at hl 0 rfl) ?_
    refine lv_lload hx hb dX8_in_7 (lv_at hl 2 rfl) ?_
    refine W.lcmp hx hb dX8_in_9 ?_
    refine lv_if_gt (tgt := 17) hx hb dX8_in_10 (by decide) (fun c2 => ?_) (fun c2 => ?_)
    · have t2 : i2.toInt < i0.toInt := (lgtp c2)
      refine lv_iconst (v := 0) hx hb dX8_in_17 (by decide) ?_
      have hP9 := mx_subP (wc := []) hP [] rfl
      have hD9 := hD.sub (ws' := []) [] (by decide) rfl
      exact W.zret (v := 0) hx hb hr rfl (fun t ht hW => ⟨⟨0, (), rfl, (by first | exact Or.inl (⟨rfl, by omega⟩) | exact Or.inr (⟨rfl, by omega⟩)), by rw [ht]; exact hP9, hD9⟩, hS.F ht⟩) hS.2.2 dX8_in_18
    · have t2 : i0.toInt ≤ i2.toInt := (lgtn c2)
      refine lv_iconst (v := 1) hx hb dX8_in_13 (by decide) ?_
      refine lv_goto (tgt := 18) hx hb dX8_in_14 (by decide) ?_
      have hP9 := mx_subP (wc := []) hP [] rfl
      have hD9 := hD.sub (ws' := []) [] (by decide) rfl
      exact W.zret (v := 1) hx hb hr rfl (fun t ht hW => ⟨⟨1, (), rfl, (by first | exact Or.inl (⟨rfl, by omega⟩) | exact Or.inr (⟨rfl, by omega⟩)), by rw [ht]; exact hP9, hD9⟩, hS.F ht⟩) hS.2.2 dX8_in_18
set_option maxHeartbeats 4000000 in
set_option maxRecDepth 100000 in
theorem c_X8_isDay (l : Launch) (dC : Nat → ClassId) (dI : Nat → Nat → Nat) (cI cZ cK : ClassId) (tS : Nat) (aK aV : Nat → Nat) (i0 : Int32) (sz : Nat) : Ci l yX8_isDay (wq yX8_isDay cX8_isDay 1 (some .boolean)) ({ frames := 1, cells := 0, slots := 0, locals := 25 }) dC dI cI cZ cK tS aK aV [.int i0] sz [] (fun (r : Int32) (u : Unit) => (r = 1 ∧ (0 ≤ i0.toInt ∧ i0.toInt ≤ 13)) ∨ (r = 0 ∧ (i0.toInt < 0 ∨ 13 < i0.toInt))) (fun _ => []) := by
  refine Met.ofW (cc := cX8_isDay) (maxL := 1) (ret := (some .boolean)) (by decide) rfl ?_
  intro p e s m args below meth c s₁ B hml hv
  obtain ⟨rfl, hsz, hP, hKx, hD0⟩ := hv
  have hx := B.exec
  have hb := B.bytes
  have hr := B.returns
  have hts := atoms_spec (ws := wq yX8_isDay cX8_isDay 1 (some .boolean)) B.pre
  have hown : s.vm.findClass RX8 = some m.cls := findClass_of_methodNamed B.named
  have hlocks := B.notSynchronized
  subst hsz
  have hD := hD0.self (sz := s.heap.size)
  generalize hAe : va_A [] s.heap.size = A at hD hKx ⊢
  have hA : ∀ q : Nat, s.heap.size ≤ q → A q := fun q h => by rw [← hAe]; exact Or.inr h
  have hS : va_S A s.heap s.heap [] := va_S.rf
  have hP : va_P (dC, dI) vwCl [] s.heap := hP
  have hl := lv_entry ([.int i0]) (n := 1) (Nat.le_of_ble_eq_true rfl)
  rw [lg_entry_eq]
  generalize (lg_sl ([.int i0]) ++ List.replicate (1 - (lg_sl ([.int i0])).length) Slot.unset).toArray = ls at hl ⊢
  have hl : lv_has ls 1 [(0, .int i0)] := hl
  have hK := hKx.1
  have hw0 := hts (.constantLong RX8 81 13) (List.mem_cons_of_mem _ wm_181)
  refine lv_iload_n hx hb dX8_isDay_0 rfl (lv_at hl 0 rfl) ?_
  refine lv_i2l (v := i0.toInt64) hx hb dX8_isDay_1 rfl ?_
  refine lv_lconst (v := 0) hx hb dX8_isDay_2 (by decide) ?_
  refine lv_ldc2 (v := 13) hx hb hown hw0 dX8_isDay_3 ?_
  refine mx_i (wr := []) (va_runS (As := [.long (i0.toInt64), .long 0, .long 13]) (rest := []) ⟨hx, hb, hml, hown, hts⟩ (c_X8_in l dC dI cI cZ cK tS aK aV (i0.toInt64) 0 13 s.heap.size) (va_cwS 3 hts (gw_s (fun _ h9 => List.mem_cons_of_mem _ h9) wm_155 wm_156 wm_5 wm_157) rfl rfl rfl (by decide +kernel) ⟨Nat.le_of_ble_eq_true rfl, Nat.le_of_ble_eq_true rfl⟩) (mx_preS hKx hP hD hS hA [] (by decide) rfl) rfl rfl hl.1 rfl (lv_room (Nat.le_of_ble_eq_true rfl)) dX8_isDay_6 ⟨Nat.le_of_ble_eq_true rfl, Nat.le_of_ble_eq_true rfl⟩) hP hD hS hA [] [] rfl rfl (by decide) (by decide) (fun r1 u1 H locs hq1 hP hD hS => ?_)
  replace hP : va_P (dC, dI) vwCl [] H := hP
  replace hD : va_D A [] := hD
  rcases hq1 with ⟨rfl, hf1⟩ | ⟨rfl, hf1⟩
  · have hf1 : (0 : Int) ≤ i0.toInt ∧ i0.toInt ≤ (13 : Int) := (by have h9 := hf1; simp only [Int32.toInt_toInt64] at h9; exact h9)
    have hP9 := mx_subP (wc := []) hP [] rfl
    have hD9 := hD.sub (ws' := []) [] (by decide) rfl
    exact W.zret (v := 1) hx hb hr rfl (fun t ht hW => ⟨⟨1, (), rfl, (by first | exact Or.inl (⟨rfl, by omega⟩) | exact Or.inr (⟨rfl, by omega⟩)), by rw [ht]; exact hP9, hD9⟩, hS.F ht⟩) hS.2.2 dX8_isDay_9
  · have hf1 : i0.toInt < (0 : Int) ∨ (13 : Int) < i0.toInt := (by have h9 := hf1; simp only [Int32.toInt_toInt64] at h9; exact h9)
    have hP9 := mx_subP (wc := []) hP [] rfl
    have hD9 := hD.sub (ws' := []) [] (by decide) rfl
    exact W.zret (v := 0) hx hb hr rfl (fun t ht hW => ⟨⟨0, (), rfl, (by first | exact Or.inl (⟨rfl, by omega⟩) | exact Or.inr (⟨rfl, by omega⟩)), by rw [ht]; exact hP9, hD9⟩, hS.F ht⟩) hS.2.2 dX8_isDay_9
set_option maxHeartbeats 4000000 in
set_option maxRecDepth 100000 in
theorem c_X8_isMeal (l : Launch) (dC : Nat → ClassId) (dI : Nat → Nat → Nat) (cI cZ cK : ClassId) (tS : Nat) (aK aV : Nat → Nat) (n : Nat) (i0 : Int32) (mleft : Int32) (mmetres : Int32) (mshut : Int32) (mshield : Int32) (mtoday : Int32) (mbagged : Int32) (mwarmed : Int32) (nW : Nat) (nC : Nat) (mmeals : Int32) (nQ : Nat) (nM : Nat) (nD : Nat) (nA : Nat) (nK : Nat) (msights : Int32) (nP : Nat) (mpadMany : Int32) (nE : Nat) (nF : Nat) (nG : Nat) (macts : Int32) (mgusty : Int32) (mleakAct : Int32) (mleakMuch : Int32) (mendOfCan : Int32) (mbadAct : Int32) (mbadWhy : Int32) (mburnt : Int32) (mboiled : Int32) (nH : Nat) (nI : Nat) (nJ : Nat) (nL : Nat) (mhadLeft : Int32) (mhadToday : Int32) (mhadBagged : Int32) (mhadWarmed : Int32) (mleaves : Int32) (mdayThen : Int32) (mcoldThen : Int32) (nO : Nat) (mportionMany : Int32) (nT : Nat) (nU : Nat) (mleakMany : Int32) (mleakActs : Int32) (nV : Nat) (nX : Nat) (nY : Nat) (nZ : Nat) (mkeptAt : Int32) (misWriting : Int32) (sz : Nat) : Ci l yX8_isMeal (wq yX8_isMeal cX8_isMeal 2 (some .boolean)) ({ frames := 1, cells := 0, slots := 0, locals := 25 }) dC dI cI cZ cK tS aK aV [.ref n, .int i0] sz [(n, .inr (8, [.int mleft, .int mmetres, .int mshut, .int mshield, .int mtoday, .int mbagged, .int mwarmed, .ref nW, .ref nC, .int mmeals, .ref nQ, .ref nM, .ref nD, .ref nA, .ref nK, .int msights, .ref nP, .int mpadMany, .ref nE, .ref nF, .ref nG, .int macts, .int mgusty, .int mleakAct, .int mleakMuch, .int mendOfCan, .int mbadAct, .int mbadWhy, .int mburnt, .int mboiled, .ref nH, .ref nI, .ref nJ, .ref nL, .int mhadLeft, .int mhadToday, .int mhadBagged, .int mhadWarmed, .int mleaves, .int mdayThen, .int mcoldThen, .ref nO, .int mportionMany, .ref nT, .ref nU, .int mleakMany, .int mleakActs, .ref nV, .ref nX, .ref nY, .ref nZ, .int mkeptAt, .int misWriting]))] (fun (r : Int32) (u : Unit) => (r.toInt ≠ 1 ∨ bt mmeals i0.toNatClampNeg = true) ∧ (r = hsF mmeals i0) ∧ ((r = 1 ∧ (0 ≤ i0.toInt ∧ i0.toInt ≤ 5)) ∨ (r = 0 ∧ (True)))) (fun _ => [(n, .inr (8, [.int mleft, .int mmetres, .int mshut, .int mshield, .int mtoday, .int mbagged, .int mwarmed, .ref nW, .ref nC, .int mmeals, .ref nQ, .ref nM, .ref nD, .ref nA, .ref nK, .int msights, .ref nP, .int mpadMany, .ref nE, .ref nF, .ref nG, .int macts, .int mgusty, .int mleakAct, .int mleakMuch, .int mendOfCan, .int mbadAct, .int mbadWhy, .int mburnt, .int mboiled, .ref nH, .ref nI, .ref nJ, .ref nL, .int mhadLeft, .int mhadToday, .int mhadBagged, .int mhadWarmed, .int mleaves, .int mdayThen, .int mcoldThen, .ref nO, .int mportionMany, .ref nT, .ref nU, .int mleakMany, .int mleakActs, .ref nV, .ref nX, .ref nY, .ref nZ, .int mkeptAt, .int misWriting]))]) := by
  refine Met.ofW (cc := cX8_isMeal) (maxL := 2) (ret := (some .boolean)) (by decide) rfl ?_
  intro p e s m args below meth c s₁ B hml hv
  obtain ⟨rfl, hsz, hP, hKx, hD0⟩ := hv
  have hx := B.exec
  have hb := B.bytes
  have hr := B.returns
  have hts := atoms_spec (ws := wq yX8_isMeal cX8_isMeal 2 (some .boolean)) B.pre
  have hown : s.vm.findClass RX8 = some m.cls := findClass_of_methodNamed B.named
  have hlocks := B.notSynchronized
  subst hsz
  have hD := hD0.self (sz := s.heap.size)
  generalize hAe : va_A [(n, .inr (8, [.int mleft, .int mmetres, .int mshut, .int mshield, .int mtoday, .int mbagged, .int mwarmed, .ref nW, .ref nC, .int mmeals, .ref nQ, .ref nM, .ref nD, .ref nA, .ref nK, .int msights, .ref nP, .int mpadMany, .ref nE, .ref nF, .ref nG, .int macts, .int mgusty, .int mleakAct, .int mleakMuch, .int mendOfCan, .int mbadAct, .int mbadWhy, .int mburnt, .int mboiled, .ref nH, .ref nI, .ref nJ, .ref nL, .int mhadLeft, .int mhadToday, .int mhadBagged, .int mhadWarmed, .int mleaves, .int mdayThen, .int mcoldThen, .ref nO, .int mportionMany, .ref nT, .ref nU, .int mleakMany, .int mleakActs, .ref nV, .ref nX, .ref nY, .ref nZ, .int mkeptAt, .int misWriting]))] s.heap.size = A at hD hKx ⊢
  have hA : ∀ q : Nat, s.heap.size ≤ q → A q := fun q h => by rw [← hAe]; exact Or.inr h
  have hS : va_S A s.heap s.heap [] := va_S.rf
  have hP : va_P (dC, dI) vwCl [(n, .inr (8, [.int mleft, .int mmetres, .int mshut, .int mshield, .int mtoday, .int mbagged, .int mwarmed, .ref nW, .ref nC, .int mmeals, .ref nQ, .ref nM, .ref nD, .ref nA, .ref nK, .int msights, .ref nP, .int mpadMany, .ref nE, .ref nF, .ref nG, .int macts, .int mgusty, .int mleakAct, .int mleakMuch, .int mendOfCan, .int mbadAct, .int mbadWhy, .int mburnt, .int mboiled, .ref nH, .ref nI, .ref nJ, .ref nL, .int mhadLeft, .int mhadToday, .int mhadBagged, .int mhadWarmed, .int mleaves, .int mdayThen, .int mcoldThen, .ref nO, .int mportionMany, .ref nT, .ref nU, .int mleakMany, .int mleakActs, .ref nV, .ref nX, .ref nY, .ref nZ, .int mkeptAt, .int misWriting]))] s.heap := hP
  have hl := lv_entry ([.ref n, .int i0]) (n := 2) (Nat.le_of_ble_eq_true rfl)
  rw [lg_entry_eq]
  generalize (lg_sl ([.ref n, .int i0]) ++ List.replicate (2 - (lg_sl ([.ref n, .int i0])).length) Slot.unset).toArray = ls at hl ⊢
  have hl : lv_has ls 2 [(0, .ref n), (1, .int i0)] := hl
  have hK := hKx.1
  have hin8 := fun w9 h9 => List.mem_cons_of_mem (Cond.code yX8_isMeal cX8_isMeal 2 (some .boolean)) (inlX8 w9 h9)
  have hw0 := hts (.constantLong RX8 87 5) (List.mem_cons_of_mem _ wm_201)
  have hw1 := hts (.fieldLink RX8 89 "OneCanModel" "meals" "I") (List.mem_cons_of_mem _ wm_204)
  refine lv_iload_n hx hb dX8_isMeal_0 rfl (lv_at hl 1 rfl) ?_
  refine lv_i2l (v := i0.toInt64) hx hb dX8_isMeal_1 rfl ?_
  refine lv_lconst (v := 0) hx hb dX8_isMeal_2 (by decide) ?_
  refine lv_ldc2 (v := 5) hx hb hown hw0 dX8_isMeal_3 ?_
  refine mx_i (wr := [(n, .inr (8, [.int mleft, .int mmetres, .int mshut, .int mshield, .int mtoday, .int mbagged, .int mwarmed, .ref nW, .ref nC, .int mmeals, .ref nQ, .ref nM, .ref nD, .ref nA, .ref nK, .int msights, .ref nP, .int mpadMany, .ref nE, .ref nF, .ref nG, .int macts, .int mgusty, .int mleakAct, .int mleakMuch, .int mendOfCan, .int mbadAct, .int mbadWhy, .int mburnt, .int mboiled, .ref nH, .ref nI, .ref nJ, .ref nL, .int mhadLeft, .int mhadToday, .int mhadBagged, .int mhadWarmed, .int mleaves, .int mdayThen, .int mcoldThen, .ref nO, .int mportionMany, .ref nT, .ref nU, .int mleakMany, .int mleakActs, .ref nV, .ref nX, .ref nY, .ref nZ, .int mkeptAt, .int misWriting]))]) (va_runS (As := [.long (i0.toInt64), .long 0, .long 5]) (rest := []) ⟨hx, hb, hml, hown, hts⟩ (c_X8_in l dC dI cI cZ cK tS aK aV (i0.toInt64) 0 5 s.heap.size) (va_cwS 3 hts (gw_s (fun _ h9 => List.mem_cons_of_mem _ h9) wm_155 wm_156 wm_5 wm_157) rfl rfl rfl (by decide +kernel) ⟨Nat.le_of_ble_eq_true rfl, Nat.le_of_ble_eq_true rfl⟩) (mx_preS hKx hP hD hS hA [] (by decide) rfl) rfl rfl hl.1 rfl (lv_room (Nat.le_of_ble_eq_true rfl)) dX8_isMeal_6 ⟨Nat.le_of_ble_eq_true rfl, Nat.le_of_ble_eq_true rfl⟩) hP hD hS hA [] [0] rfl rfl (by decide) (by decide) (fun r1 u1 H locs hq1 hP hD hS => ?_)
  replace hP : va_P (dC, dI) vwCl [(n, .inr (8, [.int mleft, .int mmetres, .int mshut, .int mshield, .int mtoday, .int mbagged, .int mwarmed, .ref nW, .ref nC, .int mmeals, .ref nQ, .ref nM, .ref nD, .ref nA, .ref nK, .int msights, .ref nP, .int mpadMany, .ref nE, .ref nF, .ref nG, .int macts, .int mgusty, .int mleakAct, .int mleakMuch, .int mendOfCan, .int mbadAct, .int mbadWhy, .int mburnt, .int mboiled, .ref nH, .ref nI, .ref nJ, .ref nL, .int mhadLeft, .int mhadToday, .int mhadBagged, .int mhadWarmed, .int mleaves, .int mdayThen, .int mcoldThen, .ref nO, .int mportionMany, .ref nT, .ref nU, .int mleakMany, .int mleakActs, .ref nV, .ref nX, .ref nY, .ref nZ, .int mkeptAt, .int misWriting]))] H := hP
  replace hD : va_D A [(n, .inr (8, [.int mleft, .int mmetres, .int mshut, .int mshield, .int mtoday, .int mbagged, .int mwarmed, .ref nW, .ref nC, .int mmeals, .ref nQ, .ref nM, .ref nD, .ref nA, .ref nK, .int msights, .ref nP, .int mpadMany, .ref nE, .ref nF, .ref nG, .int macts, .int mgusty, .int mleakAct, .int mleakMuch, .int mendOfCan, .int mbadAct, .int mbadWhy, .int mburnt, .int mboiled, .ref nH, .ref nI, .ref nJ, .ref nL, .int mhadLeft, .int mhadToday, .int mhadBagged, .int mhadWarmed, .int mleaves, .int mdayThen, .int mcoldThen, .ref nO, .int mportionMany, .ref nT, .ref nU, .int mleakMany, .int mleakActs, .ref nV, .ref nX, .ref nY, .ref nZ, .int mkeptAt, .int misWriting]))] := hD
  rcases hq1 with ⟨rfl, hf1⟩ | ⟨rfl, hf1⟩
  · have hf1 : (0 : Int) ≤ i0.toInt ∧ i0.toInt ≤ (5 : Int) := (by have h9 := hf1; simp only [Int32.toInt_toInt64] at h9; exact h9)
    refine lv_if_eq (tgt := 28) hx hb dX8_isMeal_9 (by decide) (fun c2 => absurd c2 (by decide)) (fun c2 => ?_)
    refine lv_aload_n hx hb dX8_isMeal_12 rfl (lv_at hl 0 rfl) ?_
    refine va_get (D := (dC, dI)) (ci := 8) (v := .int mmeals) (C := RX8) (T := TX8) (N := 53) hx hb hts hin8 hown hK hP 0 rfl rfl 9 (by decide) hw1 (fun _ h9 => h9) rfl dX8_isMeal_13 ?_
    refine lv_iload_n hx hb dX8_isMeal_16 rfl (lv_at hl 1 rfl) ?_
    refine lv_ishr hx hb dX8_isMeal_17 ?_
    refine lv_iconst (v := 1) hx hb dX8_isMeal_18 (by decide) ?_
    refine lv_iand hx hb dX8_isMeal_19 ?_
    refine lv_iconst (v := 1) hx hb dX8_isMeal_20 (by decide) ?_
    refine lv_icmp_ne (tgt := 28) hx hb dX8_isMeal_21 (by decide) (fun c3 => ?_) (fun c3 => ?_)
    · have t3 : ((mmeals >>> (i0 &&& 31)) &&& 1).toInt ≠ (1 : Int) := (tne c3)
      refine lv_iconst (v := 0) hx hb dX8_isMeal_28 (by decide) ?_
      have hP9 := mx_subP (wc := [(n, .inr (8, [.int mleft, .int mmetres, .int mshut, .int mshield, .int mtoday, .int mbagged, .int mwarmed, .ref nW, .ref nC, .int mmeals, .ref nQ, .ref nM, .ref nD, .ref nA, .ref nK, .int msights, .ref nP, .int mpadMany, .ref nE, .ref nF, .ref nG, .int macts, .int mgusty, .int mleakAct, .int mleakMuch, .int mendOfCan, .int mbadAct, .int mbadWhy, .int mburnt, .int mboiled, .ref nH, .ref nI, .ref nJ, .ref nL, .int mhadLeft, .int mhadToday, .int mhadBagged, .int mhadWarmed, .int mleaves, .int mdayThen, .int mcoldThen, .ref nO, .int mportionMany, .ref nT, .ref nU, .int mleakMany, .int mleakActs, .ref nV, .ref nX, .ref nY, .ref nZ, .int mkeptAt, .int misWriting]))]) hP [0] rfl
      have hD9 := hD.sub (ws' := [(n, .inr (8, [.int mleft, .int mmetres, .int mshut, .int mshield, .int mtoday, .int mbagged, .int mwarmed, .ref nW, .ref nC, .int mmeals, .ref nQ, .ref nM, .ref nD, .ref nA, .ref nK, .int msights, .ref nP, .int mpadMany, .ref nE, .ref nF, .ref nG, .int macts, .int mgusty, .int mleakAct, .int mleakMuch, .int mendOfCan, .int mbadAct, .int mbadWhy, .int mburnt, .int mboiled, .ref nH, .ref nI, .ref nJ, .ref nL, .int mhadLeft, .int mhadToday, .int mhadBagged, .int mhadWarmed, .int mleaves, .int mdayThen, .int mcoldThen, .ref nO, .int mportionMany, .ref nT, .ref nU, .int mleakMany, .int mleakActs, .ref nV, .ref nX, .ref nY, .ref nZ, .int mkeptAt, .int misWriting]))]) [0] (by decide) rfl
      exact W.zret (v := 0) hx hb hr rfl (fun t ht hW => ⟨⟨0, (), rfl, ⟨(show (0 : Int32).toInt ≠ 1 ∨ bt mmeals i0.toNatClampNeg = true from (Or.inl (by decide))), (show (0 : Int32) = hsF mmeals i0 from (by first | exact hs_a (by omega) | exact hs_b (by assumption))), (by first | exact Or.inl (⟨rfl, by omega⟩) | exact Or.inr (⟨rfl, trivial⟩))⟩, by rw [ht]; exact hP9, hD9⟩, hS.F ht⟩) hS.2.2 dX8_isMeal_29
    · have t3 : ((mmeals >>> (i0 &&& 31)) &&& 1).toInt = (1 : Int) := (teq c3)
      refine lv_iconst (v := 1) hx hb dX8_isMeal_24 (by decide) ?_
      refine lv_goto (tgt := 29) hx hb dX8_isMeal_25 (by decide) ?_
      have hP9 := mx_subP (wc := [(n, .inr (8, [.int mleft, .int mmetres, .int mshut, .int mshield, .int mtoday, .int mbagged, .int mwarmed, .ref nW, .ref nC, .int mmeals, .ref nQ, .ref nM, .ref nD, .ref nA, .ref nK, .int msights, .ref nP, .int mpadMany, .ref nE, .ref nF, .ref nG, .int macts, .int mgusty, .int mleakAct, .int mleakMuch, .int mendOfCan, .int mbadAct, .int mbadWhy, .int mburnt, .int mboiled, .ref nH, .ref nI, .ref nJ, .ref nL, .int mhadLeft, .int mhadToday, .int mhadBagged, .int mhadWarmed, .int mleaves, .int mdayThen, .int mcoldThen, .ref nO, .int mportionMany, .ref nT, .ref nU, .int mleakMany, .int mleakActs, .ref nV, .ref nX, .ref nY, .ref nZ, .int mkeptAt, .int misWriting]))]) hP [0] rfl
      have hD9 := hD.sub (ws' := [(n, .inr (8, [.int mleft, .int mmetres, .int mshut, .int mshield, .int mtoday, .int mbagged, .int mwarmed, .ref nW, .ref nC, .int mmeals, .ref nQ, .ref nM, .ref nD, .ref nA, .ref nK, .int msights, .ref nP, .int mpadMany, .ref nE, .ref nF, .ref nG, .int macts, .int mgusty, .int mleakAct, .int mleakMuch, .int mendOfCan, .int mbadAct, .int mbadWhy, .int mburnt, .int mboiled, .ref nH, .ref nI, .ref nJ, .ref nL, .int mhadLeft, .int mhadToday, .int mhadBagged, .int mhadWarmed, .int mleaves, .int mdayThen, .int mcoldThen, .ref nO, .int mportionMany, .ref nT, .ref nU, .int mleakMany, .int mleakActs, .ref nV, .ref nX, .ref nY, .ref nZ, .int mkeptAt, .int misWriting]))]) [0] (by decide) rfl
      exact W.zret (v := 1) hx hb hr rfl (fun t ht hW => ⟨⟨1, (), rfl, ⟨(show (1 : Int32).toInt ≠ 1 ∨ bt mmeals i0.toNatClampNeg = true from (Or.inr (bt_of (by omega) (by omega) (by assumption)))), (show (1 : Int32) = hsF mmeals i0 from (hs_1 (by omega) (by assumption))), (by first | exact Or.inl (⟨rfl, by omega⟩) | exact Or.inr (⟨rfl, trivial⟩))⟩, by rw [ht]; exact hP9, hD9⟩, hS.F ht⟩) hS.2.2 dX8_isMeal_29
  · have hf1 : i0.toInt < (0 : Int) ∨ (5 : Int) < i0.toInt := (by have h9 := hf1; simp only [Int32.toInt_toInt64] at h9; exact h9)
    refine lv_if_eq (tgt := 28) hx hb dX8_isMeal_9 (by decide) (fun c4 => ?_) (fun c4 => absurd c4 (by decide))
    refine lv_iconst (v := 0) hx hb dX8_isMeal_28 (by decide) ?_
    have hP9 := mx_subP (wc := [(n, .inr (8, [.int mleft, .int mmetres, .int mshut, .int mshield, .int mtoday, .int mbagged, .int mwarmed, .ref nW, .ref nC, .int mmeals, .ref nQ, .ref nM, .ref nD, .ref nA, .ref nK, .int msights, .ref nP, .int mpadMany, .ref nE, .ref nF, .ref nG, .int macts, .int mgusty, .int mleakAct, .int mleakMuch, .int mendOfCan, .int mbadAct, .int mbadWhy, .int mburnt, .int mboiled, .ref nH, .ref nI, .ref nJ, .ref nL, .int mhadLeft, .int mhadToday, .int mhadBagged, .int mhadWarmed, .int mleaves, .int mdayThen, .int mcoldThen, .ref nO, .int mportionMany, .ref nT, .ref nU, .int mleakMany, .int mleakActs, .ref nV, .ref nX, .ref nY, .ref nZ, .int mkeptAt, .int misWriting]))]) hP [0] rfl
    have hD9 := hD.sub (ws' := [(n, .inr (8, [.int mleft, .int mmetres, .int mshut, .int mshield, .int mtoday, .int mbagged, .int mwarmed, .ref nW, .ref nC, .int mmeals, .ref nQ, .ref nM, .ref nD, .ref nA, .ref nK, .int msights, .ref nP, .int mpadMany, .ref nE, .ref nF, .ref nG, .int macts, .int mgusty, .int mleakAct, .int mleakMuch, .int mendOfCan, .int mbadAct, .int mbadWhy, .int mburnt, .int mboiled, .ref nH, .ref nI, .ref nJ, .ref nL, .int mhadLeft, .int mhadToday, .int mhadBagged, .int mhadWarmed, .int mleaves, .int mdayThen, .int mcoldThen, .ref nO, .int mportionMany, .ref nT, .ref nU, .int mleakMany, .int mleakActs, .ref nV, .ref nX, .ref nY, .ref nZ, .int mkeptAt, .int misWriting]))]) [0] (by decide) rfl
    exact W.zret (v := 0) hx hb hr rfl (fun t ht hW => ⟨⟨0, (), rfl, ⟨(show (0 : Int32).toInt ≠ 1 ∨ bt mmeals i0.toNatClampNeg = true from (Or.inl (by decide))), (show (0 : Int32) = hsF mmeals i0 from (by first | exact hs_a (by omega) | exact hs_b (by assumption))), (by first | exact Or.inl (⟨rfl, by omega⟩) | exact Or.inr (⟨rfl, trivial⟩))⟩, by rw [ht]; exact hP9, hD9⟩, hS.F ht⟩) hS.2.2 dX8_isMeal_29
set_option maxHeartbeats 4000000 in
set_option maxRecDepth 100000 in
theorem c_X8_ones (l : Launch) (dC : Nat → ClassId) (dI : Nat → Nat → Nat) (cI cZ cK : ClassId) (tS : Nat) (aK aV : Nat → Nat) (i0 : Int32) (sz : Nat) : Ci l yX8_ones (wq yX8_ones cX8_ones 3 (some .int)) ({ frames := 0, cells := 0, slots := 0, locals := 0 }) dC dI cI cZ cK tS aK aV [.int i0] sz [] (fun (r : Int32) (u : Unit) => True) (fun _ => []) := by
  refine Met.ofW (cc := cX8_ones) (maxL := 3) (ret := (some .int)) (by decide) rfl ?_
  intro p e s m args below meth c s₁ B hml hv
  obtain ⟨rfl, hsz, hP, hKx, hD0⟩ := hv
  have hx := B.exec
  have hb := B.bytes
  have hr := B.returns
  have hts := atoms_spec (ws := wq yX8_ones cX8_ones 3 (some .int)) B.pre
  have hown : s.vm.findClass RX8 = some m.cls := findClass_of_methodNamed B.named
  have hlocks := B.notSynchronized
  subst hsz
  have hD := hD0.self (sz := s.heap.size)
  generalize hAe : va_A [] s.heap.size = A at hD hKx ⊢
  have hA : ∀ q : Nat, s.heap.size ≤ q → A q := fun q h => by rw [← hAe]; exact Or.inr h
  have hS : va_S A s.heap s.heap [] := va_S.rf
  have hP : va_P (dC, dI) vwCl [] s.heap := hP
  have hl := lv_entry ([.int i0]) (n := 3) (Nat.le_of_ble_eq_true rfl)
  rw [lg_entry_eq]
  generalize (lg_sl ([.int i0]) ++ List.replicate (3 - (lg_sl ([.int i0])).length) Slot.unset).toArray = ls at hl ⊢
  have hl : lv_has ls 3 [(0, .int i0)] := hl
  have hK := hKx.1
  refine lv_iconst (v := 0) hx hb dX8_ones_0 (by decide) ?_
  refine lv_istore_n (lv' := [(1, .int 0), (0, .int i0)]) hx hb dX8_ones_1 rfl hl (by decide) rfl (fun ls hl => ?_)
  refine lv_iload_n hx hb dX8_ones_2 rfl (lv_at hl 1 rfl) ?_
  refine lv_istore_n (lv' := [(2, .int i0), (1, .int 0), (0, .int i0)]) hx hb dX8_ones_3 rfl hl (by decide) rfl (fun ls hl => ?_)
  have z2 : (0 : Int32).toInt = 0 := rfl
  have hl0 := hl
  clear hl
  obtain ⟨y1, y2, ex, hl⟩ : ∃ (y1 y2 : Int32), (y1.toInt ≤ y1.toInt) ∧ lv_has ls 3 [(2, .int y2), (1, .int y1), (0, .int i0)] := ⟨0, i0, by omega, hl0⟩
  clear hl0
  obtain ⟨n1, hn⟩ : ∃ n : Nat, on y2 ≤ (n : Int) := ⟨(on y2).toNat, by omega⟩
  induction n1 generalizing y1 y2 ls with
  | zero =>
    skip
    refine lv_iload_n hx hb dX8_ones_4 rfl (lv_at hl 0 rfl) ?_
    have hz9 := on_z (x := y2) (by omega)
    refine lv_if_eq (tgt := 20) hx hb dX8_ones_5 (by decide) (fun c3 => ?_) (fun c3 => by exfalso; have t3 : y2.toInt ≠ (0 : Int) := (tne c3); omega)
    refine lv_iload_n hx hb dX8_ones_20 rfl (lv_at hl 1 rfl) ?_
    have hP9 := mx_subP (wc := []) hP [] rfl
    have hD9 := hD.sub (ws' := []) [] (by decide) rfl
    exact W.iret (v := y1) hx hb hr (fun t ht hW => ⟨⟨y1, (), rfl, trivial, by rw [ht]; exact hP9, hD9⟩, hS.F ht⟩) hS.2.2 dX8_ones_21
  | succ n1 ih =>
    skip
    refine lv_iload_n hx hb dX8_ones_4 rfl (lv_at hl 0 rfl) ?_
    refine lv_if_eq (tgt := 20) hx hb dX8_ones_5 (by decide) (fun c4 => ?_) (fun c4 => ?_)
    · have t4 : y2.toInt = (0 : Int) := (teq c4)
      refine lv_iload_n hx hb dX8_ones_20 rfl (lv_at hl 1 rfl) ?_
      have hP9 := mx_subP (wc := []) hP [] rfl
      have hD9 := hD.sub (ws' := []) [] (by decide) rfl
      exact W.iret (v := y1) hx hb hr (fun t ht hW => ⟨⟨y1, (), rfl, trivial, by rw [ht]; exact hP9, hD9⟩, hS.F ht⟩) hS.2.2 dX8_ones_21
    · have t4 : y2.toInt ≠ (0 : Int) := (tne c4)
      obtain ⟨x5, e5⟩ : ∃ y : Int32, y = y1 + Int32.ofInt 1 := ⟨_, rfl⟩
      refine lv_iinc (v := x5) (lv' := [(1, .int x5), (2, .int y2), (0, .int i0)]) hx hb dX8_ones_8 hl (k := 1) rfl e5.symm (by decide) rfl (fun ls hl => ?_)
      refine lv_iload_n hx hb dX8_ones_11 rfl (lv_at hl 1 rfl) ?_
      refine lv_iload_n hx hb dX8_ones_12 rfl (lv_at hl 1 rfl) ?_
      refine lv_iconst (v := 1) hx hb dX8_ones_13 (by decide) ?_
      refine lv_isub hx hb dX8_ones_14 ?_
      refine lv_topi (fun x6 e6 => ?_)
      refine lv_iand hx hb dX8_ones_15 ?_
      refine lv_topi (fun x7 e7 => ?_)
      refine lv_istore_n (lv' := [(2, .int x7), (1, .int x5), (0, .int i0)]) hx hb dX8_ones_16 rfl hl (by decide) rfl (fun ls hl => ?_)
      refine lv_goto (tgt := 4) hx hb dX8_ones_17 (by decide) ?_
      exact ih (ls := ls) (y1 := x5) (y2 := x7) (by omega) (show lv_has ls 3 [(2, .int x7), (1, .int x5), (0, .int i0)] from lv_sub hl [0, 1, 2] rfl) (by have h9 := on_lt (x := y2) (by omega) e6 e7; omega)
set_option maxHeartbeats 4000000 in
set_option maxRecDepth 100000 in
theorem c_X8_onesB (l : Launch) (dC : Nat → ClassId) (dI : Nat → Nat → Nat) (cI cZ cK : ClassId) (tS : Nat) (aK aV : Nat → Nat) (i0 : Int32) (sz : Nat) (h_i0 : 0 ≤ i0.toInt ∧ i0.toInt ≤ 63) : Ci l yX8_ones (wq yX8_ones cX8_ones 3 (some .int)) ({ frames := 0, cells := 0, slots := 0, locals := 0 }) dC dI cI cZ cK tS aK aV [.int i0] sz [] (fun (r : Int32) (u : Unit) => (r = bcF i0)) (fun _ => []) := by
  refine Met.ofW (cc := cX8_ones) (maxL := 3) (ret := (some .int)) (by decide) rfl ?_
  intro p e s m args below meth c s₁ B hml hv
  obtain ⟨rfl, hsz, hP, hKx, hD0⟩ := hv
  have hx := B.exec
  have hb := B.bytes
  have hr := B.returns
  have hts := atoms_spec (ws := wq yX8_ones cX8_ones 3 (some .int)) B.pre
  have hown : s.vm.findClass RX8 = some m.cls := findClass_of_methodNamed B.named
  have hlocks := B.notSynchronized
  subst hsz
  have hD := hD0.self (sz := s.heap.size)
  generalize hAe : va_A [] s.heap.size = A at hD hKx ⊢
  have hA : ∀ q : Nat, s.heap.size ≤ q → A q := fun q h => by rw [← hAe]; exact Or.inr h
  have hS : va_S A s.heap s.heap [] := va_S.rf
  have hP : va_P (dC, dI) vwCl [] s.heap := hP
  have hl := lv_entry ([.int i0]) (n := 3) (Nat.le_of_ble_eq_true rfl)
  rw [lg_entry_eq]
  generalize (lg_sl ([.int i0]) ++ List.replicate (3 - (lg_sl ([.int i0])).length) Slot.unset).toArray = ls at hl ⊢
  have hl : lv_has ls 3 [(0, .int i0)] := hl
  have hK := hKx.1
  have hb9 := bc_rng (x := i0) (by omega) (by omega)
  refine lv_iconst (v := 0) hx hb dX8_ones_0 (by decide) ?_
  refine lv_istore_n (lv' := [(1, .int 0), (0, .int i0)]) hx hb dX8_ones_1 rfl hl (by decide) rfl (fun ls hl => ?_)
  refine lv_iload_n hx hb dX8_ones_2 rfl (lv_at hl 1 rfl) ?_
  refine lv_istore_n (lv' := [(2, .int i0), (1, .int 0), (0, .int i0)]) hx hb dX8_ones_3 rfl hl (by decide) rfl (fun ls hl => ?_)
  have z2 : (0 : Int32).toInt = 0 := rfl
  have hl0 := hl
  clear hl
  obtain ⟨y1, y2, ex, hl⟩ : ∃ (y1 y2 : Int32), (0 ≤ y1.toInt ∧ y1.toInt ≤ 6 ∧ 0 ≤ y2.toInt ∧ y2.toInt ≤ 63 ∧ y1.toInt + (bcF y2).toInt = (bcF i0).toInt) ∧ lv_has ls 3 [(2, .int y2), (1, .int y1), (0, .int i0)] := ⟨0, i0, by omega, hl0⟩
  clear hl0
  obtain ⟨n1, hn⟩ : ∃ n : Nat, y2.toInt ≤ (n : Int) := ⟨(y2.toInt).toNat, by omega⟩
  induction n1 generalizing y1 y2 ls with
  | zero =>
    skip
    refine lv_iload_n hx hb dX8_ones_4 rfl (lv_at hl 0 rfl) ?_
    refine lv_if_eq (tgt := 20) hx hb dX8_ones_5 (by decide) (fun c3 => ?_) (fun c3 => by exfalso; have t3 : y2.toInt ≠ (0 : Int) := (tne c3); omega)
    have hb8 := bc_z (x := y2) (by omega)
    refine lv_iload_n hx hb dX8_ones_20 rfl (lv_at hl 1 rfl) ?_
    have hP9 := mx_subP (wc := []) hP [] rfl
    have hD9 := hD.sub (ws' := []) [] (by decide) rfl
    exact W.iret (v := y1) hx hb hr (fun t ht hW => ⟨⟨y1, (), rfl, (show y1 = bcF i0 from (ceq (by omega))), by rw [ht]; exact hP9, hD9⟩, hS.F ht⟩) hS.2.2 dX8_ones_21
  | succ n1 ih =>
    skip
    refine lv_iload_n hx hb dX8_ones_4 rfl (lv_at hl 0 rfl) ?_
    refine lv_if_eq (tgt := 20) hx hb dX8_ones_5 (by decide) (fun c4 => ?_) (fun c4 => ?_)
    · have t4 : y2.toInt = (0 : Int) := (teq c4)
      have hb8 := bc_z (x := y2) (by omega)
      refine lv_iload_n hx hb dX8_ones_20 rfl (lv_at hl 1 rfl) ?_
      have hP9 := mx_subP (wc := []) hP [] rfl
      have hD9 := hD.sub (ws' := []) [] (by decide) rfl
      exact W.iret (v := y1) hx hb hr (fun t ht hW => ⟨⟨y1, (), rfl, (show y1 = bcF i0 from (ceq (by omega))), by rw [ht]; exact hP9, hD9⟩, hS.F ht⟩) hS.2.2 dX8_ones_21
    · have t4 : y2.toInt ≠ (0 : Int) := (tne c4)
      obtain ⟨x5, e5⟩ : ∃ y : Int32, y = y1 + Int32.ofInt 1 := ⟨_, rfl⟩
      refine lv_iinc (v := x5) (lv' := [(1, .int x5), (2, .int y2), (0, .int i0)]) hx hb dX8_ones_8 hl (k := 1) rfl e5.symm (by decide) rfl (fun ls hl => ?_)
      have f5 : x5.toInt = y1.toInt + 1 := by rw [e5]; exact tinc (by decide) (by have t8 := tb y1; omega) (by have t8 := tb y1; omega)
      refine lv_iload_n hx hb dX8_ones_11 rfl (lv_at hl 1 rfl) ?_
      refine lv_iload_n hx hb dX8_ones_12 rfl (lv_at hl 1 rfl) ?_
      refine lv_iconst (v := 1) hx hb dX8_ones_13 (by decide) ?_
      refine lv_isub hx hb dX8_ones_14 ?_
      refine lv_topi (fun x6 e6 => ?_)
      have f6 : x6.toInt = y2.toInt - (1 : Int) := by rw [e6]; exact tsub (by have t8 := tb y2; have z8 : (1 : Int32).toInt = 1 := rfl; omega) (by have t8 := tb y2; have z8 : (1 : Int32).toInt = 1 := rfl; omega)
      refine lv_iand hx hb dX8_ones_15 ?_
      refine lv_topi (fun x7 e7 => ?_)
      refine lv_istore_n (lv' := [(2, .int x7), (1, .int x5), (0, .int i0)]) hx hb dX8_ones_16 rfl hl (by decide) rfl (fun ls hl => ?_)
      have h9 := on64 (x := y2) (by omega) (by omega) e6 e7
      refine lv_goto (tgt := 4) hx hb dX8_ones_17 (by decide) ?_
      exact ih (ls := ls) (y1 := x5) (y2 := x7) (by omega) (show lv_has ls 3 [(2, .int x7), (1, .int x5), (0, .int i0)] from lv_sub hl [0, 1, 2] rfl) (by omega)
set_option maxHeartbeats 4000000 in
set_option maxRecDepth 100000 in
theorem c_X8_greatest_0 (l : Launch) (dC : Nat → ClassId) (dI : Nat → Nat → Nat) (cI cZ cK : ClassId) (tS : Nat) (aK aV : Nat → Nat) (sz : Nat) : Ci l yX8_greatest (wq yX8_greatest cX8_greatest 1 (some .int)) ({ frames := 0, cells := 0, slots := 0, locals := 0 }) dC dI cI cZ cK tS aK aV [.int 0] sz [] (fun (r : Int32) (u : Unit) => r = 4000) (fun _ => []) := by
  refine Met.ofW (cc := cX8_greatest) (maxL := 1) (ret := (some .int)) (by decide) rfl ?_
  intro p e s m args below meth c s₁ B hml hv
  obtain ⟨rfl, hsz, hP, hKx, hD0⟩ := hv
  have hx := B.exec
  have hb := B.bytes
  have hr := B.returns
  have hts := atoms_spec (ws := wq yX8_greatest cX8_greatest 1 (some .int)) B.pre
  have hown : s.vm.findClass RX8 = some m.cls := findClass_of_methodNamed B.named
  have hlocks := B.notSynchronized
  subst hsz
  have hD := hD0.self (sz := s.heap.size)
  generalize hAe : va_A [] s.heap.size = A at hD hKx ⊢
  have hA : ∀ q : Nat, s.heap.size ≤ q → A q := fun q h => by rw [← hAe]; exact Or.inr h
  have hS : va_S A s.heap s.heap [] := va_S.rf
  have hP : va_P (dC, dI) vwCl [] s.heap := hP
  have hl := lv_entry ([.int 0]) (n := 1) (Nat.le_of_ble_eq_true rfl)
  rw [lg_entry_eq]
  generalize (lg_sl ([.int 0]) ++ List.replicate (1 - (lg_sl ([.int 0])).length) Slot.unset).toArray = ls at hl ⊢
  have hl : lv_has ls 1 [(0, .int 0)] := hl
  have hK := hKx.1
  refine lv_iload_n hx hb dX8_greatest_0 rfl (lv_at hl 0 rfl) ?_
  refine lv_tableIn (tgt := 32) (off := 31) hx hb dX8_greatest_1 (by decide) (by decide) (by decide) (by decide) ?_
  refine lv_sipush (v := 4000) hx hb dX8_greatest_32 (by decide) ?_
  have hP9 := mx_subP (wc := []) hP [] rfl
  have hD9 := hD.sub (ws' := []) [] (by decide) rfl
  exact W.iret (v := 4000) hx hb hr (fun t ht hW => ⟨⟨4000, (), rfl, rfl, by rw [ht]; exact hP9, hD9⟩, hS.F ht⟩) hS.2.2 dX8_greatest_35
set_option maxHeartbeats 4000000 in
set_option maxRecDepth 100000 in
theorem c_X8_setting_0 (l : Launch) (dC : Nat → ClassId) (dI : Nat → Nat → Nat) (cI cZ cK : ClassId) (tS : Nat) (aK aV : Nat → Nat) (n : Nat) (mleft : Int32) (mmetres : Int32) (mshut : Int32) (mshield : Int32) (mtoday : Int32) (mbagged : Int32) (mwarmed : Int32) (nW : Nat) (nC : Nat) (mmeals : Int32) (nQ : Nat) (nM : Nat) (nD : Nat) (nA : Nat) (nK : Nat) (msights : Int32) (nP : Nat) (mpadMany : Int32) (nE : Nat) (nF : Nat) (nG : Nat) (macts : Int32) (mgusty : Int32) (mleakAct : Int32) (mleakMuch : Int32) (mendOfCan : Int32) (mbadAct : Int32) (mbadWhy : Int32) (mburnt : Int32) (mboiled : Int32) (nH : Nat) (nI : Nat) (nJ : Nat) (nL : Nat) (mhadLeft : Int32) (mhadToday : Int32) (mhadBagged : Int32) (mhadWarmed : Int32) (mleaves : Int32) (mdayThen : Int32) (mcoldThen : Int32) (nO : Nat) (mportionMany : Int32) (nT : Nat) (nU : Nat) (mleakMany : Int32) (mleakActs : Int32) (nV : Nat) (nX : Nat) (nY : Nat) (nZ : Nat) (mkeptAt : Int32) (misWriting : Int32) (sz : Nat) : Ci l yX8_setting (wq yX8_setting cX8_setting 2 (some .int)) ({ frames := 0, cells := 0, slots := 0, locals := 0 }) dC dI cI cZ cK tS aK aV [.ref n, .int 0] sz [(n, .inr (8, [.int mleft, .int mmetres, .int mshut, .int mshield, .int mtoday, .int mbagged, .int mwarmed, .ref nW, .ref nC, .int mmeals, .ref nQ, .ref nM, .ref nD, .ref nA, .ref nK, .int msights, .ref nP, .int mpadMany, .ref nE, .ref nF, .ref nG, .int macts, .int mgusty, .int mleakAct, .int mleakMuch, .int mendOfCan, .int mbadAct, .int mbadWhy, .int mburnt, .int mboiled, .ref nH, .ref nI, .ref nJ, .ref nL, .int mhadLeft, .int mhadToday, .int mhadBagged, .int mhadWarmed, .int mleaves, .int mdayThen, .int mcoldThen, .ref nO, .int mportionMany, .ref nT, .ref nU, .int mleakMany, .int mleakActs, .ref nV, .ref nX, .ref nY, .ref nZ, .int mkeptAt, .int misWriting]))] (fun (r : Int32) (u : Unit) => (r = mleft)) (fun _ => [(n, .inr (8, [.int mleft, .int mmetres, .int mshut, .int mshield, .int mtoday, .int mbagged, .int mwarmed, .ref nW, .ref nC, .int mmeals, .ref nQ, .ref nM, .ref nD, .ref nA, .ref nK, .int msights, .ref nP, .int mpadMany, .ref nE, .ref nF, .ref nG, .int macts, .int mgusty, .int mleakAct, .int mleakMuch, .int mendOfCan, .int mbadAct, .int mbadWhy, .int mburnt, .int mboiled, .ref nH, .ref nI, .ref nJ, .ref nL, .int mhadLeft, .int mhadToday, .int mhadBagged, .int mhadWarmed, .int mleaves, .int mdayThen, .int mcoldThen, .ref nO, .int mportionMany, .ref nT, .ref nU, .int mleakMany, .int mleakActs, .ref nV, .ref nX, .ref nY, .ref nZ, .int mkeptAt, .int misWriting]))]) := by
  refine Met.ofW (cc := cX8_setting) (maxL := 2) (ret := (some .int)) (by decide) rfl ?_
  intro p e s m args below meth c s₁ B hml hv
  obtain ⟨rfl, hsz, hP, hKx, hD0⟩ := hv
  have hx := B.exec
  have hb := B.bytes
  have hr := B.returns
  have hts := atoms_spec (ws := wq yX8_setting cX8_setting 2 (some .int)) B.pre
  have hown : s.vm.findClass RX8 = some m.cls := findClass_of_methodNamed B.named
  have hlocks := B.notSynchronized
  subst hsz
  have hD := hD0.self (sz := s.heap.size)
  generalize hAe : va_A [(n, .inr (8, [.int mleft, .int mmetres, .int mshut, .int mshield, .int mtoday, .int mbagged, .int mwarmed, .ref nW, .ref nC, .int mmeals, .ref nQ, .ref nM, .ref nD, .ref nA, .ref nK, .int msights, .ref nP, .int mpadMany, .ref nE, .ref nF, .ref nG, .int macts, .int mgusty, .int mleakAct, .int mleakMuch, .int mendOfCan, .int mbadAct, .int mbadWhy, .int mburnt, .int mboiled, .ref nH, .ref nI, .ref nJ, .ref nL, .int mhadLeft, .int mhadToday, .int mhadBagged, .int mhadWarmed, .int mleaves, .int mdayThen, .int mcoldThen, .ref nO, .int mportionMany, .ref nT, .ref nU, .int mleakMany, .int mleakActs, .ref nV, .ref nX, .ref nY, .ref nZ, .int mkeptAt, .int misWriting]))] s.heap.size = A at hD hKx ⊢
  have hA : ∀ q : Nat, s.heap.size ≤ q → A q := fun q h => by rw [← hAe]; exact Or.inr h
  have hS : va_S A s.heap s.heap [] := va_S.rf
  have hP : va_P (dC, dI) vwCl [(n, .inr (8, [.int mleft, .int mmetres, .int mshut, .int mshield, .int mtoday, .int mbagged, .int mwarmed, .ref nW, .ref nC, .int mmeals, .ref nQ, .ref nM, .ref nD, .ref nA, .ref nK, .int msights, .ref nP, .int mpadMany, .ref nE, .ref nF, .ref nG, .int macts, .int mgusty, .int mleakAct, .int mleakMuch, .int mendOfCan, .int mbadAct, .int mbadWhy, .int mburnt, .int mboiled, .ref nH, .ref nI, .ref nJ, .ref nL, .int mhadLeft, .int mhadToday, .int mhadBagged, .int mhadWarmed, .int mleaves, .int mdayThen, .int mcoldThen, .ref nO, .int mportionMany, .ref nT, .ref nU, .int mleakMany, .int mleakActs, .ref nV, .ref nX, .ref nY, .ref nZ, .int mkeptAt, .int misWriting]))] s.heap := hP
  have hl := lv_entry ([.ref n, .int 0]) (n := 2) (Nat.le_of_ble_eq_true rfl)
  rw [lg_entry_eq]
  generalize (lg_sl ([.ref n, .int 0]) ++ List.replicate (2 - (lg_sl ([.ref n, .int 0])).length) Slot.unset).toArray = ls at hl ⊢
  have hl : lv_has ls 2 [(0, .ref n), (1, .int 0)] := hl
  have hK := hKx.1
  have hin8 := fun w9 h9 => List.mem_cons_of_mem (Cond.code yX8_setting cX8_setting 2 (some .int)) (inlX8 w9 h9)
  have hw0 := hts (.fieldLink RX8 77 "OneCanModel" "left" "I") (List.mem_cons_of_mem _ wm_134)
  refine lv_iload_n hx hb dX8_setting_0 rfl (lv_at hl 1 rfl) ?_
  refine lv_if_ne (tgt := 11) hx hb dX8_setting_1 (by decide) (fun c1 => absurd c1 (by decide)) (fun c1 => ?_)
  refine lv_aload_n hx hb dX8_setting_4 rfl (lv_at hl 0 rfl) ?_
  refine va_get (D := (dC, dI)) (ci := 8) (v := .int mleft) (C := RX8) (T := TX8) (N := 53) hx hb hts hin8 hown hK hP 0 rfl rfl 0 (by decide) hw0 (fun _ h9 => h9) rfl dX8_setting_5 ?_
  refine lv_goto (tgt := 51) hx hb dX8_setting_8 (by decide) ?_
  have hP9 := mx_subP (wc := [(n, .inr (8, [.int mleft, .int mmetres, .int mshut, .int mshield, .int mtoday, .int mbagged, .int mwarmed, .ref nW, .ref nC, .int mmeals, .ref nQ, .ref nM, .ref nD, .ref nA, .ref nK, .int msights, .ref nP, .int mpadMany, .ref nE, .ref nF, .ref nG, .int macts, .int mgusty, .int mleakAct, .int mleakMuch, .int mendOfCan, .int mbadAct, .int mbadWhy, .int mburnt, .int mboiled, .ref nH, .ref nI, .ref nJ, .ref nL, .int mhadLeft, .int mhadToday, .int mhadBagged, .int mhadWarmed, .int mleaves, .int mdayThen, .int mcoldThen, .ref nO, .int mportionMany, .ref nT, .ref nU, .int mleakMany, .int mleakActs, .ref nV, .ref nX, .ref nY, .ref nZ, .int mkeptAt, .int misWriting]))]) hP [0] rfl
  have hD9 := hD.sub (ws' := [(n, .inr (8, [.int mleft, .int mmetres, .int mshut, .int mshield, .int mtoday, .int mbagged, .int mwarmed, .ref nW, .ref nC, .int mmeals, .ref nQ, .ref nM, .ref nD, .ref nA, .ref nK, .int msights, .ref nP, .int mpadMany, .ref nE, .ref nF, .ref nG, .int macts, .int mgusty, .int mleakAct, .int mleakMuch, .int mendOfCan, .int mbadAct, .int mbadWhy, .int mburnt, .int mboiled, .ref nH, .ref nI, .ref nJ, .ref nL, .int mhadLeft, .int mhadToday, .int mhadBagged, .int mhadWarmed, .int mleaves, .int mdayThen, .int mcoldThen, .ref nO, .int mportionMany, .ref nT, .ref nU, .int mleakMany, .int mleakActs, .ref nV, .ref nX, .ref nY, .ref nZ, .int mkeptAt, .int misWriting]))]) [0] (by decide) rfl
  exact W.iret (v := mleft) hx hb hr (fun t ht hW => ⟨⟨mleft, (), rfl, rfl, by rw [ht]; exact hP9, hD9⟩, hS.F ht⟩) hS.2.2 dX8_setting_51
set_option maxHeartbeats 4000000 in
set_option maxRecDepth 100000 in
theorem c_X8_greatest_1 (l : Launch) (dC : Nat → ClassId) (dI : Nat → Nat → Nat) (cI cZ cK : ClassId) (tS : Nat) (aK aV : Nat → Nat) (sz : Nat) : Ci l yX8_greatest (wq yX8_greatest cX8_greatest 1 (some .int)) ({ frames := 0, cells := 0, slots := 0, locals := 0 }) dC dI cI cZ cK tS aK aV [.int 1] sz [] (fun (r : Int32) (u : Unit) => r = 60) (fun _ => []) := by
  refine Met.ofW (cc := cX8_greatest) (maxL := 1) (ret := (some .int)) (by decide) rfl ?_
  intro p e s m args below meth c s₁ B hml hv
  obtain ⟨rfl, hsz, hP, hKx, hD0⟩ := hv
  have hx := B.exec
  have hb := B.bytes
  have hr := B.returns
  have hts := atoms_spec (ws := wq yX8_greatest cX8_greatest 1 (some .int)) B.pre
  have hown : s.vm.findClass RX8 = some m.cls := findClass_of_methodNamed B.named
  have hlocks := B.notSynchronized
  subst hsz
  have hD := hD0.self (sz := s.heap.size)
  generalize hAe : va_A [] s.heap.size = A at hD hKx ⊢
  have hA : ∀ q : Nat, s.heap.size ≤ q → A q := fun q h => by rw [← hAe]; exact Or.inr h
  have hS : va_S A s.heap s.heap [] := va_S.rf
  have hP : va_P (dC, dI) vwCl [] s.heap := hP
  have hl := lv_entry ([.int 1]) (n := 1) (Nat.le_of_ble_eq_true rfl)
  rw [lg_entry_eq]
  generalize (lg_sl ([.int 1]) ++ List.replicate (1 - (lg_sl ([.int 1])).length) Slot.unset).toArray = ls at hl ⊢
  have hl : lv_has ls 1 [(0, .int 1)] := hl
  have hK := hKx.1
  refine lv_iload_n hx hb dX8_greatest_0 rfl (lv_at hl 0 rfl) ?_
  refine lv_tableIn (tgt := 36) (off := 35) hx hb dX8_greatest_1 (by decide) (by decide) (by decide) (by decide) ?_
  refine lv_bipush (v := 60) hx hb dX8_greatest_36 (by decide) ?_
  have hP9 := mx_subP (wc := []) hP [] rfl
  have hD9 := hD.sub (ws' := []) [] (by decide) rfl
  exact W.iret (v := 60) hx hb hr (fun t ht hW => ⟨⟨60, (), rfl, rfl, by rw [ht]; exact hP9, hD9⟩, hS.F ht⟩) hS.2.2 dX8_greatest_38
set_option maxHeartbeats 4000000 in
set_option maxRecDepth 100000 in
theorem c_X8_setting_1 (l : Launch) (dC : Nat → ClassId) (dI : Nat → Nat → Nat) (cI cZ cK : ClassId) (tS : Nat) (aK aV : Nat → Nat) (n : Nat) (mleft : Int32) (mmetres : Int32) (mshut : Int32) (mshield : Int32) (mtoday : Int32) (mbagged : Int32) (mwarmed : Int32) (nW : Nat) (nC : Nat) (mmeals : Int32) (nQ : Nat) (nM : Nat) (nD : Nat) (nA : Nat) (nK : Nat) (msights : Int32) (nP : Nat) (mpadMany : Int32) (nE : Nat) (nF : Nat) (nG : Nat) (macts : Int32) (mgusty : Int32) (mleakAct : Int32) (mleakMuch : Int32) (mendOfCan : Int32) (mbadAct : Int32) (mbadWhy : Int32) (mburnt : Int32) (mboiled : Int32) (nH : Nat) (nI : Nat) (nJ : Nat) (nL : Nat) (mhadLeft : Int32) (mhadToday : Int32) (mhadBagged : Int32) (mhadWarmed : Int32) (mleaves : Int32) (mdayThen : Int32) (mcoldThen : Int32) (nO : Nat) (mportionMany : Int32) (nT : Nat) (nU : Nat) (mleakMany : Int32) (mleakActs : Int32) (nV : Nat) (nX : Nat) (nY : Nat) (nZ : Nat) (mkeptAt : Int32) (misWriting : Int32) (sz : Nat) : Ci l yX8_setting (wq yX8_setting cX8_setting 2 (some .int)) ({ frames := 0, cells := 0, slots := 0, locals := 0 }) dC dI cI cZ cK tS aK aV [.ref n, .int 1] sz [(n, .inr (8, [.int mleft, .int mmetres, .int mshut, .int mshield, .int mtoday, .int mbagged, .int mwarmed, .ref nW, .ref nC, .int mmeals, .ref nQ, .ref nM, .ref nD, .ref nA, .ref nK, .int msights, .ref nP, .int mpadMany, .ref nE, .ref nF, .ref nG, .int macts, .int mgusty, .int mleakAct, .int mleakMuch, .int mendOfCan, .int mbadAct, .int mbadWhy, .int mburnt, .int mboiled, .ref nH, .ref nI, .ref nJ, .ref nL, .int mhadLeft, .int mhadToday, .int mhadBagged, .int mhadWarmed, .int mleaves, .int mdayThen, .int mcoldThen, .ref nO, .int mportionMany, .ref nT, .ref nU, .int mleakMany, .int mleakActs, .ref nV, .ref nX, .ref nY, .ref nZ, .int mkeptAt, .int misWriting]))] (fun (r : Int32) (u : Unit) => (r = mmetres)) (fun _ => [(n, .inr (8, [.int mleft, .int mmetres, .int mshut, .int mshield, .int mtoday, .int mbagged, .int mwarmed, .ref nW, .ref nC, .int mmeals, .ref nQ, .ref nM, .ref nD, .ref nA, .ref nK, .int msights, .ref nP, .int mpadMany, .ref nE, .ref nF, .ref nG, .int macts, .int mgusty, .int mleakAct, .int mleakMuch, .int mendOfCan, .int mbadAct, .int mbadWhy, .int mburnt, .int mboiled, .ref nH, .ref nI, .ref nJ, .ref nL, .int mhadLeft, .int mhadToday, .int mhadBagged, .int mhadWarmed, .int mleaves, .int mdayThen, .int mcoldThen, .ref nO, .int mportionMany, .ref nT, .ref nU, .int mleakMany, .int mleakActs, .ref nV, .ref nX, .ref nY, .ref nZ, .int mkeptAt, .int misWriting]))]) := by
  refine Met.ofW (cc := cX8_setting) (maxL := 2) (ret := (some .int)) (by decide) rfl ?_
  intro p e s m args below meth c s₁ B hml hv
  obtain ⟨rfl, hsz, hP, hKx, hD0⟩ := hv
  have hx := B.exec
  have hb := B.bytes
  have hr := B.returns
  have hts := atoms_spec (ws := wq yX8_setting cX8_setting 2 (some .int)) B.pre
  have hown : s.vm.findClass RX8 = some m.cls := findClass_of_methodNamed B.named
  have hlocks := B.notSynchronized
  subst hsz
  have hD := hD0.self (sz := s.heap.size)
  generalize hAe : va_A [(n, .inr (8, [.int mleft, .int mmetres, .int mshut, .int mshield, .int mtoday, .int mbagged, .int mwarmed, .ref nW, .ref nC, .int mmeals, .ref nQ, .ref nM, .ref nD, .ref nA, .ref nK, .int msights, .ref nP, .int mpadMany, .ref nE, .ref nF, .ref nG, .int macts, .int mgusty, .int mleakAct, .int mleakMuch, .int mendOfCan, .int mbadAct, .int mbadWhy, .int mburnt, .int mboiled, .ref nH, .ref nI, .ref nJ, .ref nL, .int mhadLeft, .int mhadToday, .int mhadBagged, .int mhadWarmed, .int mleaves, .int mdayThen, .int mcoldThen, .ref nO, .int mportionMany, .ref nT, .ref nU, .int mleakMany, .int mleakActs, .ref nV, .ref nX, .ref nY, .ref nZ, .int mkeptAt, .int misWriting]))] s.heap.size = A at hD hKx ⊢
  have hA : ∀ q : Nat, s.heap.size ≤ q → A q := fun q h => by rw [← hAe]; exact Or.inr h
  have hS : va_S A s.heap s.heap [] := va_S.rf
  have hP : va_P (dC, dI) vwCl [(n, .inr (8, [.int mleft, .int mmetres, .int mshut, .int mshield, .int mtoday, .int mbagged, .int mwarmed, .ref nW, .ref nC, .int mmeals, .ref nQ, .ref nM, .ref nD, .ref nA, .ref nK, .int msights, .ref nP, .int mpadMany, .ref nE, .ref nF, .ref nG, .int macts, .int mgusty, .int mleakAct, .int mleakMuch, .int mendOfCan, .int mbadAct, .int mbadWhy, .int mburnt, .int mboiled, .ref nH, .ref nI, .ref nJ, .ref nL, .int mhadLeft, .int mhadToday, .int mhadBagged, .int mhadWarmed, .int mleaves, .int mdayThen, .int mcoldThen, .ref nO, .int mportionMany, .ref nT, .ref nU, .int mleakMany, .int mleakActs, .ref nV, .ref nX, .ref nY, .ref nZ, .int mkeptAt, .int misWriting]))] s.heap := hP
  have hl := lv_entry ([.ref n, .int 1]) (n := 2) (Nat.le_of_ble_eq_true rfl)
  rw [lg_entry_eq]
  generalize (lg_sl ([.ref n, .int 1]) ++ List.replicate (2 - (lg_sl ([.ref n, .int 1])).length) Slot.unset).toArray = ls at hl ⊢
  have hl : lv_has ls 2 [(0, .ref n), (1, .int 1)] := hl
  have hK := hKx.1
  have hin8 := fun w9 h9 => List.mem_cons_of_mem (Cond.code yX8_setting cX8_setting 2 (some .int)) (inlX8 w9 h9)
  have hw0 := hts (.fieldLink RX8 92 "OneCanModel" "metres" "I") (List.mem_cons_of_mem _ wm_149)
  refine lv_iload_n hx hb dX8_setting_0 rfl (lv_at hl 1 rfl) ?_
  refine lv_if_ne (tgt := 11) hx hb dX8_setting_1 (by decide) (fun c1 => ?_) (fun c1 => absurd c1 (by decide))
  refine lv_iload_n hx hb dX8_setting_11 rfl (lv_at hl 1 rfl) ?_
  refine lv_iconst (v := 1) hx hb dX8_setting_12 (by decide) ?_
  refine lv_icmp_ne (tgt := 23) hx hb dX8_setting_13 (by decide) (fun c2 => absurd c2 (by decide)) (fun c2 => ?_)
  refine lv_aload_n hx hb dX8_setting_16 rfl (lv_at hl 0 rfl) ?_
  refine va_get (D := (dC, dI)) (ci := 8) (v := .int mmetres) (C := RX8) (T := TX8) (N := 53) hx hb hts hin8 hown hK hP 0 rfl rfl 1 (by decide) hw0 (fun _ h9 => h9) rfl dX8_setting_17 ?_
  refine lv_goto (tgt := 51) hx hb dX8_setting_20 (by decide) ?_
  have hP9 := mx_subP (wc := [(n, .inr (8, [.int mleft, .int mmetres, .int mshut, .int mshield, .int mtoday, .int mbagged, .int mwarmed, .ref nW, .ref nC, .int mmeals, .ref nQ, .ref nM, .ref nD, .ref nA, .ref nK, .int msights, .ref nP, .int mpadMany, .ref nE, .ref nF, .ref nG, .int macts, .int mgusty, .int mleakAct, .int mleakMuch, .int mendOfCan, .int mbadAct, .int mbadWhy, .int mburnt, .int mboiled, .ref nH, .ref nI, .ref nJ, .ref nL, .int mhadLeft, .int mhadToday, .int mhadBagged, .int mhadWarmed, .int mleaves, .int mdayThen, .int mcoldThen, .ref nO, .int mportionMany, .ref nT, .ref nU, .int mleakMany, .int mleakActs, .ref nV, .ref nX, .ref nY, .ref nZ, .int mkeptAt, .int misWriting]))]) hP [0] rfl
  have hD9 := hD.sub (ws' := [(n, .inr (8, [.int mleft, .int mmetres, .int mshut, .int mshield, .int mtoday, .int mbagged, .int mwarmed, .ref nW, .ref nC, .int mmeals, .ref nQ, .ref nM, .ref nD, .ref nA, .ref nK, .int msights, .ref nP, .int mpadMany, .ref nE, .ref nF, .ref nG, .int macts, .int mgusty, .int mleakAct, .int mleakMuch, .int mendOfCan, .int mbadAct, .int mbadWhy, .int mburnt, .int mboiled, .ref nH, .ref nI, .ref nJ, .ref nL, .int mhadLeft, .int mhadToday, .int mhadBagged, .int mhadWarmed, .int mleaves, .int mdayThen, .int mcoldThen, .ref nO, .int mportionMany, .ref nT, .ref nU, .int mleakMany, .int mleakActs, .ref nV, .ref nX, .ref nY, .ref nZ, .int mkeptAt, .int misWriting]))]) [0] (by decide) rfl
  exact W.iret (v := mmetres) hx hb hr (fun t ht hW => ⟨⟨mmetres, (), rfl, rfl, by rw [ht]; exact hP9, hD9⟩, hS.F ht⟩) hS.2.2 dX8_setting_51
set_option maxHeartbeats 4000000 in
set_option maxRecDepth 100000 in
theorem c_X8_greatest_2 (l : Launch) (dC : Nat → ClassId) (dI : Nat → Nat → Nat) (cI cZ cK : ClassId) (tS : Nat) (aK aV : Nat → Nat) (sz : Nat) : Ci l yX8_greatest (wq yX8_greatest cX8_greatest 1 (some .int)) ({ frames := 0, cells := 0, slots := 0, locals := 0 }) dC dI cI cZ cK tS aK aV [.int 2] sz [] (fun (r : Int32) (u : Unit) => r = 6) (fun _ => []) := by
  refine Met.ofW (cc := cX8_greatest) (maxL := 1) (ret := (some .int)) (by decide) rfl ?_
  intro p e s m args below meth c s₁ B hml hv
  obtain ⟨rfl, hsz, hP, hKx, hD0⟩ := hv
  have hx := B.exec
  have hb := B.bytes
  have hr := B.returns
  have hts := atoms_spec (ws := wq yX8_greatest cX8_greatest 1 (some .int)) B.pre
  have hown : s.vm.findClass RX8 = some m.cls := findClass_of_methodNamed B.named
  have hlocks := B.notSynchronized
  subst hsz
  have hD := hD0.self (sz := s.heap.size)
  generalize hAe : va_A [] s.heap.size = A at hD hKx ⊢
  have hA : ∀ q : Nat, s.heap.size ≤ q → A q := fun q h => by rw [← hAe]; exact Or.inr h
  have hS : va_S A s.heap s.heap [] := va_S.rf
  have hP : va_P (dC, dI) vwCl [] s.heap := hP
  have hl := lv_entry ([.int 2]) (n := 1) (Nat.le_of_ble_eq_true rfl)
  rw [lg_entry_eq]
  generalize (lg_sl ([.int 2]) ++ List.replicate (1 - (lg_sl ([.int 2])).length) Slot.unset).toArray = ls at hl ⊢
  have hl : lv_has ls 1 [(0, .int 2)] := hl
  have hK := hKx.1
  refine lv_iload_n hx hb dX8_greatest_0 rfl (lv_at hl 0 rfl) ?_
  refine lv_tableIn (tgt := 39) (off := 38) hx hb dX8_greatest_1 (by decide) (by decide) (by decide) (by decide) ?_
  refine lv_bipush (v := 6) hx hb dX8_greatest_39 (by decide) ?_
  have hP9 := mx_subP (wc := []) hP [] rfl
  have hD9 := hD.sub (ws' := []) [] (by decide) rfl
  exact W.iret (v := 6) hx hb hr (fun t ht hW => ⟨⟨6, (), rfl, rfl, by rw [ht]; exact hP9, hD9⟩, hS.F ht⟩) hS.2.2 dX8_greatest_41
set_option maxHeartbeats 4000000 in
set_option maxRecDepth 100000 in
theorem c_X8_setting_2 (l : Launch) (dC : Nat → ClassId) (dI : Nat → Nat → Nat) (cI cZ cK : ClassId) (tS : Nat) (aK aV : Nat → Nat) (n : Nat) (mleft : Int32) (mmetres : Int32) (mshut : Int32) (mshield : Int32) (mtoday : Int32) (mbagged : Int32) (mwarmed : Int32) (nW : Nat) (nC : Nat) (mmeals : Int32) (nQ : Nat) (nM : Nat) (nD : Nat) (nA : Nat) (nK : Nat) (msights : Int32) (nP : Nat) (mpadMany : Int32) (nE : Nat) (nF : Nat) (nG : Nat) (macts : Int32) (mgusty : Int32) (mleakAct : Int32) (mleakMuch : Int32) (mendOfCan : Int32) (mbadAct : Int32) (mbadWhy : Int32) (mburnt : Int32) (mboiled : Int32) (nH : Nat) (nI : Nat) (nJ : Nat) (nL : Nat) (mhadLeft : Int32) (mhadToday : Int32) (mhadBagged : Int32) (mhadWarmed : Int32) (mleaves : Int32) (mdayThen : Int32) (mcoldThen : Int32) (nO : Nat) (mportionMany : Int32) (nT : Nat) (nU : Nat) (mleakMany : Int32) (mleakActs : Int32) (nV : Nat) (nX : Nat) (nY : Nat) (nZ : Nat) (mkeptAt : Int32) (misWriting : Int32) (sz : Nat) : Ci l yX8_setting (wq yX8_setting cX8_setting 2 (some .int)) ({ frames := 0, cells := 0, slots := 0, locals := 0 }) dC dI cI cZ cK tS aK aV [.ref n, .int 2] sz [(n, .inr (8, [.int mleft, .int mmetres, .int mshut, .int mshield, .int mtoday, .int mbagged, .int mwarmed, .ref nW, .ref nC, .int mmeals, .ref nQ, .ref nM, .ref nD, .ref nA, .ref nK, .int msights, .ref nP, .int mpadMany, .ref nE, .ref nF, .ref nG, .int macts, .int mgusty, .int mleakAct, .int mleakMuch, .int mendOfCan, .int mbadAct, .int mbadWhy, .int mburnt, .int mboiled, .ref nH, .ref nI, .ref nJ, .ref nL, .int mhadLeft, .int mhadToday, .int mhadBagged, .int mhadWarmed, .int mleaves, .int mdayThen, .int mcoldThen, .ref nO, .int mportionMany, .ref nT, .ref nU, .int mleakMany, .int mleakActs, .ref nV, .ref nX, .ref nY, .ref nZ, .int mkeptAt, .int misWriting]))] (fun (r : Int32) (u : Unit) => (r = mshut)) (fun _ => [(n, .inr (8, [.int mleft, .int mmetres, .int mshut, .int mshield, .int mtoday, .int mbagged, .int mwarmed, .ref nW, .ref nC, .int mmeals, .ref nQ, .ref nM, .ref nD, .ref nA, .ref nK, .int msights, .ref nP, .int mpadMany, .ref nE, .ref nF, .ref nG, .int macts, .int mgusty, .int mleakAct, .int mleakMuch, .int mendOfCan, .int mbadAct, .int mbadWhy, .int mburnt, .int mboiled, .ref nH, .ref nI, .ref nJ, .ref nL, .int mhadLeft, .int mhadToday, .int mhadBagged, .int mhadWarmed, .int mleaves, .int mdayThen, .int mcoldThen, .ref nO, .int mportionMany, .ref nT, .ref nU, .int mleakMany, .int mleakActs, .ref nV, .ref nX, .ref nY, .ref nZ, .int mkeptAt, .int misWriting]))]) := by
  refine Met.ofW (cc := cX8_setting) (maxL := 2) (ret := (some .int)) (by decide) rfl ?_
  intro p e s m args below meth c s₁ B hml hv
  obtain ⟨rfl, hsz, hP, hKx, hD0⟩ := hv
  have hx := B.exec
  have hb := B.bytes
  have hr := B.returns
  have hts := atoms_spec (ws := wq yX8_setting cX8_setting 2 (some .int)) B.pre
  have hown : s.vm.findClass RX8 = some m.cls := findClass_of_methodNamed B.named
  have hlocks := B.notSynchronized
  subst hsz
  have hD := hD0.self (sz := s.heap.size)
  generalize hAe : va_A [(n, .inr (8, [.int mleft, .int mmetres, .int mshut, .int mshield, .int mtoday, .int mbagged, .int mwarmed, .ref nW, .ref nC, .int mmeals, .ref nQ, .ref nM, .ref nD, .ref nA, .ref nK, .int msights, .ref nP, .int mpadMany, .ref nE, .ref nF, .ref nG, .int macts, .int mgusty, .int mleakAct, .int mleakMuch, .int mendOfCan, .int mbadAct, .int mbadWhy, .int mburnt, .int mboiled, .ref nH, .ref nI, .ref nJ, .ref nL, .int mhadLeft, .int mhadToday, .int mhadBagged, .int mhadWarmed, .int mleaves, .int mdayThen, .int mcoldThen, .ref nO, .int mportionMany, .ref nT, .ref nU, .int mleakMany, .int mleakActs, .ref nV, .ref nX, .ref nY, .ref nZ, .int mkeptAt, .int misWriting]))] s.heap.size = A at hD hKx ⊢
  have hA : ∀ q : Nat, s.heap.size ≤ q → A q := fun q h => by rw [← hAe]; exact Or.inr h
  have hS : va_S A s.heap s.heap [] := va_S.rf
  have hP : va_P (dC, dI) vwCl [(n, .inr (8, [.int mleft, .int mmetres, .int mshut, .int mshield, .int mtoday, .int mbagged, .int mwarmed, .ref nW, .ref nC, .int mmeals, .ref nQ, .ref nM, .ref nD, .ref nA, .ref nK, .int msights, .ref nP, .int mpadMany, .ref nE, .ref nF, .ref nG, .int macts, .int mgusty, .int mleakAct, .int mleakMuch, .int mendOfCan, .int mbadAct, .int mbadWhy, .int mburnt, .int mboiled, .ref nH, .ref nI, .ref nJ, .ref nL, .int mhadLeft, .int mhadToday, .int mhadBagged, .int mhadWarmed, .int mleaves, .int mdayThen, .int mcoldThen, .ref nO, .int mportionMany, .ref nT, .ref nU, .int mleakMany, .int mleakActs, .ref nV, .ref nX, .ref nY, .ref nZ, .int mkeptAt, .int misWriting]))] s.heap := hP
  have hl := lv_entry ([.ref n, .int 2]) (n := 2) (Nat.le_of_ble_eq_true rfl)
  rw [lg_entry_eq]
  generalize (lg_sl ([.ref n, .int 2]) ++ List.replicate (2 - (lg_sl ([.ref n, .int 2])).length) Slot.unset).toArray = ls at hl ⊢
  have hl : lv_has ls 2 [(0, .ref n), (1, .int 2)] := hl
  have hK := hKx.1
  have hin8 := fun w9 h9 => List.mem_cons_of_mem (Cond.code yX8_setting cX8_setting 2 (some .int)) (inlX8 w9 h9)
  have hw0 := hts (.fieldLink RX8 95 "OneCanModel" "shut" "I") (List.mem_cons_of_mem _ wm_150)
  refine lv_iload_n hx hb dX8_setting_0 rfl (lv_at hl 1 rfl) ?_
  refine lv_if_ne (tgt := 11) hx hb dX8_setting_1 (by decide) (fun c1 => ?_) (fun c1 => absurd c1 (by decide))
  refine lv_iload_n hx hb dX8_setting_11 rfl (lv_at hl 1 rfl) ?_
  refine lv_iconst (v := 1) hx hb dX8_setting_12 (by decide) ?_
  refine lv_icmp_ne (tgt := 23) hx hb dX8_setting_13 (by decide) (fun c2 => ?_) (fun c2 => absurd c2 (by decide))
  refine lv_iload_n hx hb dX8_setting_23 rfl (lv_at hl 1 rfl) ?_
  refine lv_iconst (v := 2) hx hb dX8_setting_24 (by decide) ?_
  refine lv_icmp_ne (tgt := 35) hx hb dX8_setting_25 (by decide) (fun c3 => absurd c3 (by decide)) (fun c3 => ?_)
  refine lv_aload_n hx hb dX8_setting_28 rfl (lv_at hl 0 rfl) ?_
  refine va_get (D := (dC, dI)) (ci := 8) (v := .int mshut) (C := RX8) (T := TX8) (N := 53) hx hb hts hin8 hown hK hP 0 rfl rfl 2 (by decide) hw0 (fun _ h9 => h9) rfl dX8_setting_29 ?_
  refine lv_goto (tgt := 51) hx hb dX8_setting_32 (by decide) ?_
  have hP9 := mx_subP (wc := [(n, .inr (8, [.int mleft, .int mmetres, .int mshut, .int mshield, .int mtoday, .int mbagged, .int mwarmed, .ref nW, .ref nC, .int mmeals, .ref nQ, .ref nM, .ref nD, .ref nA, .ref nK, .int msights, .ref nP, .int mpadMany, .ref nE, .ref nF, .ref nG, .int macts, .int mgusty, .int mleakAct, .int mleakMuch, .int mendOfCan, .int mbadAct, .int mbadWhy, .int mburnt, .int mboiled, .ref nH, .ref nI, .ref nJ, .ref nL, .int mhadLeft, .int mhadToday, .int mhadBagged, .int mhadWarmed, .int mleaves, .int mdayThen, .int mcoldThen, .ref nO, .int mportionMany, .ref nT, .ref nU, .int mleakMany, .int mleakActs, .ref nV, .ref nX, .ref nY, .ref nZ, .int mkeptAt, .int misWriting]))]) hP [0] rfl
  have hD9 := hD.sub (ws' := [(n, .inr (8, [.int mleft, .int mmetres, .int mshut, .int mshield, .int mtoday, .int mbagged, .int mwarmed, .ref nW, .ref nC, .int mmeals, .ref nQ, .ref nM, .ref nD, .ref nA, .ref nK, .int msights, .ref nP, .int mpadMany, .ref nE, .ref nF, .ref nG, .int macts, .int mgusty, .int mleakAct, .int mleakMuch, .int mendOfCan, .int mbadAct, .int mbadWhy, .int mburnt, .int mboiled, .ref nH, .ref nI, .ref nJ, .ref nL, .int mhadLeft, .int mhadToday, .int mhadBagged, .int mhadWarmed, .int mleaves, .int mdayThen, .int mcoldThen, .ref nO, .int mportionMany, .ref nT, .ref nU, .int mleakMany, .int mleakActs, .ref nV, .ref nX, .ref nY, .ref nZ, .int mkeptAt, .int misWriting]))]) [0] (by decide) rfl
  exact W.iret (v := mshut) hx hb hr (fun t ht hW => ⟨⟨mshut, (), rfl, rfl, by rw [ht]; exact hP9, hD9⟩, hS.F ht⟩) hS.2.2 dX8_setting_51
set_option maxHeartbeats 4000000 in
set_option maxRecDepth 100000 in
theorem c_X8_greatest_3 (l : Launch) (dC : Nat → ClassId) (dI : Nat → Nat → Nat) (cI cZ cK : ClassId) (tS : Nat) (aK aV : Nat → Nat) (sz : Nat) : Ci l yX8_greatest (wq yX8_greatest cX8_greatest 1 (some .int)) ({ frames := 0, cells := 0, slots := 0, locals := 0 }) dC dI cI cZ cK tS aK aV [.int 3] sz [] (fun (r : Int32) (u : Unit) => r = 1) (fun _ => []) := by
  refine Met.ofW (cc := cX8_greatest) (maxL := 1) (ret := (some .int)) (by decide) rfl ?_
  intro p e s m args below meth c s₁ B hml hv
  obtain ⟨rfl, hsz, hP, hKx, hD0⟩ := hv
  have hx := B.exec
  have hb := B.bytes
  have hr := B.returns
  have hts := atoms_spec (ws := wq yX8_greatest cX8_greatest 1 (some .int)) B.pre
  have hown : s.vm.findClass RX8 = some m.cls := findClass_of_methodNamed B.named
  have hlocks := B.notSynchronized
  subst hsz
  have hD := hD0.self (sz := s.heap.size)
  generalize hAe : va_A [] s.heap.size = A at hD hKx ⊢
  have hA : ∀ q : Nat, s.heap.size ≤ q → A q := fun q h => by rw [← hAe]; exact Or.inr h
  have hS : va_S A s.heap s.heap [] := va_S.rf
  have hP : va_P (dC, dI) vwCl [] s.heap := hP
  have hl := lv_entry ([.int 3]) (n := 1) (Nat.le_of_ble_eq_true rfl)
  rw [lg_entry_eq]
  generalize (lg_sl ([.int 3]) ++ List.replicate (1 - (lg_sl ([.int 3])).length) Slot.unset).toArray = ls at hl ⊢
  have hl : lv_has ls 1 [(0, .int 3)] := hl
  have hK := hKx.1
  refine lv_iload_n hx hb dX8_greatest_0 rfl (lv_at hl 0 rfl) ?_
  refine lv_tableIn (tgt := 42) (off := 41) hx hb dX8_greatest_1 (by decide) (by decide) (by decide) (by decide) ?_
  refine lv_iconst (v := 1) hx hb dX8_greatest_42 (by decide) ?_
  have hP9 := mx_subP (wc := []) hP [] rfl
  have hD9 := hD.sub (ws' := []) [] (by decide) rfl
  exact W.iret (v := 1) hx hb hr (fun t ht hW => ⟨⟨1, (), rfl, rfl, by rw [ht]; exact hP9, hD9⟩, hS.F ht⟩) hS.2.2 dX8_greatest_43
set_option maxHeartbeats 4000000 in
set_option maxRecDepth 100000 in
theorem c_X8_setting_3 (l : Launch) (dC : Nat → ClassId) (dI : Nat → Nat → Nat) (cI cZ cK : ClassId) (tS : Nat) (aK aV : Nat → Nat) (n : Nat) (mleft : Int32) (mmetres : Int32) (mshut : Int32) (mshield : Int32) (mtoday : Int32) (mbagged : Int32) (mwarmed : Int32) (nW : Nat) (nC : Nat) (mmeals : Int32) (nQ : Nat) (nM : Nat) (nD : Nat) (nA : Nat) (nK : Nat) (msights : Int32) (nP : Nat) (mpadMany : Int32) (nE : Nat) (nF : Nat) (nG : Nat) (macts : Int32) (mgusty : Int32) (mleakAct : Int32) (mleakMuch : Int32) (mendOfCan : Int32) (mbadAct : Int32) (mbadWhy : Int32) (mburnt : Int32) (mboiled : Int32) (nH : Nat) (nI : Nat) (nJ : Nat) (nL : Nat) (mhadLeft : Int32) (mhadToday : Int32) (mhadBagged : Int32) (mhadWarmed : Int32) (mleaves : Int32) (mdayThen : Int32) (mcoldThen : Int32) (nO : Nat) (mportionMany : Int32) (nT : Nat) (nU : Nat) (mleakMany : Int32) (mleakActs : Int32) (nV : Nat) (nX : Nat) (nY : Nat) (nZ : Nat) (mkeptAt : Int32) (misWriting : Int32) (sz : Nat) : Ci l yX8_setting (wq yX8_setting cX8_setting 2 (some .int)) ({ frames := 0, cells := 0, slots := 0, locals := 0 }) dC dI cI cZ cK tS aK aV [.ref n, .int 3] sz [(n, .inr (8, [.int mleft, .int mmetres, .int mshut, .int mshield, .int mtoday, .int mbagged, .int mwarmed, .ref nW, .ref nC, .int mmeals, .ref nQ, .ref nM, .ref nD, .ref nA, .ref nK, .int msights, .ref nP, .int mpadMany, .ref nE, .ref nF, .ref nG, .int macts, .int mgusty, .int mleakAct, .int mleakMuch, .int mendOfCan, .int mbadAct, .int mbadWhy, .int mburnt, .int mboiled, .ref nH, .ref nI, .ref nJ, .ref nL, .int mhadLeft, .int mhadToday, .int mhadBagged, .int mhadWarmed, .int mleaves, .int mdayThen, .int mcoldThen, .ref nO, .int mportionMany, .ref nT, .ref nU, .int mleakMany, .int mleakActs, .ref nV, .ref nX, .ref nY, .ref nZ, .int mkeptAt, .int misWriting]))] (fun (r : Int32) (u : Unit) => (r = mshield)) (fun _ => [(n, .inr (8, [.int mleft, .int mmetres, .int mshut, .int mshield, .int mtoday, .int mbagged, .int mwarmed, .ref nW, .ref nC, .int mmeals, .ref nQ, .ref nM, .ref nD, .ref nA, .ref nK, .int msights, .ref nP, .int mpadMany, .ref nE, .ref nF, .ref nG, .int macts, .int mgusty, .int mleakAct, .int mleakMuch, .int mendOfCan, .int mbadAct, .int mbadWhy, .int mburnt, .int mboiled, .ref nH, .ref nI, .ref nJ, .ref nL, .int mhadLeft, .int mhadToday, .int mhadBagged, .int mhadWarmed, .int mleaves, .int mdayThen, .int mcoldThen, .ref nO, .int mportionMany, .ref nT, .ref nU, .int mleakMany, .int mleakActs, .ref nV, .ref nX, .ref nY, .ref nZ, .int mkeptAt, .int misWriting]))]) := by
  refine Met.ofW (cc := cX8_setting) (maxL := 2) (ret := (some .int)) (by decide) rfl ?_
  intro p e s m args below meth c s₁ B hml hv
  obtain ⟨rfl, hsz, hP, hKx, hD0⟩ := hv
  have hx := B.exec
  have hb := B.bytes
  have hr := B.returns
  have hts := atoms_spec (ws := wq yX8_setting cX8_setting 2 (some .int)) B.pre
  have hown : s.vm.findClass RX8 = some m.cls := findClass_of_methodNamed B.named
  have hlocks := B.notSynchronized
  subst hsz
  have hD := hD0.self (sz := s.heap.size)
  generalize hAe : va_A [(n, .inr (8, [.int mleft, .int mmetres, .int mshut, .int mshield, .int mtoday, .int mbagged, .int mwarmed, .ref nW, .ref nC, .int mmeals, .ref nQ, .ref nM, .ref nD, .ref nA, .ref nK, .int msights, .ref nP, .int mpadMany, .ref nE, .ref nF, .ref nG, .int macts, .int mgusty, .int mleakAct, .int mleakMuch, .int mendOfCan, .int mbadAct, .int mbadWhy, .int mburnt, .int mboiled, .ref nH, .ref nI, .ref nJ, .ref nL, .int mhadLeft, .int mhadToday, .int mhadBagged, .int mhadWarmed, .int mleaves, .int mdayThen, .int mcoldThen, .ref nO, .int mportionMany, .ref nT, .ref nU, .int mleakMany, .int mleakActs, .ref nV, .ref nX, .ref nY, .ref nZ, .int mkeptAt, .int misWriting]))] s.heap.size = A at hD hKx ⊢
  have hA : ∀ q : Nat, s.heap.size ≤ q → A q := fun q h => by rw [← hAe]; exact Or.inr h
  have hS : va_S A s.heap s.heap [] := va_S.rf
  have hP : va_P (dC, dI) vwCl [(n, .inr (8, [.int mleft, .int mmetres, .int mshut, .int mshield, .int mtoday, .int mbagged, .int mwarmed, .ref nW, .ref nC, .int mmeals, .ref nQ, .ref nM, .ref nD, .ref nA, .ref nK, .int msights, .ref nP, .int mpadMany, .ref nE, .ref nF, .ref nG, .int macts, .int mgusty, .int mleakAct, .int mleakMuch, .int mendOfCan, .int mbadAct, .int mbadWhy, .int mburnt, .int mboiled, .ref nH, .ref nI, .ref nJ, .ref nL, .int mhadLeft, .int mhadToday, .int mhadBagged, .int mhadWarmed, .int mleaves, .int mdayThen, .int mcoldThen, .ref nO, .int mportionMany, .ref nT, .ref nU, .int mleakMany, .int mleakActs, .ref nV, .ref nX, .ref nY, .ref nZ, .int mkeptAt, .int misWriting]))] s.heap := hP
  have hl := lv_entry ([.ref n, .int 3]) (n := 2) (Nat.le_of_ble_eq_true rfl)
  rw [lg_entry_eq]
  generalize (lg_sl ([.ref n, .int 3]) ++ List.replicate (2 - (lg_sl ([.ref n, .int 3])).length) Slot.unset).toArray = ls at hl ⊢
  have hl : lv_has ls 2 [(0, .ref n), (1, .int 3)] := hl
  have hK := hKx.1
  have hin8 := fun w9 h9 => List.mem_cons_of_mem (Cond.code yX8_setting cX8_setting 2 (some .int)) (inlX8 w9 h9)
  have hw0 := hts (.fieldLink RX8 98 "OneCanModel" "shield" "I") (List.mem_cons_of_mem _ wm_151)
  refine lv_iload_n hx hb dX8_setting_0 rfl (lv_at hl 1 rfl) ?_
  refine lv_if_ne (tgt := 11) hx hb dX8_setting_1 (by decide) (fun c1 => ?_) (fun c1 => absurd c1 (by decide))
  refine lv_iload_n hx hb dX8_setting_11 rfl (lv_at hl 1 rfl) ?_
  refine lv_iconst (v := 1) hx hb dX8_setting_12 (by decide) ?_
  refine lv_icmp_ne (tgt := 23) hx hb dX8_setting_13 (by decide) (fun c2 => ?_) (fun c2 => absurd c2 (by decide))
  refine lv_iload_n hx hb dX8_setting_23 rfl (lv_at hl 1 rfl) ?_
  refine lv_iconst (v := 2) hx hb dX8_setting_24 (by decide) ?_
  refine lv_icmp_ne (tgt := 35) hx hb dX8_setting_25 (by decide) (fun c3 => ?_) (fun c3 => absurd c3 (by decide))
  refine lv_iload_n hx hb dX8_setting_35 rfl (lv_at hl 1 rfl) ?_
  refine lv_iconst (v := 3) hx hb dX8_setting_36 (by decide) ?_
  refine lv_icmp_ne (tgt := 47) hx hb dX8_setting_37 (by decide) (fun c4 => absurd c4 (by decide)) (fun c4 => ?_)
  refine lv_aload_n hx hb dX8_setting_40 rfl (lv_at hl 0 rfl) ?_
  refine va_get (D := (dC, dI)) (ci := 8) (v := .int mshield) (C := RX8) (T := TX8) (N := 53) hx hb hts hin8 hown hK hP 0 rfl rfl 3 (by decide) hw0 (fun _ h9 => h9) rfl dX8_setting_41 ?_
  refine lv_goto (tgt := 51) hx hb dX8_setting_44 (by decide) ?_
  have hP9 := mx_subP (wc := [(n, .inr (8, [.int mleft, .int mmetres, .int mshut, .int mshield, .int mtoday, .int mbagged, .int mwarmed, .ref nW, .ref nC, .int mmeals, .ref nQ, .ref nM, .ref nD, .ref nA, .ref nK, .int msights, .ref nP, .int mpadMany, .ref nE, .ref nF, .ref nG, .int macts, .int mgusty, .int mleakAct, .int mleakMuch, .int mendOfCan, .int mbadAct, .int mbadWhy, .int mburnt, .int mboiled, .ref nH, .ref nI, .ref nJ, .ref nL, .int mhadLeft, .int mhadToday, .int mhadBagged, .int mhadWarmed, .int mleaves, .int mdayThen, .int mcoldThen, .ref nO, .int mportionMany, .ref nT, .ref nU, .int mleakMany, .int mleakActs, .ref nV, .ref nX, .ref nY, .ref nZ, .int mkeptAt, .int misWriting]))]) hP [0] rfl
  have hD9 := hD.sub (ws' := [(n, .inr (8, [.int mleft, .int mmetres, .int mshut, .int mshield, .int mtoday, .int mbagged, .int mwarmed, .ref nW, .ref nC, .int mmeals, .ref nQ, .ref nM, .ref nD, .ref nA, .ref nK, .int msights, .ref nP, .int mpadMany, .ref nE, .ref nF, .ref nG, .int macts, .int mgusty, .int mleakAct, .int mleakMuch, .int mendOfCan, .int mbadAct, .int mbadWhy, .int mburnt, .int mboiled, .ref nH, .ref nI, .ref nJ, .ref nL, .int mhadLeft, .int mhadToday, .int mhadBagged, .int mhadWarmed, .int mleaves, .int mdayThen, .int mcoldThen, .ref nO, .int mportionMany, .ref nT, .ref nU, .int mleakMany, .int mleakActs, .ref nV, .ref nX, .ref nY, .ref nZ, .int mkeptAt, .int misWriting]))]) [0] (by decide) rfl
  exact W.iret (v := mshield) hx hb hr (fun t ht hW => ⟨⟨mshield, (), rfl, rfl, by rw [ht]; exact hP9, hD9⟩, hS.F ht⟩) hS.2.2 dX8_setting_51
set_option maxHeartbeats 4000000 in
set_option maxRecDepth 100000 in
theorem c_X8_greatest_4 (l : Launch) (dC : Nat → ClassId) (dI : Nat → Nat → Nat) (cI cZ cK : ClassId) (tS : Nat) (aK aV : Nat → Nat) (sz : Nat) : Ci l yX8_greatest (wq yX8_greatest cX8_greatest 1 (some .int)) ({ frames := 0, cells := 0, slots := 0, locals := 0 }) dC dI cI cZ cK tS aK aV [.int 4] sz [] (fun (r : Int32) (u : Unit) => r = 13) (fun _ => []) := by
  refine Met.ofW (cc := cX8_greatest) (maxL := 1) (ret := (some .int)) (by decide) rfl ?_
  intro p e s m args below meth c s₁ B hml hv
  obtain ⟨rfl, hsz, hP, hKx, hD0⟩ := hv
  have hx := B.exec
  have hb := B.bytes
  have hr := B.returns
  have hts := atoms_spec (ws := wq yX8_greatest cX8_greatest 1 (some .int)) B.pre
  have hown : s.vm.findClass RX8 = some m.cls := findClass_of_methodNamed B.named
  have hlocks := B.notSynchronized
  subst hsz
  have hD := hD0.self (sz := s.heap.size)
  generalize hAe : va_A [] s.heap.size = A at hD hKx ⊢
  have hA : ∀ q : Nat, s.heap.size ≤ q → A q := fun q h => by rw [← hAe]; exact Or.inr h
  have hS : va_S A s.heap s.heap [] := va_S.rf
  have hP : va_P (dC, dI) vwCl [] s.heap := hP
  have hl := lv_entry ([.int 4]) (n := 1) (Nat.le_of_ble_eq_true rfl)
  rw [lg_entry_eq]
  generalize (lg_sl ([.int 4]) ++ List.replicate (1 - (lg_sl ([.int 4])).length) Slot.unset).toArray = ls at hl ⊢
  have hl : lv_has ls 1 [(0, .int 4)] := hl
  have hK := hKx.1
  refine lv_iload_n hx hb dX8_greatest_0 rfl (lv_at hl 0 rfl) ?_
  refine lv_tableOut (tgt := 44) hx hb dX8_greatest_1 (by decide) (by decide) ?_
  refine lv_bipush (v := 13) hx hb dX8_greatest_44 (by decide) ?_
  have hP9 := mx_subP (wc := []) hP [] rfl
  have hD9 := hD.sub (ws' := []) [] (by decide) rfl
  exact W.iret (v := 13) hx hb hr (fun t ht hW => ⟨⟨13, (), rfl, rfl, by rw [ht]; exact hP9, hD9⟩, hS.F ht⟩) hS.2.2 dX8_greatest_46
