set_option maxHeartbeats 4000000 in
set_option maxRecDepth 100000 in
theorem c_X8_leastWind (l : Launch) (dC : Nat → ClassId) (dI : Nat → Nat → Nat) (cI cZ cK : ClassId) (tS : Nat) (aK aV : Nat → Nat) (n : Nat) (i0 : Int32) (mleft : Int32) (mmetres : Int32) (mshut : Int32) (mshield : Int32) (mtoday : Int32) (mbagged : Int32) (mwarmed : Int32) (nW : Nat) (nC : Nat) (mmeals : Int32) (nQ : Nat) (nM : Nat) (nD : Nat) (nA : Nat) (nK : Nat) (msights : Int32) (nP : Nat) (mpadMany : Int32) (nE : Nat) (nF : Nat) (nG : Nat) (macts : Int32) (mgusty : Int32) (mleakAct : Int32) (mleakMuch : Int32) (mendOfCan : Int32) (mbadAct : Int32) (mbadWhy : Int32) (mburnt : Int32) (mboiled : Int32) (nH : Nat) (nI : Nat) (nJ : Nat) (nL : Nat) (mhadLeft : Int32) (mhadToday : Int32) (mhadBagged : Int32) (mhadWarmed : Int32) (mleaves : Int32) (mdayThen : Int32) (mcoldThen : Int32) (nO : Nat) (mportionMany : Int32) (nT : Nat) (nU : Nat) (mleakMany : Int32) (mleakActs : Int32) (nV : Nat) (nX : Nat) (nY : Nat) (nZ : Nat) (mkeptAt : Int32) (misWriting : Int32) (gW : Nat → Int32) (sz : Nat) (h_gW : rg gW 14 0 4) (h_i0 : 0 ≤ i0.toInt ∧ i0.toInt ≤ 13) (h_mtoday : 0 ≤ mtoday.toInt ∧ mtoday.toInt ≤ 13) : Ci l yX8_leastWind (wq yX8_leastWind cX8_leastWind 4 (some .int)) ({ frames := 0, cells := 0, slots := 0, locals := 0 }) dC dI cI cZ cK tS aK aV [.ref n, .int i0] sz [(n, .inr (8, [.int mleft, .int mmetres, .int mshut, .int mshield, .int mtoday, .int mbagged, .int mwarmed, .ref nW, .ref nC, .int mmeals, .ref nQ, .ref nM, .ref nD, .ref nA, .ref nK, .int msights, .ref nP, .int mpadMany, .ref nE, .ref nF, .ref nG, .int macts, .int mgusty, .int mleakAct, .int mleakMuch, .int mendOfCan, .int mbadAct, .int mbadWhy, .int mburnt, .int mboiled, .ref nH, .ref nI, .ref nJ, .ref nL, .int mhadLeft, .int mhadToday, .int mhadBagged, .int mhadWarmed, .int mleaves, .int mdayThen, .int mcoldThen, .ref nO, .int mportionMany, .ref nT, .ref nU, .int mleakMany, .int mleakActs, .ref nV, .ref nX, .ref nY, .ref nZ, .int mkeptAt, .int misWriting])), (nW, .inl (cI, 14, .inl gW))] (fun (r : Int32) (u : Unit) => True) (fun _ => [(n, .inr (8, [.int mleft, .int mmetres, .int mshut, .int mshield, .int mtoday, .int mbagged, .int mwarmed, .ref nW, .ref nC, .int mmeals, .ref nQ, .ref nM, .ref nD, .ref nA, .ref nK, .int msights, .ref nP, .int mpadMany, .ref nE, .ref nF, .ref nG, .int macts, .int mgusty, .int mleakAct, .int mleakMuch, .int mendOfCan, .int mbadAct, .int mbadWhy, .int mburnt, .int mboiled, .ref nH, .ref nI, .ref nJ, .ref nL, .int mhadLeft, .int mhadToday, .int mhadBagged, .int mhadWarmed, .int mleaves, .int mdayThen, .int mcoldThen, .ref nO, .int mportionMany, .ref nT, .ref nU, .int mleakMany, .int mleakActs, .ref nV, .ref nX, .ref nY, .ref nZ, .int mkeptAt, .int misWriting])), (nW, .inl (cI, 14, .inl gW))]) := by
  refine Met.ofW (cc := cX8_leastWind) (maxL := 4) (ret := (some .int)) (by decide) rfl ?_
  intro p e s m args below meth c s₁ B hml hv
  obtain ⟨rfl, hsz, hP, hKx, hD0⟩ := hv
  have hx := B.exec
  have hb := B.bytes
  have hr := B.returns
  have hts := atoms_spec (ws := wq yX8_leastWind cX8_leastWind 4 (some .int)) B.pre
  have hown : s.vm.findClass RX8 = some m.cls := findClass_of_methodNamed B.named
  have hlocks := B.notSynchronized
  subst hsz
  have hD := hD0.self (sz := s.heap.size)
  generalize hAe : va_A [(n, .inr (8, [.int mleft, .int mmetres, .int mshut, .int mshield, .int mtoday, .int mbagged, .int mwarmed, .ref nW, .ref nC, .int mmeals, .ref nQ, .ref nM, .ref nD, .ref nA, .ref nK, .int msights, .ref nP, .int mpadMany, .ref nE, .ref nF, .ref nG, .int macts, .int mgusty, .int mleakAct, .int mleakMuch, .int mendOfCan, .int mbadAct, .int mbadWhy, .int mburnt, .int mboiled, .ref nH, .ref nI, .ref nJ, .ref nL, .int mhadLeft, .int mhadToday, .int mhadBagged, .int mhadWarmed, .int mleaves, .int mdayThen, .int mcoldThen, .ref nO, .int mportionMany, .ref nT, .ref nU, .int mleakMany, .int mleakActs, .ref nV, .ref nX, .ref nY, .ref nZ, .int mkeptAt, .int misWriting])), (nW, .inl (cI, 14, .inl gW))] s.heap.size = A at hD hKx ⊢
  have hA : ∀ q : Nat, s.heap.size ≤ q → A q := fun q h => by rw [← hAe]; exact Or.inr h
  have hS : va_S A s.heap s.heap [] := va_S.rf
  have hP : va_P (dC, dI) vwCl [(n, .inr (8, [.int mleft, .int mmetres, .int mshut, .int mshield, .int mtoday, .int mbagged, .int mwarmed, .ref nW, .ref nC, .int mmeals, .ref nQ, .ref nM, .ref nD, .ref nA, .ref nK, .int msights, .ref nP, .int mpadMany, .ref nE, .ref nF, .ref nG, .int macts, .int mgusty, .int mleakAct, .int mleakMuch, .int mendOfCan, .int mbadAct, .int mbadWhy, .int mburnt, .int mboiled, .ref nH, .ref nI, .ref nJ, .ref nL, .int mhadLeft, .int mhadToday, .int mhadBagged, .int mhadWarmed, .int mleaves, .int mdayThen, .int mcoldThen, .ref nO, .int mportionMany, .ref nT, .ref nU, .int mleakMany, .int mleakActs, .ref nV, .ref nX, .ref nY, .ref nZ, .int mkeptAt, .int misWriting])), (nW, .inl (cI, 14, .inl gW))] s.heap := hP
  have hl := lv_entry ([.ref n, .int i0]) (n := 4) (Nat.le_of_ble_eq_true rfl)
  rw [lg_entry_eq]
  generalize (lg_sl ([.ref n, .int i0]) ++ List.replicate (4 - (lg_sl ([.ref n, .int i0])).length) Slot.unset).toArray = ls at hl ⊢
  have hl : lv_has ls 4 [(0, .ref n), (1, .int i0)] := hl
  have hK := hKx.1
  have hin8 := fun w9 h9 => List.mem_cons_of_mem (Cond.code yX8_leastWind cX8_leastWind 4 (some .int)) (inlX8 w9 h9)
  have hw0 := hts (.fieldLink RX8 101 "OneCanModel" "today" "I") (List.mem_cons_of_mem _ wm_152)
  have hw1 := hts (.fieldLink RX8 7 "OneCanModel" "wind" "[I") (List.mem_cons_of_mem _ wm_112)
  refine lv_iconst (v := 4) hx hb dX8_leastWind_0 (by decide) ?_
  refine lv_istore_n (lv' := [(2, .int 4), (0, .ref n), (1, .int i0)]) hx hb dX8_leastWind_1 rfl hl (by decide) rfl (fun ls hl => ?_)
  refine lv_aload_n hx hb dX8_leastWind_2 rfl (lv_at hl 1 rfl) ?_
  refine va_get (D := (dC, dI)) (ci := 8) (v := .int mtoday) (C := RX8) (T := TX8) (N := 53) hx hb hts hin8 hown hK hP 0 rfl rfl 4 (by decide) hw0 (fun _ h9 => h9) rfl dX8_leastWind_3 ?_
  refine lv_istore_n (lv' := [(3, .int mtoday), (2, .int 4), (0, .ref n), (1, .int i0)]) hx hb dX8_leastWind_6 rfl hl (by decide) rfl (fun ls hl => ?_)
  have z2 : (4 : Int32).toInt = 4 := rfl
  have hl0 := hl
  clear hl
  obtain ⟨y2, y3, ex, hl⟩ : ∃ (y2 y3 : Int32), (0 ≤ y3.toInt ∧ y3.toInt ≤ 14) ∧ lv_has ls 4 [(3, .int y3), (2, .int y2), (0, .ref n), (1, .int i0)] := ⟨4, mtoday, by omega, hl0⟩
  clear hl0
  obtain ⟨n1, hn⟩ : ∃ n : Nat, (n : Int) = ((i0.toInt + 1 - y3.toInt).toNat : Int) := ⟨(((i0.toInt + 1 - y3.toInt).toNat : Int)).toNat, by omega⟩
  induction n1 generalizing y2 y3 ls with
  | zero =>
    skip
    refine lv_iload_n hx hb dX8_leastWind_7 rfl (lv_at hl 0 rfl) ?_
    refine lv_iload_n hx hb dX8_leastWind_8 rfl (lv_at hl 3 rfl) ?_
    refine lv_icmp_gt (tgt := 39) hx hb dX8_leastWind_9 (by decide) (fun c3 => ?_) (fun c3 => by exfalso; have t3 : y3.toInt ≤ i0.toInt := (tnlt c3); omega)
    refine lv_iload_n hx hb dX8_leastWind_39 rfl (lv_at hl 1 rfl) ?_
    have hP9 := mx_subP (wc := [(n, .inr (8, [.int mleft, .int mmetres, .int mshut, .int mshield, .int mtoday, .int mbagged, .int mwarmed, .ref nW, .ref nC, .int mmeals, .ref nQ, .ref nM, .ref nD, .ref nA, .ref nK, .int msights, .ref nP, .int mpadMany, .ref nE, .ref nF, .ref nG, .int macts, .int mgusty, .int mleakAct, .int mleakMuch, .int mendOfCan, .int mbadAct, .int mbadWhy, .int mburnt, .int mboiled, .ref nH, .ref nI, .ref nJ, .ref nL, .int mhadLeft, .int mhadToday, .int mhadBagged, .int mhadWarmed, .int mleaves, .int mdayThen, .int mcoldThen, .ref nO, .int mportionMany, .ref nT, .ref nU, .int mleakMany, .int mleakActs, .ref nV, .ref nX, .ref nY, .ref nZ, .int mkeptAt, .int misWriting])), (nW, .inl (cI, 14, .inl gW))]) hP [0, 1] rfl
    have hD9 := hD.sub (ws' := [(n, .inr (8, [.int mleft, .int mmetres, .int mshut, .int mshield, .int mtoday, .int mbagged, .int mwarmed, .ref nW, .ref nC, .int mmeals, .ref nQ, .ref nM, .ref nD, .ref nA, .ref nK, .int msights, .ref nP, .int mpadMany, .ref nE, .ref nF, .ref nG, .int macts, .int mgusty, .int mleakAct, .int mleakMuch, .int mendOfCan, .int mbadAct, .int mbadWhy, .int mburnt, .int mboiled, .ref nH, .ref nI, .ref nJ, .ref nL, .int mhadLeft, .int mhadToday, .int mhadBagged, .int mhadWarmed, .int mleaves, .int mdayThen, .int mcoldThen, .ref nO, .int mportionMany, .ref nT, .ref nU, .int mleakMany, .int mleakActs, .ref nV, .ref nX, .ref nY, .ref nZ, .int mkeptAt, .int misWriting])), (nW, .inl (cI, 14, .inl gW))]) [0, 1] (by decide) rfl
    exact W.iret (v := y2) hx hb hr (fun t ht hW => ⟨⟨y2, (), rfl, trivial, by rw [ht]; exact hP9, hD9⟩, hS.F ht⟩) hS.2.2 dX8_leastWind_40
  | succ n1 ih =>
    skip
    refine lv_iload_n hx hb dX8_leastWind_7 rfl (lv_at hl 0 rfl) ?_
    refine lv_iload_n hx hb dX8_leastWind_8 rfl (lv_at hl 3 rfl) ?_
    refine lv_icmp_gt (tgt := 39) hx hb dX8_leastWind_9 (by decide) (fun c4 => by exfalso; have t4 : i0.toInt < y3.toInt := (tlt c4); omega) (fun c4 => ?_)
    refine lv_aload_n hx hb dX8_leastWind_12 rfl (lv_at hl 2 rfl) ?_
    refine va_get (D := (dC, dI)) (ci := 8) (v := .ref nW) (C := RX8) (T := TX8) (N := 53) hx hb hts hin8 hown hK hP 0 rfl rfl 7 (by decide) hw1 (fun _ h9 => h9) rfl dX8_leastWind_13 ?_
    refine lv_iload_n hx hb dX8_leastWind_16 rfl (lv_at hl 0 rfl) ?_
    refine va_iald hx hb hK hP 1 0 rfl rfl (vin (by omega) (by omega)) dX8_leastWind_17 ?_
    refine lv_topi (fun x5 e5 => ?_)
    have g5 : 0 ≤ x5.toInt ∧ x5.toInt ≤ 4 := by rw [e5]; exact rgI h_gW (by omega) (by omega)
    refine lv_iload_n hx hb dX8_leastWind_18 rfl (lv_at hl 1 rfl) ?_
    refine lv_icmp_ge (tgt := 31) hx hb dX8_leastWind_19 (by decide) (fun c6 => ?_) (fun c6 => ?_)
    · have t6 : y2.toInt ≤ x5.toInt := (tle c6)
      refine lv_iload_n hx hb dX8_leastWind_31 rfl (lv_at hl 1 rfl) ?_
      refine lv_istore_n (lv' := [(2, .int y2), (3, .int y3), (0, .ref n), (1, .int i0)]) hx hb dX8_leastWind_32 rfl hl (by decide) rfl (fun ls hl => ?_)
      obtain ⟨x7, e7⟩ : ∃ y : Int32, y = y3 + Int32.ofInt 1 := ⟨_, rfl⟩
      refine lv_iinc (v := x7) (lv' := [(3, .int x7), (2, .int y2), (0, .ref n), (1, .int i0)]) hx hb dX8_leastWind_33 hl (k := 1) rfl e7.symm (by decide) rfl (fun ls hl => ?_)
      have f7 : x7.toInt = y3.toInt + 1 := by rw [e7]; exact tinc (by decide) (by have t8 := tb y3; omega) (by have t8 := tb y3; omega)
      refine lv_goto (tgt := 7) hx hb dX8_leastWind_36 (by decide) ?_
      exact ih (ls := ls) (y2 := y2) (y3 := x7) (by omega) (show lv_has ls 4 [(3, .int x7), (2, .int y2), (0, .ref n), (1, .int i0)] from lv_sub hl [0, 1, 2, 3] rfl) (by omega)
    · have t6 : x5.toInt < y2.toInt := (tnle c6)
      refine lv_aload_n hx hb dX8_leastWind_22 rfl (lv_at hl 2 rfl) ?_
      refine va_get (D := (dC, dI)) (ci := 8) (v := .ref nW) (C := RX8) (T := TX8) (N := 53) hx hb hts hin8 hown hK hP 0 rfl rfl 7 (by decide) hw1 (fun _ h9 => h9) rfl dX8_leastWind_23 ?_
      refine lv_iload_n hx hb dX8_leastWind_26 rfl (lv_at hl 0 rfl) ?_
      refine va_iald hx hb hK hP 1 0 rfl rfl (vin (by omega) (by omega)) dX8_leastWind_27 ?_
      refine lv_topi (fun x8 e8 => ?_)
      have g8 : 0 ≤ x8.toInt ∧ x8.toInt ≤ 4 := by rw [e8]; exact rgI h_gW (by omega) (by omega)
      refine lv_goto (tgt := 32) hx hb dX8_leastWind_28 (by decide) ?_
      refine lv_istore_n (lv' := [(2, .int x8), (3, .int y3), (0, .ref n), (1, .int i0)]) hx hb dX8_leastWind_32 rfl hl (by decide) rfl (fun ls hl => ?_)
      obtain ⟨x9, e9⟩ : ∃ y : Int32, y = y3 + Int32.ofInt 1 := ⟨_, rfl⟩
      refine lv_iinc (v := x9) (lv' := [(3, .int x9), (2, .int x8), (0, .ref n), (1, .int i0)]) hx hb dX8_leastWind_33 hl (k := 1) rfl e9.symm (by decide) rfl (fun ls hl => ?_)
      have f9 : x9.toInt = y3.toInt + 1 := by rw [e9]; exact tinc (by decide) (by have t8 := tb y3; omega) (by have t8 := tb y3; omega)
      refine lv_goto (tgt := 7) hx hb dX8_leastWind_36 (by decide) ?_
      exact ih (ls := ls) (y2 := x8) (y3 := x9) (by omega) (show lv_has ls 4 [(3, .int x9), (2, .int x8), (0, .ref n), (1, .int i0)] from lv_sub hl [0, 1, 2, 3] rfl) (by omega)
set_option maxHeartbeats 4000000 in
set_option maxRecDepth 100000 in
theorem c_X8_nextTaken (l : Launch) (dC : Nat → ClassId) (dI : Nat → Nat → Nat) (cI cZ cK : ClassId) (tS : Nat) (aK aV : Nat → Nat) (n : Nat) (mleft : Int32) (mmetres : Int32) (mshut : Int32) (mshield : Int32) (mtoday : Int32) (mbagged : Int32) (mwarmed : Int32) (nW : Nat) (nC : Nat) (mmeals : Int32) (nQ : Nat) (nM : Nat) (nD : Nat) (nA : Nat) (nK : Nat) (msights : Int32) (nP : Nat) (mpadMany : Int32) (nE : Nat) (nF : Nat) (nG : Nat) (macts : Int32) (mgusty : Int32) (mleakAct : Int32) (mleakMuch : Int32) (mendOfCan : Int32) (mbadAct : Int32) (mbadWhy : Int32) (mburnt : Int32) (mboiled : Int32) (nH : Nat) (nI : Nat) (nJ : Nat) (nL : Nat) (mhadLeft : Int32) (mhadToday : Int32) (mhadBagged : Int32) (mhadWarmed : Int32) (mleaves : Int32) (mdayThen : Int32) (mcoldThen : Int32) (nO : Nat) (mportionMany : Int32) (nT : Nat) (nU : Nat) (mleakMany : Int32) (mleakActs : Int32) (nV : Nat) (nX : Nat) (nY : Nat) (nZ : Nat) (mkeptAt : Int32) (misWriting : Int32) (gO : Nat → Int32) (gT : Nat → Int32) (sz : Nat) (h_gO : rg gO 6 0 9) (htk : tkOK gT gO) : Ci l yX8_nextTaken (wq yX8_nextTaken cX8_nextTaken 2 (some .boolean)) ({ frames := 0, cells := 0, slots := 0, locals := 0 }) dC dI cI cZ cK tS aK aV [.ref n] sz [(n, .inr (8, [.int mleft, .int mmetres, .int mshut, .int mshield, .int mtoday, .int mbagged, .int mwarmed, .ref nW, .ref nC, .int mmeals, .ref nQ, .ref nM, .ref nD, .ref nA, .ref nK, .int msights, .ref nP, .int mpadMany, .ref nE, .ref nF, .ref nG, .int macts, .int mgusty, .int mleakAct, .int mleakMuch, .int mendOfCan, .int mbadAct, .int mbadWhy, .int mburnt, .int mboiled, .ref nH, .ref nI, .ref nJ, .ref nL, .int mhadLeft, .int mhadToday, .int mhadBagged, .int mhadWarmed, .int mleaves, .int mdayThen, .int mcoldThen, .ref nO, .int mportionMany, .ref nT, .ref nU, .int mleakMany, .int mleakActs, .ref nV, .ref nX, .ref nY, .ref nZ, .int mkeptAt, .int misWriting])), (nO, .inl (cI, 6, .inl gO)), (nT, .inl (cI, 6, .inl gT))] (fun (r : Int32) (u : (Nat → Nat → Int32) × (Nat → Int32) × (Nat → Int64)) => (tkOK (u.1 0) gO) ∧ (r.toInt = 0 ∨ tval gT + 1 ≤ tval (u.1 0)) ∧ (r.toInt = 0 ∨ r.toInt = 1)) (fun u => [(n, .inr (8, [.int mleft, .int mmetres, .int mshut, .int mshield, .int mtoday, .int mbagged, .int mwarmed, .ref nW, .ref nC, .int mmeals, .ref nQ, .ref nM, .ref nD, .ref nA, .ref nK, .int msights, .ref nP, .int mpadMany, .ref nE, .ref nF, .ref nG, .int macts, .int mgusty, .int mleakAct, .int mleakMuch, .int mendOfCan, .int mbadAct, .int mbadWhy, .int mburnt, .int mboiled, .ref nH, .ref nI, .ref nJ, .ref nL, .int mhadLeft, .int mhadToday, .int mhadBagged, .int mhadWarmed, .int mleaves, .int mdayThen, .int mcoldThen, .ref nO, .int mportionMany, .ref nT, .ref nU, .int mleakMany, .int mleakActs, .ref nV, .ref nX, .ref nY, .ref nZ, .int mkeptAt, .int misWriting])), (nO, .inl (cI, 6, .inl gO)), (nT, .inl (cI, 6, .inl (u.1 0)))]) := by
  refine Met.ofW (cc := cX8_nextTaken) (maxL := 2) (ret := (some .boolean)) (by decide) rfl ?_
  intro p e s m args below meth c s₁ B hml hv
  obtain ⟨rfl, hsz, hP, hKx, hD0⟩ := hv
  have hx := B.exec
  have hb := B.bytes
  have hr := B.returns
  have hts := atoms_spec (ws := wq yX8_nextTaken cX8_nextTaken 2 (some .boolean)) B.pre
  have hown : s.vm.findClass RX8 = some m.cls := findClass_of_methodNamed B.named
  have hlocks := B.notSynchronized
  subst hsz
  have hD := hD0.self (sz := s.heap.size)
  generalize hAe : va_A [(n, .inr (8, [.int mleft, .int mmetres, .int mshut, .int mshield, .int mtoday, .int mbagged, .int mwarmed, .ref nW, .ref nC, .int mmeals, .ref nQ, .ref nM, .ref nD, .ref nA, .ref nK, .int msights, .ref nP, .int mpadMany, .ref nE, .ref nF, .ref nG, .int macts, .int mgusty, .int mleakAct, .int mleakMuch, .int mendOfCan, .int mbadAct, .int mbadWhy, .int mburnt, .int mboiled, .ref nH, .ref nI, .ref nJ, .ref nL, .int mhadLeft, .int mhadToday, .int mhadBagged, .int mhadWarmed, .int mleaves, .int mdayThen, .int mcoldThen, .ref nO, .int mportionMany, .ref nT, .ref nU, .int mleakMany, .int mleakActs, .ref nV, .ref nX, .ref nY, .ref nZ, .int mkeptAt, .int misWriting])), (nO, .inl (cI, 6, .inl gO)), (nT, .inl (cI, 6, .inl gT))] s.heap.size = A at hD hKx ⊢
  have hA : ∀ q : Nat, s.heap.size ≤ q → A q := fun q h => by rw [← hAe]; exact Or.inr h
  have hS : va_S A s.heap s.heap [] := va_S.rf
  have hP : va_P (dC, dI) vwCl [(n, .inr (8, [.int mleft, .int mmetres, .int mshut, .int mshield, .int mtoday, .int mbagged, .int mwarmed, .ref nW, .ref nC, .int mmeals, .ref nQ, .ref nM, .ref nD, .ref nA, .ref nK, .int msights, .ref nP, .int mpadMany, .ref nE, .ref nF, .ref nG, .int macts, .int mgusty, .int mleakAct, .int mleakMuch, .int mendOfCan, .int mbadAct, .int mbadWhy, .int mburnt, .int mboiled, .ref nH, .ref nI, .ref nJ, .ref nL, .int mhadLeft, .int mhadToday, .int mhadBagged, .int mhadWarmed, .int mleaves, .int mdayThen, .int mcoldThen, .ref nO, .int mportionMany, .ref nT, .ref nU, .int mleakMany, .int mleakActs, .ref nV, .ref nX, .ref nY, .ref nZ, .int mkeptAt, .int misWriting])), (nO, .inl (cI, 6, .inl gO)), (nT, .inl (cI, 6, .inl gT))] s.heap := hP
  have hl := lv_entry ([.ref n]) (n := 2) (Nat.le_of_ble_eq_true rfl)
  rw [lg_entry_eq]
  generalize (lg_sl ([.ref n]) ++ List.replicate (2 - (lg_sl ([.ref n])).length) Slot.unset).toArray = ls at hl ⊢
  have hl : lv_has ls 2 [(0, .ref n)] := hl
  have hK := hKx.1
  have hin8 := fun w9 h9 => List.mem_cons_of_mem (Cond.code yX8_nextTaken cX8_nextTaken 2 (some .boolean)) (inlX8 w9 h9)
  have hw0 := hts (.fieldLink RX8 58 "OneCanModel" "taken" "[I") (List.mem_cons_of_mem _ wm_128)
  have hw1 := hts (.fieldLink RX8 55 "OneCanModel" "portion" "[I") (List.mem_cons_of_mem _ wm_127)
  have a0 := htk 0 (by decide); have a1 := htk 1 (by decide); have a2 := htk 2 (by decide); have a3 := htk 3 (by decide); have a4 := htk 4 (by decide); have a5 := htk 5 (by decide); have b0 := h_gO 0 (by decide); have b1 := h_gO 1 (by decide); have b2 := h_gO 2 (by decide); have b3 := h_gO 3 (by decide); have b4 := h_gO 4 (by decide); have b5 := h_gO 5 (by decide)
  refine lv_iconst (v := 0) hx hb dX8_nextTaken_0 (by decide) ?_
  refine lv_istore_n (lv' := [(1, .int 0), (0, .ref n)]) hx hb dX8_nextTaken_1 rfl hl (by decide) rfl (fun ls hl => ?_)
  refine lv_iload_n hx hb dX8_nextTaken_2 rfl (lv_at hl 0 rfl) ?_
  refine lv_bipush (v := 6) hx hb dX8_nextTaken_3 (by decide) ?_
  refine lv_icmp_ge (tgt := 36) hx hb dX8_nextTaken_5 (by decide) (fun c1 => absurd c1 (by decide)) (fun c1 => ?_)
  refine lv_aload_n hx hb dX8_nextTaken_8 rfl (lv_at hl 1 rfl) ?_
  refine va_get (D := (dC, dI)) (ci := 8) (v := .ref nT) (C := RX8) (T := TX8) (N := 53) hx hb hts hin8 hown hK hP 0 rfl rfl 43 (by decide) hw0 (fun _ h9 => h9) rfl dX8_nextTaken_9 ?_
  refine lv_iload_n hx hb dX8_nextTaken_12 rfl (lv_at hl 0 rfl) ?_
  refine va_iald hx hb hK hP 2 0 rfl rfl (vin (by decide) (by decide)) dX8_nextTaken_13 ?_
  refine lv_topi (fun y2 e2 => ?_)
  obtain rfl : gT 0 = y2 := e2.symm
  refine lv_aload_n hx hb dX8_nextTaken_14 rfl (lv_at hl 1 rfl) ?_
  refine va_get (D := (dC, dI)) (ci := 8) (v := .ref nO) (C := RX8) (T := TX8) (N := 53) hx hb hts hin8 hown hK hP 0 rfl rfl 41 (by decide) hw1 (fun _ h9 => h9) rfl dX8_nextTaken_15 ?_
  refine lv_iload_n hx hb dX8_nextTaken_18 rfl (lv_at hl 0 rfl) ?_
  refine va_iald hx hb hK hP 1 0 rfl rfl (vin (by decide) (by decide)) dX8_nextTaken_19 ?_
  refine lv_topi (fun y3 e3 => ?_)
  obtain rfl : gO 0 = y3 := e3.symm
  have g3 : 0 ≤ (gO 0).toInt ∧ (gO 0).toInt ≤ 9 := h_gO _ (by decide)
  refine lv_icmp_ne (tgt := 36) hx hb dX8_nextTaken_20 (by decide) (fun c4 => ?_) (fun c4 => ?_)
  · have t4 : (gT 0).toInt ≠ (gO 0).toInt := (tne c4)
    refine lv_iload_n hx hb dX8_nextTaken_36 rfl (lv_at hl 0 rfl) ?_
    refine lv_bipush (v := 6) hx hb dX8_nextTaken_37 (by decide) ?_
    refine lv_icmp_ge (tgt := 52) hx hb dX8_nextTaken_39 (by decide) (fun c5 => absurd c5 (by decide)) (fun c5 => ?_)
    refine lv_aload_n hx hb dX8_nextTaken_42 rfl (lv_at hl 1 rfl) ?_
    refine va_get (D := (dC, dI)) (ci := 8) (v := .ref nT) (C := RX8) (T := TX8) (N := 53) hx hb hts hin8 hown hK hP 0 rfl rfl 43 (by decide) hw0 (fun _ h9 => h9) rfl dX8_nextTaken_43 ?_
    refine lv_iload_n hx hb dX8_nextTaken_46 rfl (lv_at hl 0 rfl) ?_
    refine lv_dup2_11 hx hb dX8_nextTaken_47 rfl rfl ?_
    refine va_iald hx hb hK hP 2 0 rfl rfl (vin (by decide) (by decide)) dX8_nextTaken_48 ?_
    refine lv_topi (fun y6 e6 => ?_)
    obtain rfl : gT 0 = y6 := e6.symm
    refine lv_iconst (v := 1) hx hb dX8_nextTaken_49 (by decide) ?_
    refine lv_iadd hx hb dX8_nextTaken_50 ?_
    refine lv_topi (fun x7 e7 => ?_)
    have f7 : x7.toInt = (gT 0).toInt + (1 : Int) := by rw [e7]; exact tadd (by have t8 := tb (gT 0); have z8 : (1 : Int32).toInt = 1 := rfl; omega) (by have t8 := tb (gT 0); have z8 : (1 : Int32).toInt = 1 := rfl; omega)
    refine va_iast hx hb hK hP hD hS 2 0 rfl rfl (vin (by decide) (by decide)) dX8_nextTaken_51 (fun H locs hP hD hS => ?_)
    replace hP : va_P (dC, dI) vwCl [(n, .inr (8, [.int mleft, .int mmetres, .int mshut, .int mshield, .int mtoday, .int mbagged, .int mwarmed, .ref nW, .ref nC, .int mmeals, .ref nQ, .ref nM, .ref nD, .ref nA, .ref nK, .int msights, .ref nP, .int mpadMany, .ref nE, .ref nF, .ref nG, .int macts, .int mgusty, .int mleakAct, .int mleakMuch, .int mendOfCan, .int mbadAct, .int mbadWhy, .int mburnt, .int mboiled, .ref nH, .ref nI, .ref nJ, .ref nL, .int mhadLeft, .int mhadToday, .int mhadBagged, .int mhadWarmed, .int mleaves, .int mdayThen, .int mcoldThen, .ref nO, .int mportionMany, .ref nT, .ref nU, .int mleakMany, .int mleakActs, .ref nV, .ref nX, .ref nY, .ref nZ, .int mkeptAt, .int misWriting])), (nO, .inl (cI, 6, .inl gO)), (nT, .inl (cI, 6, .inl (upd gT 0 x7)))] H := hP
    replace hD : va_D A [(n, .inr (8, [.int mleft, .int mmetres, .int mshut, .int mshield, .int mtoday, .int mbagged, .int mwarmed, .ref nW, .ref nC, .int mmeals, .ref nQ, .ref nM, .ref nD, .ref nA, .ref nK, .int msights, .ref nP, .int mpadMany, .ref nE, .ref nF, .ref nG, .int macts, .int mgusty, .int mleakAct, .int mleakMuch, .int mendOfCan, .int mbadAct, .int mbadWhy, .int mburnt, .int mboiled, .ref nH, .ref nI, .ref nJ, .ref nL, .int mhadLeft, .int mhadToday, .int mhadBagged, .int mhadWarmed, .int mleaves, .int mdayThen, .int mcoldThen, .ref nO, .int mportionMany, .ref nT, .ref nU, .int mleakMany, .int mleakActs, .ref nV, .ref nX, .ref nY, .ref nZ, .int mkeptAt, .int misWriting])), (nO, .inl (cI, 6, .inl gO)), (nT, .inl (cI, 6, .inl (upd gT 0 x7)))] := hD
    refine lv_iload_n hx hb dX8_nextTaken_52 rfl (lv_at hl 0 rfl) ?_
    refine lv_bipush (v := 6) hx hb dX8_nextTaken_53 (by decide) ?_
    refine lv_icmp_ge (tgt := 62) hx hb dX8_nextTaken_55 (by decide) (fun c8 => absurd c8 (by decide)) (fun c8 => ?_)
    refine lv_iconst (v := 1) hx hb dX8_nextTaken_58 (by decide) ?_
    refine lv_goto (tgt := 63) hx hb dX8_nextTaken_59 (by decide) ?_
    have hP9 := mx_subP (wc := [(n, .inr (8, [.int mleft, .int mmetres, .int mshut, .int mshield, .int mtoday, .int mbagged, .int mwarmed, .ref nW, .ref nC, .int mmeals, .ref nQ, .ref nM, .ref nD, .ref nA, .ref nK, .int msights, .ref nP, .int mpadMany, .ref nE, .ref nF, .ref nG, .int macts, .int mgusty, .int mleakAct, .int mleakMuch, .int mendOfCan, .int mbadAct, .int mbadWhy, .int mburnt, .int mboiled, .ref nH, .ref nI, .ref nJ, .ref nL, .int mhadLeft, .int mhadToday, .int mhadBagged, .int mhadWarmed, .int mleaves, .int mdayThen, .int mcoldThen, .ref nO, .int mportionMany, .ref nT, .ref nU, .int mleakMany, .int mleakActs, .ref nV, .ref nX, .ref nY, .ref nZ, .int mkeptAt, .int misWriting])), (nO, .inl (cI, 6, .inl gO)), (nT, .inl (cI, 6, .inl (upd gT 0 x7)))]) hP [0, 1, 2] rfl
    have hD9 := hD.sub (ws' := [(n, .inr (8, [.int mleft, .int mmetres, .int mshut, .int mshield, .int mtoday, .int mbagged, .int mwarmed, .ref nW, .ref nC, .int mmeals, .ref nQ, .ref nM, .ref nD, .ref nA, .ref nK, .int msights, .ref nP, .int mpadMany, .ref nE, .ref nF, .ref nG, .int macts, .int mgusty, .int mleakAct, .int mleakMuch, .int mendOfCan, .int mbadAct, .int mbadWhy, .int mburnt, .int mboiled, .ref nH, .ref nI, .ref nJ, .ref nL, .int mhadLeft, .int mhadToday, .int mhadBagged, .int mhadWarmed, .int mleaves, .int mdayThen, .int mcoldThen, .ref nO, .int mportionMany, .ref nT, .ref nU, .int mleakMany, .int mleakActs, .ref nV, .ref nX, .ref nY, .ref nZ, .int mkeptAt, .int misWriting])), (nO, .inl (cI, 6, .inl gO)), (nT, .inl (cI, 6, .inl (upd gT 0 x7)))]) [0, 1, 2] (by decide) rfl
    exact W.zret (v := 1) hx hb hr rfl (fun t ht hW => ⟨⟨1, ((fun u9 => ([(upd gT 0 x7)] : List (Nat → Int32)).getD u9 (fun _ => 0)), (fun u9 => ([] : List Int32).getD u9 0), (fun u9 => ([] : List Int64).getD u9 0)), rfl, ⟨(show tkOK (upd gT 0 x7) gO from (by have z0 : (0 : Int32).toInt = 0 := rfl; exact tk_mk (show 0 ≤ x7.toInt ∧ x7.toInt ≤ (gO 0).toInt from by omega) (show 0 ≤ (gT 1).toInt ∧ (gT 1).toInt ≤ (gO 1).toInt from by omega) (show 0 ≤ (gT 2).toInt ∧ (gT 2).toInt ≤ (gO 2).toInt from by omega) (show 0 ≤ (gT 3).toInt ∧ (gT 3).toInt ≤ (gO 3).toInt from by omega) (show 0 ≤ (gT 4).toInt ∧ (gT 4).toInt ≤ (gO 4).toInt from by omega) (show 0 ≤ (gT 5).toInt ∧ (gT 5).toInt ≤ (gO 5).toInt from by omega))), (show (1 : Int32).toInt = 0 ∨ tval gT + 1 ≤ tval (upd gT 0 x7) from (Or.inr (show (gT 0).toInt + 10 * (gT 1).toInt + 100 * (gT 2).toInt + 1000 * (gT 3).toInt + 10000 * (gT 4).toInt + 100000 * (gT 5).toInt + 1 ≤ x7.toInt + 10 * (gT 1).toInt + 100 * (gT 2).toInt + 1000 * (gT 3).toInt + 10000 * (gT 4).toInt + 100000 * (gT 5).toInt from by have z0 : (0 : Int32).toInt = 0 := rfl; omega))), (by have z8 : (1 : Int32).toInt = 1 := rfl; omega)⟩, by rw [ht]; exact hP9, hD9⟩, hS.F ht⟩) hS.2.2 dX8_nextTaken_63
  · have t4 : (gT 0).toInt = (gO 0).toInt := (teq c4)
    refine lv_aload_n hx hb dX8_nextTaken_23 rfl (lv_at hl 1 rfl) ?_
    refine va_get (D := (dC, dI)) (ci := 8) (v := .ref nT) (C := RX8) (T := TX8) (N := 53) hx hb hts hin8 hown hK hP 0 rfl rfl 43 (by decide) hw0 (fun _ h9 => h9) rfl dX8_nextTaken_24 ?_
    refine lv_iload_n hx hb dX8_nextTaken_27 rfl (lv_at hl 0 rfl) ?_
    refine lv_iconst (v := 0) hx hb dX8_nextTaken_28 (by decide) ?_
    refine va_iast hx hb hK hP hD hS 2 0 rfl rfl (vin (by decide) (by decide)) dX8_nextTaken_29 (fun H locs hP hD hS => ?_)
    replace hP : va_P (dC, dI) vwCl [(n, .inr (8, [.int mleft, .int mmetres, .int mshut, .int mshield, .int mtoday, .int mbagged, .int mwarmed, .ref nW, .ref nC, .int mmeals, .ref nQ, .ref nM, .ref nD, .ref nA, .ref nK, .int msights, .ref nP, .int mpadMany, .ref nE, .ref nF, .ref nG, .int macts, .int mgusty, .int mleakAct, .int mleakMuch, .int mendOfCan, .int mbadAct, .int mbadWhy, .int mburnt, .int mboiled, .ref nH, .ref nI, .ref nJ, .ref nL, .int mhadLeft, .int mhadToday, .int mhadBagged, .int mhadWarmed, .int mleaves, .int mdayThen, .int mcoldThen, .ref nO, .int mportionMany, .ref nT, .ref nU, .int mleakMany, .int mleakActs, .ref nV, .ref nX, .ref nY, .ref nZ, .int mkeptAt, .int misWriting])), (nO, .inl (cI, 6, .inl gO)), (nT, .inl (cI, 6, .inl (upd gT 0 0)))] H := hP
    replace hD : va_D A [(n, .inr (8, [.int mleft, .int mmetres, .int mshut, .int mshield, .int mtoday, .int mbagged, .int mwarmed, .ref nW, .ref nC, .int mmeals, .ref nQ, .ref nM, .ref nD, .ref nA, .ref nK, .int msights, .ref nP, .int mpadMany, .ref nE, .ref nF, .ref nG, .int macts, .int mgusty, .int mleakAct, .int mleakMuch, .int mendOfCan, .int mbadAct, .int mbadWhy, .int mburnt, .int mboiled, .ref nH, .ref nI, .ref nJ, .ref nL, .int mhadLeft, .int mhadToday, .int mhadBagged, .int mhadWarmed, .int mleaves, .int mdayThen, .int mcoldThen, .ref nO, .int mportionMany, .ref nT, .ref nU, .int mleakMany, .int mleakActs, .ref nV, .ref nX, .ref nY, .ref nZ, .int mkeptAt, .int misWriting])), (nO, .inl (cI, 6, .inl gO)), (nT, .inl (cI, 6, .inl (upd gT 0 0)))] := hD
    refine lv_iinc (v := 1) (lv' := [(1, .int 1), (0, .ref n)]) hx hb dX8_nextTaken_30 hl (k := 0) rfl (by decide) (by decide) rfl (fun ls hl => ?_)
    refine lv_goto (tgt := 2) hx hb dX8_nextTaken_33 (by decide) ?_
    refine lv_iload_n hx hb dX8_nextTaken_2 rfl (lv_at hl 0 rfl) ?_
    refine lv_bipush (v := 6) hx hb dX8_nextTaken_3 (by decide) ?_
    refine lv_icmp_ge (tgt := 36) hx hb dX8_nextTaken_5 (by decide) (fun c9 => absurd c9 (by decide)) (fun c9 => ?_)
    refine lv_aload_n hx hb dX8_nextTaken_8 rfl (lv_at hl 1 rfl) ?_
    refine va_get (D := (dC, dI)) (ci := 8) (v := .ref nT) (C := RX8) (T := TX8) (N := 53) hx hb hts hin8 hown hK hP 0 rfl rfl 43 (by decide) hw0 (fun _ h9 => h9) rfl dX8_nextTaken_9 ?_
    refine lv_iload_n hx hb dX8_nextTaken_12 rfl (lv_at hl 0 rfl) ?_
    refine va_iald hx hb hK hP 2 0 rfl rfl (vin (by decide) (by decide)) dX8_nextTaken_13 ?_
    refine lv_topi (fun y10 e10 => ?_)
    obtain rfl : gT 1 = y10 := e10.symm
    refine lv_aload_n hx hb dX8_nextTaken_14 rfl (lv_at hl 1 rfl) ?_
    refine va_get (D := (dC, dI)) (ci := 8) (v := .ref nO) (C := RX8) (T := TX8) (N := 53) hx hb hts hin8 hown hK hP 0 rfl rfl 41 (by decide) hw1 (fun _ h9 => h9) rfl dX8_nextTaken_15 ?_
    refine lv_iload_n hx hb dX8_nextTaken_18 rfl (lv_at hl 0 rfl) ?_
    refine va_iald hx hb hK hP 1 0 rfl rfl (vin (by decide) (by decide)) dX8_nextTaken_19 ?_
    refine lv_topi (fun y11 e11 => ?_)
    obtain rfl : gO 1 = y11 := e11.symm
    have g11 : 0 ≤ (gO 1).toInt ∧ (gO 1).toInt ≤ 9 := h_gO _ (by decide)
    refine lv_icmp_ne (tgt := 36) hx hb dX8_nextTaken_20 (by decide) (fun c12 => ?_) (fun c12 => ?_)
    · have t12 : (gT 1).toInt ≠ (gO 1).toInt := (tne c12)
      refine lv_iload_n hx hb dX8_nextTaken_36 rfl (lv_at hl 0 rfl) ?_
      refine lv_bipush (v := 6) hx hb dX8_nextTaken_37 (by decide) ?_
      refine lv_icmp_ge (tgt := 52) hx hb dX8_nextTaken_39 (by decide) (fun c13 => absurd c13 (by decide)) (fun c13 => ?_)
      refine lv_aload_n hx hb dX8_nextTaken_42 rfl (lv_at hl 1 rfl) ?_
      refine va_get (D := (dC, dI)) (ci := 8) (v := .ref nT) (C := RX8) (T := TX8) (N := 53) hx hb hts hin8 hown hK hP 0 rfl rfl 43 (by decide) hw0 (fun _ h9 => h9) rfl dX8_nextTaken_43 ?_
      refine lv_iload_n hx hb dX8_nextTaken_46 rfl (lv_at hl 0 rfl) ?_
      refine lv_dup2_11 hx hb dX8_nextTaken_47 rfl rfl ?_
      refine va_iald hx hb hK hP 2 0 rfl rfl (vin (by decide) (by decide)) dX8_nextTaken_48 ?_
      refine lv_topi (fun y14 e14 => ?_)
      obtain rfl : gT 1 = y14 := e14.symm
      refine lv_iconst (v := 1) hx hb dX8_nextTaken_49 (by decide) ?_
      refine lv_iadd hx hb dX8_nextTaken_50 ?_
      refine lv_topi (fun x15 e15 => ?_)
      have f15 : x15.toInt = (gT 1).toInt + (1 : Int) := by rw [e15]; exact tadd (by have t8 := tb (gT 1); have z8 : (1 : Int32).toInt = 1 := rfl; omega) (by have t8 := tb (gT 1); have z8 : (1 : Int32).toInt = 1 := rfl; omega)
      refine va_iast hx hb hK hP hD hS 2 0 rfl rfl (vin (by decide) (by decide)) dX8_nextTaken_51 (fun H locs hP hD hS => ?_)
      replace hP : va_P (dC, dI) vwCl [(n, .inr (8, [.int mleft, .int mmetres, .int mshut, .int mshield, .int mtoday, .int mbagged, .int mwarmed, .ref nW, .ref nC, .int mmeals, .ref nQ, .ref nM, .ref nD, .ref nA, .ref nK, .int msights, .ref nP, .int mpadMany, .ref nE, .ref nF, .ref nG, .int macts, .int mgusty, .int mleakAct, .int mleakMuch, .int mendOfCan, .int mbadAct, .int mbadWhy, .int mburnt, .int mboiled, .ref nH, .ref nI, .ref nJ, .ref nL, .int mhadLeft, .int mhadToday, .int mhadBagged, .int mhadWarmed, .int mleaves, .int mdayThen, .int mcoldThen, .ref nO, .int mportionMany, .ref nT, .ref nU, .int mleakMany, .int mleakActs, .ref nV, .ref nX, .ref nY, .ref nZ, .int mkeptAt, .int misWriting])), (nO, .inl (cI, 6, .inl gO)), (nT, .inl (cI, 6, .inl (upd (upd gT 0 0) 1 x15)))] H := hP
      replace hD : va_D A [(n, .inr (8, [.int mleft, .int mmetres, .int mshut, .int mshield, .int mtoday, .int mbagged, .int mwarmed, .ref nW, .ref nC, .int mmeals, .ref nQ, .ref nM, .ref nD, .ref nA, .ref nK, .int msights, .ref nP, .int mpadMany, .ref nE, .ref nF, .ref nG, .int macts, .int mgusty, .int mleakAct, .int mleakMuch, .int mendOfCan, .int mbadAct, .int mbadWhy, .int mburnt, .int mboiled, .ref nH, .ref nI, .ref nJ, .ref nL, .int mhadLeft, .int mhadToday, .int mhadBagged, .int mhadWarmed, .int mleaves, .int mdayThen, .int mcoldThen, .ref nO, .int mportionMany, .ref nT, .ref nU, .int mleakMany, .int mleakActs, .ref nV, .ref nX, .ref nY, .ref nZ, .int mkeptAt, .int misWriting])), (nO, .inl (cI, 6, .inl gO)), (nT, .inl (cI, 6, .inl (upd (upd gT 0 0) 1 x15)))] := hD
      refine lv_iload_n hx hb dX8_nextTaken_52 rfl (lv_at hl 0 rfl) ?_
      refine lv_bipush (v := 6) hx hb dX8_nextTaken_53 (by decide) ?_
      refine lv_icmp_ge (tgt := 62) hx hb dX8_nextTaken_55 (by decide) (fun c16 => absurd c16 (by decide)) (fun c16 => ?_)
      refine lv_iconst (v := 1) hx hb dX8_nextTaken_58 (by decide) ?_
      refine lv_goto (tgt := 63) hx hb dX8_nextTaken_59 (by decide) ?_
      have hP9 := mx_subP (wc := [(n, .inr (8, [.int mleft, .int mmetres, .int mshut, .int mshield, .int mtoday, .int mbagged, .int mwarmed, .ref nW, .ref nC, .int mmeals, .ref nQ, .ref nM, .ref nD, .ref nA, .ref nK, .int msights, .ref nP, .int mpadMany, .ref nE, .ref nF, .ref nG, .int macts, .int mgusty, .int mleakAct, .int mleakMuch, .int mendOfCan, .int mbadAct, .int mbadWhy, .int mburnt, .int mboiled, .ref nH, .ref nI, .ref nJ, .ref nL, .int mhadLeft, .int mhadToday, .int mhadBagged, .int mhadWarmed, .int mleaves, .int mdayThen, .int mcoldThen, .ref nO, .int mportionMany, .ref nT, .ref nU, .int mleakMany, .int mleakActs, .ref nV, .ref nX, .ref nY, .ref nZ, .int mkeptAt, .int misWriting])), (nO, .inl (cI, 6, .inl gO)), (nT, .inl (cI, 6, .inl (upd (upd gT 0 0) 1 x15)))]) hP [0, 1, 2] rfl
      have hD9 := hD.sub (ws' := [(n, .inr (8, [.int mleft, .int mmetres, .int mshut, .int mshield, .int mtoday, .int mbagged, .int mwarmed, .ref nW, .ref nC, .int mmeals, .ref nQ, .ref nM, .ref nD, .ref nA, .ref nK, .int msights, .ref nP, .int mpadMany, .ref nE, .ref nF, .ref nG, .int macts, .int mgusty, .int mleakAct, .int mleakMuch, .int mendOfCan, .int mbadAct, .int mbadWhy, .int mburnt, .int mboiled, .ref nH, .ref nI, .ref nJ, .ref nL, .int mhadLeft, .int mhadToday, .int mhadBagged, .int mhadWarmed, .int mleaves, .int mdayThen, .int mcoldThen, .ref nO, .int mportionMany, .ref nT, .ref nU, .int mleakMany, .int mleakActs, .ref nV, .ref nX, .ref nY, .ref nZ, .int mkeptAt, .int misWriting])), (nO, .inl (cI, 6, .inl gO)), (nT, .inl (cI, 6, .inl (upd (upd gT 0 0) 1 x15)))]) [0, 1, 2] (by decide) rfl
      exact W.zret (v := 1) hx hb hr rfl (fun t ht hW => ⟨⟨1, ((fun u9 => ([(upd (upd gT 0 0) 1 x15)] : List (Nat → Int32)).getD u9 (fun _ => 0)), (fun u9 => ([] : List Int32).getD u9 0), (fun u9 => ([] : List Int64).getD u9 0)), rfl, ⟨(show tkOK (upd (upd gT 0 0) 1 x15) gO from (by have z0 : (0 : Int32).toInt = 0 := rfl; exact tk_mk (show 0 ≤ (0 : Int32).toInt ∧ (0 : Int32).toInt ≤ (gO 0).toInt from by omega) (show 0 ≤ x15.toInt ∧ x15.toInt ≤ (gO 1).toInt from by omega) (show 0 ≤ (gT 2).toInt ∧ (gT 2).toInt ≤ (gO 2).toInt from by omega) (show 0 ≤ (gT 3).toInt ∧ (gT 3).toInt ≤ (gO 3).toInt from by omega) (show 0 ≤ (gT 4).toInt ∧ (gT 4).toInt ≤ (gO 4).toInt from by omega) (show 0 ≤ (gT 5).toInt ∧ (gT 5).toInt ≤ (gO 5).toInt from by omega))), (show (1 : Int32).toInt = 0 ∨ tval gT + 1 ≤ tval (upd (upd gT 0 0) 1 x15) from (Or.inr (show (gT 0).toInt + 10 * (gT 1).toInt + 100 * (gT 2).toInt + 1000 * (gT 3).toInt + 10000 * (gT 4).toInt + 100000 * (gT 5).toInt + 1 ≤ (0 : Int32).toInt + 10 * x15.toInt + 100 * (gT 2).toInt + 1000 * (gT 3).toInt + 10000 * (gT 4).toInt + 100000 * (gT 5).toInt from by have z0 : (0 : Int32).toInt = 0 := rfl; omega))), (by have z8 : (1 : Int32).toInt = 1 := rfl; omega)⟩, by rw [ht]; exact hP9, hD9⟩, hS.F ht⟩) hS.2.2 dX8_nextTaken_63
    · have t12 : (gT 1).toInt = (gO 1).toInt := (teq c12)
      refine lv_aload_n hx hb dX8_nextTaken_23 rfl (lv_at hl 1 rfl) ?_
      refine va_get (D := (dC, dI)) (ci := 8) (v := .ref nT) (C := RX8) (T := TX8) (N := 53) hx hb hts hin8 hown hK hP 0 rfl rfl 43 (by decide) hw0 (fun _ h9 => h9) rfl dX8_nextTaken_24 ?_
      refine lv_iload_n hx hb dX8_nextTaken_27 rfl (lv_at hl 0 rfl) ?_
      refine lv_iconst (v := 0) hx hb dX8_nextTaken_28 (by decide) ?_
      refine va_iast hx hb hK hP hD hS 2 0 rfl rfl (vin (by decide) (by decide)) dX8_nextTaken_29 (fun H locs hP hD hS => ?_)
      replace hP : va_P (dC, dI) vwCl [(n, .inr (8, [.int mleft, .int mmetres, .int mshut, .int mshield, .int mtoday, .int mbagged, .int mwarmed, .ref nW, .ref nC, .int mmeals, .ref nQ, .ref nM, .ref nD, .ref nA, .ref nK, .int msights, .ref nP, .int mpadMany, .ref nE, .ref nF, .ref nG, .int macts, .int mgusty, .int mleakAct, .int mleakMuch, .int mendOfCan, .int mbadAct, .int mbadWhy, .int mburnt, .int mboiled, .ref nH, .ref nI, .ref nJ, .ref nL, .int mhadLeft, .int mhadToday, .int mhadBagged, .int mhadWarmed, .int mleaves, .int mdayThen, .int mcoldThen, .ref nO, .int mportionMany, .ref nT, .ref nU, .int mleakMany, .int mleakActs, .ref nV, .ref nX, .ref nY, .ref nZ, .int mkeptAt, .int misWriting])), (nO, .inl (cI, 6, .inl gO)), (nT, .inl (cI, 6, .inl (upd (upd gT 0 0) 1 0)))] H := hP
      replace hD : va_D A [(n, .inr (8, [.int mleft, .int mmetres, .int mshut, .int mshield, .int mtoday, .int mbagged, .int mwarmed, .ref nW, .ref nC, .int mmeals, .ref nQ, .ref nM, .ref nD, .ref nA, .ref nK, .int msights, .ref nP, .int mpadMany, .ref nE, .ref nF, .ref nG, .int macts, .int mgusty, .int mleakAct, .int mleakMuch, .int mendOfCan, .int mbadAct, .int mbadWhy, .int mburnt, .int mboiled, .ref nH, .ref nI, .ref nJ, .ref nL, .int mhadLeft, .int mhadToday, .int mhadBagged, .int mhadWarmed, .int mleaves, .int mdayThen, .int mcoldThen, .ref nO, .int mportionMany, .ref nT, .ref nU, .int mleakMany, .int mleakActs, .ref nV, .ref nX, .ref nY, .ref nZ, .int mkeptAt, .int misWriting])), (nO, .inl (cI, 6, .inl gO)), (nT, .inl (cI, 6, .inl (upd (upd gT 0 0) 1 0)))] := hD
      refine lv_iinc (v := 2) (lv' := [(1, .int 2), (0, .ref n)]) hx hb dX8_nextTaken_30 hl (k := 0) rfl (by decide) (by decide) rfl (fun ls hl => ?_)
      refine lv_goto (tgt := 2) hx hb dX8_nextTaken_33 (by decide) ?_
      refine lv_iload_n hx hb dX8_nextTaken_2 rfl (lv_at hl 0 rfl) ?_
      refine lv_bipush (v := 6) hx hb dX8_nextTaken_3 (by decide) ?_
      refine lv_icmp_ge (tgt := 36) hx hb dX8_nextTaken_5 (by decide) (fun c17 => absurd c17 (by decide)) (fun c17 => ?_)
      refine lv_aload_n hx hb dX8_nextTaken_8 rfl (lv_at hl 1 rfl) ?_
      refine va_get (D := (dC, dI)) (ci := 8) (v := .ref nT) (C := RX8) (T := TX8) (N := 53) hx hb hts hin8 hown hK hP 0 rfl rfl 43 (by decide) hw0 (fun _ h9 => h9) rfl dX8_nextTaken_9 ?_
      refine lv_iload_n hx hb dX8_nextTaken_12 rfl (lv_at hl 0 rfl) ?_
      refine va_iald hx hb hK hP 2 0 rfl rfl (vin (by decide) (by decide)) dX8_nextTaken_13 ?_
      refine lv_topi (fun y18 e18 => ?_)
      obtain rfl : gT 2 = y18 := e18.symm
      refine lv_aload_n hx hb dX8_nextTaken_14 rfl (lv_at hl 1 rfl) ?_
      refine va_get (D := (dC, dI)) (ci := 8) (v := .ref nO) (C := RX8) (T := TX8) (N := 53) hx hb hts hin8 hown hK hP 0 rfl rfl 41 (by decide) hw1 (fun _ h9 => h9) rfl dX8_nextTaken_15 ?_
      refine lv_iload_n hx hb dX8_nextTaken_18 rfl (lv_at hl 0 rfl) ?_
      refine va_iald hx hb hK hP 1 0 rfl rfl (vin (by decide) (by decide)) dX8_nextTaken_19 ?_
      refine lv_topi (fun y19 e19 => ?_)
      obtain rfl : gO 2 = y19 := e19.symm
      have g19 : 0 ≤ (gO 2).toInt ∧ (gO 2).toInt ≤ 9 := h_gO _ (by decide)
      refine lv_icmp_ne (tgt := 36) hx hb dX8_nextTaken_20 (by decide) (fun c20 => ?_) (fun c20 => ?_)
      · have t20 : (gT 2).toInt ≠ (gO 2).toInt := (tne c20)
        refine lv_iload_n hx hb dX8_nextTaken_36 rfl (lv_at hl 0 rfl) ?_
        refine lv_bipush (v := 6) hx hb dX8_nextTaken_37 (by decide) ?_
        refine lv_icmp_ge (tgt := 52) hx hb dX8_nextTaken_39 (by decide) (fun c21 => absurd c21 (by decide)) (fun c21 => ?_)
        refine lv_aload_n hx hb dX8_nextTaken_42 rfl (lv_at hl 1 rfl) ?_
        refine va_get (D := (dC, dI)) (ci := 8) (v := .ref nT) (C := RX8) (T := TX8) (N := 53) hx hb hts hin8 hown hK hP 0 rfl rfl 43 (by decide) hw0 (fun _ h9 => h9) rfl dX8_nextTaken_43 ?_
        refine lv_iload_n hx hb dX8_nextTaken_46 rfl (lv_at hl 0 rfl) ?_
        refine lv_dup2_11 hx hb dX8_nextTaken_47 rfl rfl ?_
        refine va_iald hx hb hK hP 2 0 rfl rfl (vin (by decide) (by decide)) dX8_nextTaken_48 ?_
        refine lv_topi (fun y22 e22 => ?_)
        obtain rfl : gT 2 = y22 := e22.symm
        refine lv_iconst (v := 1) hx hb dX8_nextTaken_49 (by decide) ?_
        refine lv_iadd hx hb dX8_nextTaken_50 ?_
        refine lv_topi (fun x23 e23 => ?_)
        have f23 : x23.toInt = (gT 2).toInt + (1 : Int) := by rw [e23]; exact tadd (by have t8 := tb (gT 2); have z8 : (1 : Int32).toInt = 1 := rfl; omega) (by have t8 := tb (gT 2); have z8 : (1 : Int32).toInt = 1 := rfl; omega)
        refine va_iast hx hb hK hP hD hS 2 0 rfl rfl (vin (by decide) (by decide)) dX8_nextTaken_51 (fun H locs hP hD hS => ?_)
        replace hP : va_P (dC, dI) vwCl [(n, .inr (8, [.int mleft, .int mmetres, .int mshut, .int mshield, .int mtoday, .int mbagged, .int mwarmed, .ref nW, .ref nC, .int mmeals, .ref nQ, .ref nM, .ref nD, .ref nA, .ref nK, .int msights, .ref nP, .int mpadMany, .ref nE, .ref nF, .ref nG, .int macts, .int mgusty, .int mleakAct, .int mleakMuch, .int mendOfCan, .int mbadAct, .int mbadWhy, .int mburnt, .int mboiled, .ref nH, .ref nI, .ref nJ, .ref nL, .int mhadLeft, .int mhadToday, .int mhadBagged, .int mhadWarmed, .int mleaves, .int mdayThen, .int mcoldThen, .ref nO, .int mportionMany, .ref nT, .ref nU, .int mleakMany, .int mleakActs, .ref nV, .ref nX, .ref nY, .ref nZ, .int mkeptAt, .int misWriting])), (nO, .inl (cI, 6, .inl gO)), (nT, .inl (cI, 6, .inl (upd (upd (upd gT 0 0) 1 0) 2 x23)))] H := hP
        replace hD : va_D A [(n, .inr (8, [.int mleft, .int mmetres, .int mshut, .int mshield, .int mtoday, .int mbagged, .int mwarmed, .ref nW, .ref nC, .int mmeals, .ref nQ, .ref nM, .ref nD, .ref nA, .ref nK, .int msights, .ref nP, .int mpadMany, .ref nE, .ref nF, .ref nG, .int macts, .int mgusty, .int mleakAct, .int mleakMuch, .int mendOfCan, .int mbadAct, .int mbadWhy, .int mburnt, .int mboiled, .ref nH, .ref nI, .ref nJ, .ref nL, .int mhadLeft, .int mhadToday, .int mhadBagged, .int mhadWarmed, .int mleaves, .int mdayThen, .int mcoldThen, .ref nO, .int mportionMany, .ref nT, .ref nU, .int mleakMany, .int mleakActs, .ref nV, .ref nX, .ref nY, .ref nZ, .int mkeptAt, .int misWriting])), (nO, .inl (cI, 6, .inl gO)), (nT, .inl (cI, 6, .inl (upd (upd (upd gT 0 0) 1 0) 2 x23)))] := hD
        refine lv_iload_n hx hb dX8_nextTaken_52 rfl (lv_at hl 0 rfl) ?_
        refine lv_bipush (v := 6) hx hb dX8_nextTaken_53 (by decide) ?_
        refine lv_icmp_ge (tgt := 62) hx hb dX8_nextTaken_55 (by decide) (fun c24 => absurd c24 (by decide)) (fun c24 => ?_)
        refine lv_iconst (v := 1) hx hb dX8_nextTaken_58 (by decide) ?_
        refine lv_goto (tgt := 63) hx hb dX8_nextTaken_59 (by decide) ?_
        have hP9 := mx_subP (wc := [(n, .inr (8, [.int mleft, .int mmetres, .int mshut, .int mshield, .int mtoday, .int mbagged, .int mwarmed, .ref nW, .ref nC, .int mmeals, .ref nQ, .ref nM, .ref nD, .ref nA, .ref nK, .int msights, .ref nP, .int mpadMany, .ref nE, .ref nF, .ref nG, .int macts, .int mgusty, .int mleakAct, .int mleakMuch, .int mendOfCan, .int mbadAct, .int mbadWhy, .int mburnt, .int mboiled, .ref nH, .ref nI, .ref nJ, .ref nL, .int mhadLeft, .int mhadToday, .int mhadBagged, .int mhadWarmed, .int mleaves, .int mdayThen, .int mcoldThen, .ref nO, .int mportionMany, .ref nT, .ref nU, .int mleakMany, .int mleakActs, .ref nV, .ref nX, .ref nY, .ref nZ, .int mkeptAt, .int misWriting])), (nO, .inl (cI, 6, .inl gO)), (nT, .inl (cI, 6, .inl (upd (upd (upd gT 0 0) 1 0) 2 x23)))]) hP [0, 1, 2] rfl
        have hD9 := hD.sub (ws' := [(n, .inr (8, [.int mleft, .int mmetres, .int mshut, .int mshield, .int mtoday, .int mbagged, .int mwarmed, .ref nW, .ref nC, .int mmeals, .ref nQ, .ref nM, .ref nD, .ref nA, .ref nK, .int msights, .ref nP, .int mpadMany, .ref nE, .ref nF, .ref nG, .int macts, .int mgusty, .int mleakAct, .int mleakMuch, .int mendOfCan, .int mbadAct, .int mbadWhy, .int mburnt, .int mboiled, .ref nH, .ref nI, .ref nJ, .ref nL, .int mhadLeft, .int mhadToday, .int mhadBagged, .int mhadWarmed, .int mleaves, .int mdayThen, .int mcoldThen, .ref nO, .int mportionMany, .ref nT, .ref nU, .int mleakMany, .int mleakActs, .ref nV, .ref nX, .ref nY, .ref nZ, .int mkeptAt, .int misWriting])), (nO, .inl (cI, 6, .inl gO)), (nT, .inl (cI, 6, .inl (upd (upd (upd gT 0 0) 1 0) 2 x23)))]) [0, 1, 2] (by decide) rfl
        exact W.zret (v := 1) hx hb hr rfl (fun t ht hW => ⟨⟨1, ((fun u9 => ([(upd (upd (upd gT 0 0) 1 0) 2 x23)] : List (Nat → Int32)).getD u9 (fun _ => 0)), (fun u9 => ([] : List Int32).getD u9 0), (fun u9 => ([] : List Int64).getD u9 0)), rfl, ⟨(show tkOK (upd (upd (upd gT 0 0) 1 0) 2 x23) gO from (by have z0 : (0 : Int32).toInt = 0 := rfl; exact tk_mk (show 0 ≤ (0 : Int32).toInt ∧ (0 : Int32).toInt ≤ (gO 0).toInt from by omega) (show 0 ≤ (0 : Int32).toInt ∧ (0 : Int32).toInt ≤ (gO 1).toInt from by omega) (show 0 ≤ x23.toInt ∧ x23.toInt ≤ (gO 2).toInt from by omega) (show 0 ≤ (gT 3).toInt ∧ (gT 3).toInt ≤ (gO 3).toInt from by omega) (show 0 ≤ (gT 4).toInt ∧ (gT 4).toInt ≤ (gO 4).toInt from by omega) (show 0 ≤ (gT 5).toInt ∧ (gT 5).toInt ≤ (gO 5).toInt from by omega))), (show (1 : Int32).toInt = 0 ∨ tval gT + 1 ≤ tval (upd (upd (upd gT 0 0) 1 0) 2 x23) from (Or.inr (show (gT 0).toInt + 10 * (gT 1).toInt + 100 * (gT 2).toInt + 1000 * (gT 3).toInt + 10000 * (gT 4).toInt + 100000 * (gT 5).toInt + 1 ≤ (0 : Int32).toInt + 10 * (0 : Int32).toInt + 100 * x23.toInt + 1000 * (gT 3).toInt + 10000 * (gT 4).toInt + 100000 * (gT 5).toInt from by have z0 : (0 : Int32).toInt = 0 := rfl; omega))), (by have z8 : (1 : Int32).toInt = 1 := rfl; omega)⟩, by rw [ht]; exact hP9, hD9⟩, hS.F ht⟩) hS.2.2 dX8_nextTaken_63
      · have t20 : (gT 2).toInt = (gO 2).toInt := (teq c20)
        refine lv_aload_n hx hb dX8_nextTaken_23 rfl (lv_at hl 1 rfl) ?_
        refine va_get (D := (dC, dI)) (ci := 8) (v := .ref nT) (C := RX8) (T := TX8) (N := 53) hx hb hts hin8 hown hK hP 0 rfl rfl 43 (by decide) hw0 (fun _ h9 => h9) rfl dX8_nextTaken_24 ?_
        refine lv_iload_n hx hb dX8_nextTaken_27 rfl (lv_at hl 0 rfl) ?_
        refine lv_iconst (v := 0) hx hb dX8_nextTaken_28 (by decide) ?_
        refine va_iast hx hb hK hP hD hS 2 0 rfl rfl (vin (by decide) (by decide)) dX8_nextTaken_29 (fun H locs hP hD hS => ?_)
        replace hP : va_P (dC, dI) vwCl [(n, .inr (8, [.int mleft, .int mmetres, .int mshut, .int mshield, .int mtoday, .int mbagged, .int mwarmed, .ref nW, .ref nC, .int mmeals, .ref nQ, .ref nM, .ref nD, .ref nA, .ref nK, .int msights, .ref nP, .int mpadMany, .ref nE, .ref nF, .ref nG, .int macts, .int mgusty, .int mleakAct, .int mleakMuch, .int mendOfCan, .int mbadAct, .int mbadWhy, .int mburnt, .int mboiled, .ref nH, .ref nI, .ref nJ, .ref nL, .int mhadLeft, .int mhadToday, .int mhadBagged, .int mhadWarmed, .int mleaves, .int mdayThen, .int mcoldThen, .ref nO, .int mportionMany, .ref nT, .ref nU, .int mleakMany, .int mleakActs, .ref nV, .ref nX, .ref nY, .ref nZ, .int mkeptAt, .int misWriting])), (nO, .inl (cI, 6, .inl gO)), (nT, .inl (cI, 6, .inl (upd (upd (upd gT 0 0) 1 0) 2 0)))] H := hP
        replace hD : va_D A [(n, .inr (8, [.int mleft, .int mmetres, .int mshut, .int mshield, .int mtoday, .int mbagged, .int mwarmed, .ref nW, .ref nC, .int mmeals, .ref nQ, .ref nM, .ref nD, .ref nA, .ref nK, .int msights, .ref nP, .int mpadMany, .ref nE, .ref nF, .ref nG, .int macts, .int mgusty, .int mleakAct, .int mleakMuch, .int mendOfCan, .int mbadAct, .int mbadWhy, .int mburnt, .int mboiled, .ref nH, .ref nI, .ref nJ, .ref nL, .int mhadLeft, .int mhadToday, .int mhadBagged, .int mhadWarmed, .int mleaves, .int mdayThen, .int mcoldThen, .ref nO, .int mportionMany, .ref nT, .ref nU, .int mleakMany, .int mleakActs, .ref nV, .ref nX, .ref nY, .ref nZ, .int mkeptAt, .int misWriting])), (nO, .inl (cI, 6, .inl gO)), (nT, .inl (cI, 6, .inl (upd (upd (upd gT 0 0) 1 0) 2 0)))] := hD
        refine lv_iinc (v := 3) (lv' := [(1, .int 3), (0, .ref n)]) hx hb dX8_nextTaken_30 hl (k := 0) rfl (by decide) (by decide) rfl (fun ls hl => ?_)
        refine lv_goto (tgt := 2) hx hb dX8_nextTaken_33 (by decide) ?_
        refine lv_iload_n hx hb dX8_nextTaken_2 rfl (lv_at hl 0 rfl) ?_
        refine lv_bipush (v := 6) hx hb dX8_nextTaken_3 (by decide) ?_
        refine lv_icmp_ge (tgt := 36) hx hb dX8_nextTaken_5 (by decide) (fun c25 => absurd c25 (by decide)) (fun c25 => ?_)
        refine lv_aload_n hx hb dX8_nextTaken_8 rfl (lv_at hl 1 rfl) ?_
        refine va_get (D := (dC, dI)) (ci := 8) (v := .ref nT) (C := RX8) (T := TX8) (N := 53) hx hb hts hin8 hown hK hP 0 rfl rfl 43 (by decide) hw0 (fun _ h9 => h9) rfl dX8_nextTaken_9 ?_
        refine lv_iload_n hx hb dX8_nextTaken_12 rfl (lv_at hl 0 rfl) ?_
        refine va_iald hx hb hK hP 2 0 rfl rfl (vin (by decide) (by decide)) dX8_nextTaken_13 ?_
        refine lv_topi (fun y26 e26 => ?_)
        obtain rfl : gT 3 = y26 := e26.symm
        refine lv_aload_n hx hb dX8_nextTaken_14 rfl (lv_at hl 1 rfl) ?_
        refine va_get (D := (dC, dI)) (ci := 8) (v := .ref nO) (C := RX8) (T := TX8) (N := 53) hx hb hts hin8 hown hK hP 0 rfl rfl 41 (by decide) hw1 (fun _ h9 => h9) rfl dX8_nextTaken_15 ?_
        refine lv_iload_n hx hb dX8_nextTaken_18 rfl (lv_at hl 0 rfl) ?_
        refine va_iald hx hb hK hP 1 0 rfl rfl (vin (by decide) (by decide)) dX8_nextTaken_19 ?_
        refine lv_topi (fun y27 e27 => ?_)
        obtain rfl : gO 3 = y27 := e27.symm
        have g27 : 0 ≤ (gO 3).toInt ∧ (gO 3).toInt ≤ 9 := h_gO _ (by decide)
        refine lv_icmp_ne (tgt := 36) hx hb dX8_nextTaken_20 (by decide) (fun c28 => ?_) (fun c28 => ?_)
        · have t28 : (gT 3).toInt ≠ (gO 3).toInt := (tne c28)
          refine lv_iload_n hx hb dX8_nextTaken_36 rfl (lv_at hl 0 rfl) ?_
          refine lv_bipush (v := 6) hx hb dX8_nextTaken_37 (by decide) ?_
          refine lv_icmp_ge (tgt := 52) hx hb dX8_nextTaken_39 (by decide) (fun c29 => absurd c29 (by decide)) (fun c29 => ?_)
          refine lv_aload_n hx hb dX8_nextTaken_42 rfl (lv_at hl 1 rfl) ?_
          refine va_get (D := (dC, dI)) (ci := 8) (v := .ref nT) (C := RX8) (T := TX8) (N := 53) hx hb hts hin8 hown hK hP 0 rfl rfl 43 (by decide) hw0 (fun _ h9 => h9) rfl dX8_nextTaken_43 ?_
          refine lv_iload_n hx hb dX8_nextTaken_46 rfl (lv_at hl 0 rfl) ?_
          refine lv_dup2_11 hx hb dX8_nextTaken_47 rfl rfl ?_
          refine va_iald hx hb hK hP 2 0 rfl rfl (vin (by decide) (by decide)) dX8_nextTaken_48 ?_
          refine lv_topi (fun y30 e30 => ?_)
          obtain rfl : gT 3 = y30 := e30.symm
          refine lv_iconst (v := 1) hx hb dX8_nextTaken_49 (by decide) ?_
          refine lv_iadd hx hb dX8_nextTaken_50 ?_
          refine lv_topi (fun x31 e31 => ?_)
          have f31 : x31.toInt = (gT 3).toInt + (1 : Int) := by rw [e31]; exact tadd (by have t8 := tb (gT 3); have z8 : (1 : Int32).toInt = 1 := rfl; omega) (by have t8 := tb (gT 3); have z8 : (1 : Int32).toInt = 1 := rfl; omega)
          refine va_iast hx hb hK hP hD hS 2 0 rfl rfl (vin (by decide) (by decide)) dX8_nextTaken_51 (fun H locs hP hD hS => ?_)
          replace hP : va_P (dC, dI) vwCl [(n, .inr (8, [.int mleft, .int mmetres, .int mshut, .int mshield, .int mtoday, .int mbagged, .int mwarmed, .ref nW, .ref nC, .int mmeals, .ref nQ, .ref nM, .ref nD, .ref nA, .ref nK, .int msights, .ref nP, .int mpadMany, .ref nE, .ref nF, .ref nG, .int macts, .int mgusty, .int mleakAct, .int mleakMuch, .int mendOfCan, .int mbadAct, .int mbadWhy, .int mburnt, .int mboiled, .ref nH, .ref nI, .ref nJ, .ref nL, .int mhadLeft, .int mhadToday, .int mhadBagged, .int mhadWarmed, .int mleaves, .int mdayThen, .int mcoldThen, .ref nO, .int mportionMany, .ref nT, .ref nU, .int mleakMany, .int mleakActs, .ref nV, .ref nX, .ref nY, .ref nZ, .int mkeptAt, .int misWriting])), (nO, .inl (cI, 6, .inl gO)), (nT, .inl (cI, 6, .inl (upd (upd (upd (upd gT 0 0) 1 0) 2 0) 3 x31)))] H := hP
          replace hD : va_D A [(n, .inr (8, [.int mleft, .int mmetres, .int mshut, .int mshield, .int mtoday, .int mbagged, .int mwarmed, .ref nW, .ref nC, .int mmeals, .ref nQ, .ref nM, .ref nD, .ref nA, .ref nK, .int msights, .ref nP, .int mpadMany, .ref nE, .ref nF, .ref nG, .int macts, .int mgusty, .int mleakAct, .int mleakMuch, .int mendOfCan, .int mbadAct, .int mbadWhy, .int mburnt, .int mboiled, .ref nH, .ref nI, .ref nJ, .ref nL, .int mhadLeft, .int mhadToday, .int mhadBagged, .int mhadWarmed, .int mleaves, .int mdayThen, .int mcoldThen, .ref nO, .int mportionMany, .ref nT, .ref nU, .int mleakMany, .int mleakActs, .ref nV, .ref nX, .ref nY, .ref nZ, .int mkeptAt, .int misWriting])), (nO, .inl (cI, 6, .inl gO)), (nT, .inl (cI, 6, .inl (upd (upd (upd (upd gT 0 0) 1 0) 2 0) 3 x31)))] := hD
          refine lv_iload_n hx hb dX8_nextTaken_52 rfl (lv_at hl 0 rfl) ?_
          refine lv_bipush (v := 6) hx hb dX8_nextTaken_53 (by decide) ?_
          refine lv_icmp_ge (tgt := 62) hx hb dX8_nextTaken_55 (by decide) (fun c32 => absurd c32 (by decide)) (fun c32 => ?_)
          refine lv_iconst (v := 1) hx hb dX8_nextTaken_58 (by decide) ?_
          refine lv_goto (tgt := 63) hx hb dX8_nextTaken_59 (by decide) ?_
          have hP9 := mx_subP (wc := [(n, .inr (8, [.int mleft, .int mmetres, .int mshut, .int mshield, .int mtoday, .int mbagged, .int mwarmed, .ref nW, .ref nC, .int mmeals, .ref nQ, .ref nM, .ref nD, .ref nA, .ref nK, .int msights, .ref nP, .int mpadMany, .ref nE, .ref nF, .ref nG, .int macts, .int mgusty, .int mleakAct, .int mleakMuch, .int mendOfCan, .int mbadAct, .int mbadWhy, .int mburnt, .int mboiled, .ref nH, .ref nI, .ref nJ, .ref nL, .int mhadLeft, .int mhadToday, .int mhadBagged, .int mhadWarmed, .int mleaves, .int mdayThen, .int mcoldThen, .ref nO, .int mportionMany, .ref nT, .ref nU, .int mleakMany, .int mleakActs, .ref nV, .ref nX, .ref nY, .ref nZ, .int mkeptAt, .int misWriting])), (nO, .inl (cI, 6, .inl gO)), (nT, .inl (cI, 6, .inl (upd (upd (upd (upd gT 0 0) 1 0) 2 0) 3 x31)))]) hP [0, 1, 2] rfl
          have hD9 := hD.sub (ws' := [(n, .inr (8, [.int mleft, .int mmetres, .int mshut, .int mshield, .int mtoday, .int mbagged, .int mwarmed, .ref nW, .ref nC, .int mmeals, .ref nQ, .ref nM, .ref nD, .ref nA, .ref nK, .int msights, .ref nP, .int mpadMany, .ref nE, .ref nF, .ref nG, .int macts, .int mgusty, .int mleakAct, .int mleakMuch, .int mendOfCan, .int mbadAct, .int mbadWhy, .int mburnt, .int mboiled, .ref nH, .ref nI, .ref nJ, .ref nL, .int mhadLeft, .int mhadToday, .int mhadBagged, .int mhadWarmed, .int mleaves, .int mdayThen, .int mcoldThen, .ref nO, .int mportionMany, .ref nT, .ref nU, .int mleakMany, .int mleakActs, .ref nV, .ref nX, .ref nY, .ref nZ, .int mkeptAt, .int misWriting])), (nO, .inl (cI, 6, .inl gO)), (nT, .inl (cI, 6, .inl (upd (upd (upd (upd gT 0 0) 1 0) 2 0) 3 x31)))]) [0, 1, 2] (by decide) rfl
          exact W.zret (v := 1) hx hb hr rfl (fun t ht hW => ⟨⟨1, ((fun u9 => ([(upd (upd (upd (upd gT 0 0) 1 0) 2 0) 3 x31)] : List (Nat → Int32)).getD u9 (fun _ => 0)), (fun u9 => ([] : List Int32).getD u9 0), (fun u9 => ([] : List Int64).getD u9 0)), rfl, ⟨(show tkOK (upd (upd (upd (upd gT 0 0) 1 0) 2 0) 3 x31) gO from (by have z0 : (0 : Int32).toInt = 0 := rfl; exact tk_mk (show 0 ≤ (0 : Int32).toInt ∧ (0 : Int32).toInt ≤ (gO 0).toInt from by omega) (show 0 ≤ (0 : Int32).toInt ∧ (0 : Int32).toInt ≤ (gO 1).toInt from by omega) (show 0 ≤ (0 : Int32).toInt ∧ (0 : Int32).toInt ≤ (gO 2).toInt from by omega) (show 0 ≤ x31.toInt ∧ x31.toInt ≤ (gO 3).toInt from by omega) (show 0 ≤ (gT 4).toInt ∧ (gT 4).toInt ≤ (gO 4).toInt from by omega) (show 0 ≤ (gT 5).toInt ∧ (gT 5).toInt ≤ (gO 5).toInt from by omega))), (show (1 : Int32).toInt = 0 ∨ tval gT + 1 ≤ tval (upd (upd (upd (upd gT 0 0) 1 0) 2 0) 3 x31) from (Or.inr (show (gT 0).toInt + 10 * (gT 1).toInt + 100 * (gT 2).toInt + 1000 * (gT 3).toInt + 10000 * (gT 4).toInt + 100000 * (gT 5).toInt + 1 ≤ (0 : Int32).toInt + 10 * (0 : Int32).toInt + 100 * (0 : Int32).toInt + 1000 * x31.toInt + 10000 * (gT 4).toInt + 100000 * (gT 5).toInt from by have z0 : (0 : Int32).toInt = 0 := rfl; omega))), (by have z8 : (1 : Int32).toInt = 1 := rfl; omega)⟩, by rw [ht]; exact hP9, hD9⟩, hS.F ht⟩) hS.2.2 dX8_nextTaken_63
        · have t28 : (gT 3).toInt = (gO 3).toInt := (teq c28)
          refine lv_aload_n hx hb dX8_nextTaken_23 rfl (lv_at hl 1 rfl) ?_
          refine va_get (D := (dC, dI)) (ci := 8) (v := .ref nT) (C := RX8) (T := TX8) (N := 53) hx hb hts hin8 hown hK hP 0 rfl rfl 43 (by decide) hw0 (fun _ h9 => h9) rfl dX8_nextTaken_24 ?_
          refine lv_iload_n hx hb dX8_nextTaken_27 rfl (lv_at hl 0 rfl) ?_
          refine lv_iconst (v := 0) hx hb dX8_nextTaken_28 (by decide) ?_
          refine va_iast hx hb hK hP hD hS 2 0 rfl rfl (vin (by decide) (by decide)) dX8_nextTaken_29 (fun H locs hP hD hS => ?_)
          replace hP : va_P (dC, dI) vwCl [(n, .inr (8, [.int mleft, .int mmetres, .int mshut, .int mshield, .int mtoday, .int mbagged, .int mwarmed, .ref nW, .ref nC, .int mmeals, .ref nQ, .ref nM, .ref nD, .ref nA, .ref nK, .int msights, .ref nP, .int mpadMany, .ref nE, .ref nF, .ref nG, .int macts, .int mgusty, .int mleakAct, .int mleakMuch, .int mendOfCan, .int mbadAct, .int mbadWhy, .int mburnt, .int mboiled, .ref nH, .ref nI, .ref nJ, .ref nL, .int mhadLeft, .int mhadToday, .int mhadBagged, .int mhadWarmed, .int mleaves, .int mdayThen, .int mcoldThen, .ref nO, .int mportionMany, .ref nT, .ref nU, .int mleakMany, .int mleakActs, .ref nV, .ref nX, .ref nY, .ref nZ, .int mkeptAt, .int misWriting])), (nO, .inl (cI, 6, .inl gO)), (nT, .inl (cI, 6, .inl (upd (upd (upd (upd gT 0 0) 1 0) 2 0) 3 0)))] H := hP
          replace hD : va_D A [(n, .inr (8, [.int mleft, .int mmetres, .int mshut, .int mshield, .int mtoday, .int mbagged, .int mwarmed, .ref nW, .ref nC, .int mmeals, .ref nQ, .ref nM, .ref nD, .ref nA, .ref nK, .int msights, .ref nP, .int mpadMany, .ref nE, .ref nF, .ref nG, .int macts, .int mgusty, .int mleakAct, .int mleakMuch, .int mendOfCan, .int mbadAct, .int mbadWhy, .int mburnt, .int mboiled, .ref nH, .ref nI, .ref nJ, .ref nL, .int mhadLeft, .int mhadToday, .int mhadBagged, .int mhadWarmed, .int mleaves, .int mdayThen, .int mcoldThen, .ref nO, .int mportionMany, .ref nT, .ref nU, .int mleakMany, .int mleakActs, .ref nV, .ref nX, .ref nY, .ref nZ, .int mkeptAt, .int misWriting])), (nO, .inl (cI, 6, .inl gO)), (nT, .inl (cI, 6, .inl (upd (upd (upd (upd gT 0 0) 1 0) 2 0) 3 0)))] := hD
          refine lv_iinc (v := 4) (lv' := [(1, .int 4), (0, .ref n)]) hx hb dX8_nextTaken_30 hl (k := 0) rfl (by decide) (by decide) rfl (fun ls hl => ?_)
          refine lv_goto (tgt := 2) hx hb dX8_nextTaken_33 (by decide) ?_
          refine lv_iload_n hx hb dX8_nextTaken_2 rfl (lv_at hl 0 rfl) ?_
          refine lv_bipush (v := 6) hx hb dX8_nextTaken_3 (by decide) ?_
          refine lv_icmp_ge (tgt := 36) hx hb dX8_nextTaken_5 (by decide) (fun c33 => absurd c33 (by decide)) (fun c33 => ?_)
          refine lv_aload_n hx hb dX8_nextTaken_8 rfl (lv_at hl 1 rfl) ?_
          refine va_get (D := (dC, dI)) (ci := 8) (v := .ref nT) (C := RX8) (T := TX8) (N := 53) hx hb hts hin8 hown hK hP 0 rfl rfl 43 (by decide) hw0 (fun _ h9 => h9) rfl dX8_nextTaken_9 ?_
          refine lv_iload_n hx hb dX8_nextTaken_12 rfl (lv_at hl 0 rfl) ?_
          refine va_iald hx hb hK hP 2 0 rfl rfl (vin (by decide) (by decide)) dX8_nextTaken_13 ?_
          refine lv_topi (fun y34 e34 => ?_)
          obtain rfl : gT 4 = y34 := e34.symm
          refine lv_aload_n hx hb dX8_nextTaken_14 rfl (lv_at hl 1 rfl) ?_
          refine va_get (D := (dC, dI)) (ci := 8) (v := .ref nO) (C := RX8) (T := TX8) (N := 53) hx hb hts hin8 hown hK hP 0 rfl rfl 41 (by decide) hw1 (fun _ h9 => h9) rfl dX8_nextTaken_15 ?_
          refine lv_iload_n hx hb dX8_nextTaken_18 rfl (lv_at hl 0 rfl) ?_
          refine va_iald hx hb hK hP 1 0 rfl rfl (vin (by decide) (by decide)) dX8_nextTaken_19 ?_
          refine lv_topi (fun y35 e35 => ?_)
          obtain rfl : gO 4 = y35 := e35.symm
          have g35 : 0 ≤ (gO 4).toInt ∧ (gO 4).toInt ≤ 9 := h_gO _ (by decide)
          refine lv_icmp_ne (tgt := 36) hx hb dX8_nextTaken_20 (by decide) (fun c36 => ?_) (fun c36 => ?_)
          · have t36 : (gT 4).toInt ≠ (gO 4).toInt := (tne c36)
            refine lv_iload_n hx hb dX8_nextTaken_36 rfl (lv_at hl 0 rfl) ?_
            refine lv_bipush (v := 6) hx hb dX8_nextTaken_37 (by decide) ?_
            refine lv_icmp_ge (tgt := 52) hx hb dX8_nextTaken_39 (by decide) (fun c37 => absurd c37 (by decide)) (fun c37 => ?_)
            refine lv_aload_n hx hb dX8_nextTaken_42 rfl (lv_at hl 1 rfl) ?_
            refine va_get (D := (dC, dI)) (ci := 8) (v := .ref nT) (C := RX8) (T := TX8) (N := 53) hx hb hts hin8 hown hK hP 0 rfl rfl 43 (by decide) hw0 (fun _ h9 => h9) rfl dX8_nextTaken_43 ?_
            refine lv_iload_n hx hb dX8_nextTaken_46 rfl (lv_at hl 0 rfl) ?_
            refine lv_dup2_11 hx hb dX8_nextTaken_47 rfl rfl ?_
            refine va_iald hx hb hK hP 2 0 rfl rfl (vin (by decide) (by decide)) dX8_nextTaken_48 ?_
            refine lv_topi (fun y38 e38 => ?_)
            obtain rfl : gT 4 = y38 := e38.symm
            refine lv_iconst (v := 1) hx hb dX8_nextTaken_49 (by decide) ?_
            refine lv_iadd hx hb dX8_nextTaken_50 ?_
            refine lv_topi (fun x39 e39 => ?_)
            have f39 : x39.toInt = (gT 4).toInt + (1 : Int) := by rw [e39]; exact tadd (by have t8 := tb (gT 4); have z8 : (1 : Int32).toInt = 1 := rfl; omega) (by have t8 := tb (gT 4); have z8 : (1 : Int32).toInt = 1 := rfl; omega)
            refine va_iast hx hb hK hP hD hS 2 0 rfl rfl (vin (by decide) (by decide)) dX8_nextTaken_51 (fun H locs hP hD hS => ?_)
            replace hP : va_P (dC, dI) vwCl [(n, .inr (8, [.int mleft, .int mmetres, .int mshut, .int mshield, .int mtoday, .int mbagged, .int mwarmed, .ref nW, .ref nC, .int mmeals, .ref nQ, .ref nM, .ref nD, .ref nA, .ref nK, .int msights, .ref nP, .int mpadMany, .ref nE, .ref nF, .ref nG, .int macts, .int mgusty, .int mleakAct, .int mleakMuch, .int mendOfCan, .int mbadAct, .int mbadWhy, .int mburnt, .int mboiled, .ref nH, .ref nI, .ref nJ, .ref nL, .int mhadLeft, .int mhadToday, .int mhadBagged, .int mhadWarmed, .int mleaves, .int mdayThen, .int mcoldThen, .ref nO, .int mportionMany, .ref nT, .ref nU, .int mleakMany, .int mleakActs, .ref nV, .ref nX, .ref nY, .ref nZ, .int mkeptAt, .int misWriting])), (nO, .inl (cI, 6, .inl gO)), (nT, .inl (cI, 6, .inl (upd (upd (upd (upd (upd gT 0 0) 1 0) 2 0) 3 0) 4 x39)))] H := hP
            replace hD : va_D A [(n, .inr (8, [.int mleft, .int mmetres, .int mshut, .int mshield, .int mtoday, .int mbagged, .int mwarmed, .ref nW, .ref nC, .int mmeals, .ref nQ, .ref nM, .ref nD, .ref nA, .ref nK, .int msights, .ref nP, .int mpadMany, .ref nE, .ref nF, .ref nG, .int macts, .int mgusty, .int mleakAct, .int mleakMuch, .int mendOfCan, .int mbadAct, .int mbadWhy, .int mburnt, .int mboiled, .ref nH, .ref nI, .ref nJ, .ref nL, .int mhadLeft, .int mhadToday, .int mhadBagged, .int mhadWarmed, .int mleaves, .int mdayThen, .int mcoldThen, .ref nO, .int mportionMany, .ref nT, .ref nU, .int mleakMany, .int mleakActs, .ref nV, .ref nX, .ref nY, .ref nZ, .int mkeptAt, .int misWriting])), (nO, .inl (cI, 6, .inl gO)), (nT, .inl (cI, 6, .inl (upd (upd (upd (upd (upd gT 0 0) 1 0) 2 0) 3 0) 4 x39)))] := hD
            refine lv_iload_n hx hb dX8_nextTaken_52 rfl (lv_at hl 0 rfl) ?_
            refine lv_bipush (v := 6) hx hb dX8_nextTaken_53 (by decide) ?_
            refine lv_icmp_ge (tgt := 62) hx hb dX8_nextTaken_55 (by decide) (fun c40 => absurd c40 (by decide)) (fun c40 => ?_)
            refine lv_iconst (v := 1) hx hb dX8_nextTaken_58 (by decide) ?_
            refine lv_goto (tgt := 63) hx hb dX8_nextTaken_59 (by decide) ?_
            have hP9 := mx_subP (wc := [(n, .inr (8, [.int mleft, .int mmetres, .int mshut, .int mshield, .int mtoday, .int mbagged, .int mwarmed, .ref nW, .ref nC, .int mmeals, .ref nQ, .ref nM, .ref nD, .ref nA, .ref nK, .int msights, .ref nP, .int mpadMany, .ref nE, .ref nF, .ref nG, .int macts, .int mgusty, .int mleakAct, .int mleakMuch, .int mendOfCan, .int mbadAct, .int mbadWhy, .int mburnt, .int mboiled, .ref nH, .ref nI, .ref nJ, .ref nL, .int mhadLeft, .int mhadToday, .int mhadBagged, .int mhadWarmed, .int mleaves, .int mdayThen, .int mcoldThen, .ref nO, .int mportionMany, .ref nT, .ref nU, .int mleakMany, .int mleakActs, .ref nV, .ref nX, .ref nY, .ref nZ, .int mkeptAt, .int misWriting])), (nO, .inl (cI, 6, .inl gO)), (nT, .inl (cI, 6, .inl (upd (upd (upd (upd (upd gT 0 0) 1 0) 2 0) 3 0) 4 x39)))]) hP [0, 1, 2] rfl
            have hD9 := hD.sub (ws' := [(n, .inr (8, [.int mleft, .int mmetres, .int mshut, .int mshield, .int mtoday, .int mbagged, .int mwarmed, .ref nW, .ref nC, .int mmeals, .ref nQ, .ref nM, .ref nD, .ref nA, .ref nK, .int msights, .ref nP, .int mpadMany, .ref nE, .ref nF, .ref nG, .int macts, .int mgusty, .int mleakAct, .int mleakMuch, .int mendOfCan, .int mbadAct, .int mbadWhy, .int mburnt, .int mboiled, .ref nH, .ref nI, .ref nJ, .ref nL, .int mhadLeft, .int mhadToday, .int mhadBagged, .int mhadWarmed, .int mleaves, .int mdayThen, .int mcoldThen, .ref nO, .int mportionMany, .ref nT, .ref nU, .int mleakMany, .int mleakActs, .ref nV, .ref nX, .ref nY, .ref nZ, .int mkeptAt, .int misWriting])), (nO, .inl (cI, 6, .inl gO)), (nT, .inl (cI, 6, .inl (upd (upd (upd (upd (upd gT 0 0) 1 0) 2 0) 3 0) 4 x39)))]) [0, 1, 2] (by decide) rfl
            exact W.zret (v := 1) hx hb hr rfl (fun t ht hW => ⟨⟨1, ((fun u9 => ([(upd (upd (upd (upd (upd gT 0 0) 1 0) 2 0) 3 0) 4 x39)] : List (Nat → Int32)).getD u9 (fun _ => 0)), (fun u9 => ([] : List Int32).getD u9 0), (fun u9 => ([] : List Int64).getD u9 0)), rfl, ⟨(show tkOK (upd (upd (upd (upd (upd gT 0 0) 1 0) 2 0) 3 0) 4 x39) gO from (by have z0 : (0 : Int32).toInt = 0 := rfl; exact tk_mk (show 0 ≤ (0 : Int32).toInt ∧ (0 : Int32).toInt ≤ (gO 0).toInt from by omega) (show 0 ≤ (0 : Int32).toInt ∧ (0 : Int32).toInt ≤ (gO 1).toInt from by omega) (show 0 ≤ (0 : Int32).toInt ∧ (0 : Int32).toInt ≤ (gO 2).toInt from by omega) (show 0 ≤ (0 : Int32).toInt ∧ (0 : Int32).toInt ≤ (gO 3).toInt from by omega) (show 0 ≤ x39.toInt ∧ x39.toInt ≤ (gO 4).toInt from by omega) (show 0 ≤ (gT 5).toInt ∧ (gT 5).toInt ≤ (gO 5).toInt from by omega))), (show (1 : Int32).toInt = 0 ∨ tval gT + 1 ≤ tval (upd (upd (upd (upd (upd gT 0 0) 1 0) 2 0) 3 0) 4 x39) from (Or.inr (show (gT 0).toInt + 10 * (gT 1).toInt + 100 * (gT 2).toInt + 1000 * (gT 3).toInt + 10000 * (gT 4).toInt + 100000 * (gT 5).toInt + 1 ≤ (0 : Int32).toInt + 10 * (0 : Int32).toInt + 100 * (0 : Int32).toInt + 1000 * (0 : Int32).toInt + 10000 * x39.toInt + 100000 * (gT 5).toInt from by have z0 : (0 : Int32).toInt = 0 := rfl; omega))), (by have z8 : (1 : Int32).toInt = 1 := rfl; omega)⟩, by rw [ht]; exact hP9, hD9⟩, hS.F ht⟩) hS.2.2 dX8_nextTaken_63
          · have t36 : (gT 4).toInt = (gO 4).toInt := (teq c36)
            refine lv_aload_n hx hb dX8_nextTaken_23 rfl (lv_at hl 1 rfl) ?_
            refine va_get (D := (dC, dI)) (ci := 8) (v := .ref nT) (C := RX8) (T := TX8) (N := 53) hx hb hts hin8 hown hK hP 0 rfl rfl 43 (by decide) hw0 (fun _ h9 => h9) rfl dX8_nextTaken_24 ?_
            refine lv_iload_n hx hb dX8_nextTaken_27 rfl (lv_at hl 0 rfl) ?_
            refine lv_iconst (v := 0) hx hb dX8_nextTaken_28 (by decide) ?_
            refine va_iast hx hb hK hP hD hS 2 0 rfl rfl (vin (by decide) (by decide)) dX8_nextTaken_29 (fun H locs hP hD hS => ?_)
            replace hP : va_P (dC, dI) vwCl [(n, .inr (8, [.int mleft, .int mmetres, .int mshut, .int mshield, .int mtoday, .int mbagged, .int mwarmed, .ref nW, .ref nC, .int mmeals, .ref nQ, .ref nM, .ref nD, .ref nA, .ref nK, .int msights, .ref nP, .int mpadMany, .ref nE, .ref nF, .ref nG, .int macts, .int mgusty, .int mleakAct, .int mleakMuch, .int mendOfCan, .int mbadAct, .int mbadWhy, .int mburnt, .int mboiled, .ref nH, .ref nI, .ref nJ, .ref nL, .int mhadLeft, .int mhadToday, .int mhadBagged, .int mhadWarmed, .int mleaves, .int mdayThen, .int mcoldThen, .ref nO, .int mportionMany, .ref nT, .ref nU, .int mleakMany, .int mleakActs, .ref nV, .ref nX, .ref nY, .ref nZ, .int mkeptAt, .int misWriting])), (nO, .inl (cI, 6, .inl gO)), (nT, .inl (cI, 6, .inl (upd (upd (upd (upd (upd gT 0 0) 1 0) 2 0) 3 0) 4 0)))] H := hP
            replace hD : va_D A [(n, .inr (8, [.int mleft, .int mmetres, .int mshut, .int mshield, .int mtoday, .int mbagged, .int mwarmed, .ref nW, .ref nC, .int mmeals, .ref nQ, .ref nM, .ref nD, .ref nA, .ref nK, .int msights, .ref nP, .int mpadMany, .ref nE, .ref nF, .ref nG, .int macts, .int mgusty, .int mleakAct, .int mleakMuch, .int mendOfCan, .int mbadAct, .int mbadWhy, .int mburnt, .int mboiled, .ref nH, .ref nI, .ref nJ, .ref nL, .int mhadLeft, .int mhadToday, .int mhadBagged, .int mhadWarmed, .int mleaves, .int mdayThen, .int mcoldThen, .ref nO, .int mportionMany, .ref nT, .ref nU, .int mleakMany, .int mleakActs, .ref nV, .ref nX, .ref nY, .ref nZ, .int mkeptAt, .int misWriting])), (nO, .inl (cI, 6, .inl gO)), (nT, .inl (cI, 6, .inl (upd (upd (upd (upd (upd gT 0 0) 1 0) 2 0) 3 0) 4 0)))] := hD
            refine lv_iinc (v := 5) (lv' := [(1, .int 5), (0, .ref n)]) hx hb dX8_nextTaken_30 hl (k := 0) rfl (by decide) (by decide) rfl (fun ls hl => ?_)
            refine lv_goto (tgt := 2) hx hb dX8_nextTaken_33 (by decide) ?_
            refine lv_iload_n hx hb dX8_nextTaken_2 rfl (lv_at hl 0 rfl) ?_
            refine lv_bipush (v := 6) hx hb dX8_nextTaken_3 (by decide) ?_
            refine lv_icmp_ge (tgt := 36) hx hb dX8_nextTaken_5 (by decide) (fun c41 => absurd c41 (by decide)) (fun c41 => ?_)
            refine lv_aload_n hx hb dX8_nextTaken_8 rfl (lv_at hl 1 rfl) ?_
            refine va_get (D := (dC, dI)) (ci := 8) (v := .ref nT) (C := RX8) (T := TX8) (N := 53) hx hb hts hin8 hown hK hP 0 rfl rfl 43 (by decide) hw0 (fun _ h9 => h9) rfl dX8_nextTaken_9 ?_
            refine lv_iload_n hx hb dX8_nextTaken_12 rfl (lv_at hl 0 rfl) ?_
            refine va_iald hx hb hK hP 2 0 rfl rfl (vin (by decide) (by decide)) dX8_nextTaken_13 ?_
            refine lv_topi (fun y42 e42 => ?_)
            obtain rfl : gT 5 = y42 := e42.symm
            refine lv_aload_n hx hb dX8_nextTaken_14 rfl (lv_at hl 1 rfl) ?_
            refine va_get (D := (dC, dI)) (ci := 8) (v := .ref nO) (C := RX8) (T := TX8) (N := 53) hx hb hts hin8 hown hK hP 0 rfl rfl 41 (by decide) hw1 (fun _ h9 => h9) rfl dX8_nextTaken_15 ?_
            refine lv_iload_n hx hb dX8_nextTaken_18 rfl (lv_at hl 0 rfl) ?_
            refine va_iald hx hb hK hP 1 0 rfl rfl (vin (by decide) (by decide)) dX8_nextTaken_19 ?_
            refine lv_topi (fun y43 e43 => ?_)
            obtain rfl : gO 5 = y43 := e43.symm
            have g43 : 0 ≤ (gO 5).toInt ∧ (gO 5).toInt ≤ 9 := h_gO _ (by decide)
            refine lv_icmp_ne (tgt := 36) hx hb dX8_nextTaken_20 (by decide) (fun c44 => ?_) (fun c44 => ?_)
            · have t44 : (gT 5).toInt ≠ (gO 5).toInt := (tne c44)
              refine lv_iload_n hx hb dX8_nextTaken_36 rfl (lv_at hl 0 rfl) ?_
              refine lv_bipush (v := 6) hx hb dX8_nextTaken_37 (by decide) ?_
              refine lv_icmp_ge (tgt := 52) hx hb dX8_nextTaken_39 (by decide) (fun c45 => absurd c45 (by decide)) (fun c45 => ?_)
              refine lv_aload_n hx hb dX8_nextTaken_42 rfl (lv_at hl 1 rfl) ?_
              refine va_get (D := (dC, dI)) (ci := 8) (v := .ref nT) (C := RX8) (T := TX8) (N := 53) hx hb hts hin8 hown hK hP 0 rfl rfl 43 (by decide) hw0 (fun _ h9 => h9) rfl dX8_nextTaken_43 ?_
              refine lv_iload_n hx hb dX8_nextTaken_46 rfl (lv_at hl 0 rfl) ?_
              refine lv_dup2_11 hx hb dX8_nextTaken_47 rfl rfl ?_
              refine va_iald hx hb hK hP 2 0 rfl rfl (vin (by decide) (by decide)) dX8_nextTaken_48 ?_
              refine lv_topi (fun y46 e46 => ?_)
              obtain rfl : gT 5 = y46 := e46.symm
              refine lv_iconst (v := 1) hx hb dX8_nextTaken_49 (by decide) ?_
              refine lv_iadd hx hb dX8_nextTaken_50 ?_
              refine lv_topi (fun x47 e47 => ?_)
              have f47 : x47.toInt = (gT 5).toInt + (1 : Int) := by rw [e47]; exact tadd (by have t8 := tb (gT 5); have z8 : (1 : Int32).toInt = 1 := rfl; omega) (by have t8 := tb (gT 5); have z8 : (1 : Int32).toInt = 1 := rfl; omega)
              refine va_iast hx hb hK hP hD hS 2 0 rfl rfl (vin (by decide) (by decide)) dX8_nextTaken_51 (fun H locs hP hD hS => ?_)
              replace hP : va_P (dC, dI) vwCl [(n, .inr (8, [.int mleft, .int mmetres, .int mshut, .int mshield, .int mtoday, .int mbagged, .int mwarmed, .ref nW, .ref nC, .int mmeals, .ref nQ, .ref nM, .ref nD, .ref nA, .ref nK, .int msights, .ref nP, .int mpadMany, .ref nE, .ref nF, .ref nG, .int macts, .int mgusty, .int mleakAct, .int mleakMuch, .int mendOfCan, .int mbadAct, .int mbadWhy, .int mburnt, .int mboiled, .ref nH, .ref nI, .ref nJ, .ref nL, .int mhadLeft, .int mhadToday, .int mhadBagged, .int mhadWarmed, .int mleaves, .int mdayThen, .int mcoldThen, .ref nO, .int mportionMany, .ref nT, .ref nU, .int mleakMany, .int mleakActs, .ref nV, .ref nX, .ref nY, .ref nZ, .int mkeptAt, .int misWriting])), (nO, .inl (cI, 6, .inl gO)), (nT, .inl (cI, 6, .inl (upd (upd (upd (upd (upd (upd gT 0 0) 1 0) 2 0) 3 0) 4 0) 5 x47)))] H := hP
              replace hD : va_D A [(n, .inr (8, [.int mleft, .int mmetres, .int mshut, .int mshield, .int mtoday, .int mbagged, .int mwarmed, .ref nW, .ref nC, .int mmeals, .ref nQ, .ref nM, .ref nD, .ref nA, .ref nK, .int msights, .ref nP, .int mpadMany, .ref nE, .ref nF, .ref nG, .int macts, .int mgusty, .int mleakAct, .int mleakMuch, .int mendOfCan, .int mbadAct, .int mbadWhy, .int mburnt, .int mboiled, .ref nH, .ref nI, .ref nJ, .ref nL, .int mhadLeft, .int mhadToday, .int mhadBagged, .int mhadWarmed, .int mleaves, .int mdayThen, .int mcoldThen, .ref nO, .int mportionMany, .ref nT, .ref nU, .int mleakMany, .int mleakActs, .ref nV, .ref nX, .ref nY, .ref nZ, .int mkeptAt, .int misWriting])), (nO, .inl (cI, 6, .inl gO)), (nT, .inl (cI, 6, .inl (upd (upd (upd (upd (upd (upd gT 0 0) 1 0) 2 0) 3 0) 4 0) 5 x47)))] := hD
              refine lv_iload_n hx hb dX8_nextTaken_52 rfl (lv_at hl 0 rfl) ?_
              refine lv_bipush (v := 6) hx hb dX8_nextTaken_53 (by decide) ?_
              refine lv_icmp_ge (tgt := 62) hx hb dX8_nextTaken_55 (by decide) (fun c48 => absurd c48 (by decide)) (fun c48 => ?_)
              refine lv_iconst (v := 1) hx hb dX8_nextTaken_58 (by decide) ?_
              refine lv_goto (tgt := 63) hx hb dX8_nextTaken_59 (by decide) ?_
              have hP9 := mx_subP (wc := [(n, .inr (8, [.int mleft, .int mmetres, .int mshut, .int mshield, .int mtoday, .int mbagged, .int mwarmed, .ref nW, .ref nC, .int mmeals, .ref nQ, .ref nM, .ref nD, .ref nA, .ref nK, .int msights, .ref nP, .int mpadMany, .ref nE, .ref nF, .ref nG, .int macts, .int mgusty, .int mleakAct, .int mleakMuch, .int mendOfCan, .int mbadAct, .int mbadWhy, .int mburnt, .int mboiled, .ref nH, .ref nI, .ref nJ, .ref nL, .int mhadLeft, .int mhadToday, .int mhadBagged, .int mhadWarmed, .int mleaves, .int mdayThen, .int mcoldThen, .ref nO, .int mportionMany, .ref nT, .ref nU, .int mleakMany, .int mleakActs, .ref nV, .ref nX, .ref nY, .ref nZ, .int mkeptAt, .int misWriting])), (nO, .inl (cI, 6, .inl gO)), (nT, .inl (cI, 6, .inl (upd (upd (upd (upd (upd (upd gT 0 0) 1 0) 2 0) 3 0) 4 0) 5 x47)))]) hP [0, 1, 2] rfl
              have hD9 := hD.sub (ws' := [(n, .inr (8, [.int mleft, .int mmetres, .int mshut, .int mshield, .int mtoday, .int mbagged, .int mwarmed, .ref nW, .ref nC, .int mmeals, .ref nQ, .ref nM, .ref nD, .ref nA, .ref nK, .int msights, .ref nP, .int mpadMany, .ref nE, .ref nF, .ref nG, .int macts, .int mgusty, .int mleakAct, .int mleakMuch, .int mendOfCan, .int mbadAct, .int mbadWhy, .int mburnt, .int mboiled, .ref nH, .ref nI, .ref nJ, .ref nL, .int mhadLeft, .int mhadToday, .int mhadBagged, .int mhadWarmed, .int mleaves, .int mdayThen, .int mcoldThen, .ref nO, .int mportionMany, .ref nT, .ref nU, .int mleakMany, .int mleakActs, .ref nV, .ref nX, .ref nY, .ref nZ, .int mkeptAt, .int misWriting])), (nO, .inl (cI, 6, .inl gO)), (nT, .inl (cI, 6, .inl (upd (upd (upd (upd (upd (upd gT 0 0) 1 0) 2 0) 3 0) 4 0) 5 x47)))]) [0, 1, 2] (by decide) rfl
              exact W.zret (v := 1) hx hb hr rfl (fun t ht hW => ⟨⟨1, ((fun u9 => ([(upd (upd (upd (upd (upd (upd gT 0 0) 1 0) 2 0) 3 0) 4 0) 5 x47)] : List (Nat → Int32)).getD u9 (fun _ => 0)), (fun u9 => ([] : List Int32).getD u9 0), (fun u9 => ([] : List Int64).getD u9 0)), rfl, ⟨(show tkOK (upd (upd (upd (upd (upd (upd gT 0 0) 1 0) 2 0) 3 0) 4 0) 5 x47) gO from (by have z0 : (0 : Int32).toInt = 0 := rfl; exact tk_mk (show 0 ≤ (0 : Int32).toInt ∧ (0 : Int32).toInt ≤ (gO 0).toInt from by omega) (show 0 ≤ (0 : Int32).toInt ∧ (0 : Int32).toInt ≤ (gO 1).toInt from by omega) (show 0 ≤ (0 : Int32).toInt ∧ (0 : Int32).toInt ≤ (gO 2).toInt from by omega) (show 0 ≤ (0 : Int32).toInt ∧ (0 : Int32).toInt ≤ (gO 3).toInt from by omega) (show 0 ≤ (0 : Int32).toInt ∧ (0 : Int32).toInt ≤ (gO 4).toInt from by omega) (show 0 ≤ x47.toInt ∧ x47.toInt ≤ (gO 5).toInt from by omega))), (show (1 : Int32).toInt = 0 ∨ tval gT + 1 ≤ tval (upd (upd (upd (upd (upd (upd gT 0 0) 1 0) 2 0) 3 0) 4 0) 5 x47) from (Or.inr (show (gT 0).toInt + 10 * (gT 1).toInt + 100 * (gT 2).toInt + 1000 * (gT 3).toInt + 10000 * (gT 4).toInt + 100000 * (gT 5).toInt + 1 ≤ (0 : Int32).toInt + 10 * (0 : Int32).toInt + 100 * (0 : Int32).toInt + 1000 * (0 : Int32).toInt + 10000 * (0 : Int32).toInt + 100000 * x47.toInt from by have z0 : (0 : Int32).toInt = 0 := rfl; omega))), (by have z8 : (1 : Int32).toInt = 1 := rfl; omega)⟩, by rw [ht]; exact hP9, hD9⟩, hS.F ht⟩) hS.2.2 dX8_nextTaken_63
            · have t44 : (gT 5).toInt = (gO 5).toInt := (teq c44)
              refine lv_aload_n hx hb dX8_nextTaken_23 rfl (lv_at hl 1 rfl) ?_
              refine va_get (D := (dC, dI)) (ci := 8) (v := .ref nT) (C := RX8) (T := TX8) (N := 53) hx hb hts hin8 hown hK hP 0 rfl rfl 43 (by decide) hw0 (fun _ h9 => h9) rfl dX8_nextTaken_24 ?_
              refine lv_iload_n hx hb dX8_nextTaken_27 rfl (lv_at hl 0 rfl) ?_
              refine lv_iconst (v := 0) hx hb dX8_nextTaken_28 (by decide) ?_
              refine va_iast hx hb hK hP hD hS 2 0 rfl rfl (vin (by decide) (by decide)) dX8_nextTaken_29 (fun H locs hP hD hS => ?_)
              replace hP : va_P (dC, dI) vwCl [(n, .inr (8, [.int mleft, .int mmetres, .int mshut, .int mshield, .int mtoday, .int mbagged, .int mwarmed, .ref nW, .ref nC, .int mmeals, .ref nQ, .ref nM, .ref nD, .ref nA, .ref nK, .int msights, .ref nP, .int mpadMany, .ref nE, .ref nF, .ref nG, .int macts, .int mgusty, .int mleakAct, .int mleakMuch, .int mendOfCan, .int mbadAct, .int mbadWhy, .int mburnt, .int mboiled, .ref nH, .ref nI, .ref nJ, .ref nL, .int mhadLeft, .int mhadToday, .int mhadBagged, .int mhadWarmed, .int mleaves, .int mdayThen, .int mcoldThen, .ref nO, .int mportionMany, .ref nT, .ref nU, .int mleakMany, .int mleakActs, .ref nV, .ref nX, .ref nY, .ref nZ, .int mkeptAt, .int misWriting])), (nO, .inl (cI, 6, .inl gO)), (nT, .inl (cI, 6, .inl (upd (upd (upd (upd (upd (upd gT 0 0) 1 0) 2 0) 3 0) 4 0) 5 0)))] H := hP
              replace hD : va_D A [(n, .inr (8, [.int mleft, .int mmetres, .int mshut, .int mshield, .int mtoday, .int mbagged, .int mwarmed, .ref nW, .ref nC, .int mmeals, .ref nQ, .ref nM, .ref nD, .ref nA, .ref nK, .int msights, .ref nP, .int mpadMany, .ref nE, .ref nF, .ref nG, .int macts, .int mgusty, .int mleakAct, .int mleakMuch, .int mendOfCan, .int mbadAct, .int mbadWhy, .int mburnt, .int mboiled, .ref nH, .ref nI, .ref nJ, .ref nL, .int mhadLeft, .int mhadToday, .int mhadBagged, .int mhadWarmed, .int mleaves, .int mdayThen, .int mcoldThen, .ref nO, .int mportionMany, .ref nT, .ref nU, .int mleakMany, .int mleakActs, .ref nV, .ref nX, .ref nY, .ref nZ, .int mkeptAt, .int misWriting])), (nO, .inl (cI, 6, .inl gO)), (nT, .inl (cI, 6, .inl (upd (upd (upd (upd (upd (upd gT 0 0) 1 0) 2 0) 3 0) 4 0) 5 0)))] := hD
              refine lv_iinc (v := 6) (lv' := [(1, .int 6), (0, .ref n)]) hx hb dX8_nextTaken_30 hl (k := 0) rfl (by decide) (by decide) rfl (fun ls hl => ?_)
              refine lv_goto (tgt := 2) hx hb dX8_nextTaken_33 (by decide) ?_
              refine lv_iload_n hx hb dX8_nextTaken_2 rfl (lv_at hl 0 rfl) ?_
              refine lv_bipush (v := 6) hx hb dX8_nextTaken_3 (by decide) ?_
              refine lv_icmp_ge (tgt := 36) hx hb dX8_nextTaken_5 (by decide) (fun c49 => ?_) (fun c49 => absurd c49 (by decide))
              refine lv_iload_n hx hb dX8_nextTaken_36 rfl (lv_at hl 0 rfl) ?_
              refine lv_bipush (v := 6) hx hb dX8_nextTaken_37 (by decide) ?_
              refine lv_icmp_ge (tgt := 52) hx hb dX8_nextTaken_39 (by decide) (fun c50 => ?_) (fun c50 => absurd c50 (by decide))
              refine lv_iload_n hx hb dX8_nextTaken_52 rfl (lv_at hl 0 rfl) ?_
              refine lv_bipush (v := 6) hx hb dX8_nextTaken_53 (by decide) ?_
              refine lv_icmp_ge (tgt := 62) hx hb dX8_nextTaken_55 (by decide) (fun c51 => ?_) (fun c51 => absurd c51 (by decide))
              refine lv_iconst (v := 0) hx hb dX8_nextTaken_62 (by decide) ?_
              have hP9 := mx_subP (wc := [(n, .inr (8, [.int mleft, .int mmetres, .int mshut, .int mshield, .int mtoday, .int mbagged, .int mwarmed, .ref nW, .ref nC, .int mmeals, .ref nQ, .ref nM, .ref nD, .ref nA, .ref nK, .int msights, .ref nP, .int mpadMany, .ref nE, .ref nF, .ref nG, .int macts, .int mgusty, .int mleakAct, .int mleakMuch, .int mendOfCan, .int mbadAct, .int mbadWhy, .int mburnt, .int mboiled, .ref nH, .ref nI, .ref nJ, .ref nL, .int mhadLeft, .int mhadToday, .int mhadBagged, .int mhadWarmed, .int mleaves, .int mdayThen, .int mcoldThen, .ref nO, .int mportionMany, .ref nT, .ref nU, .int mleakMany, .int mleakActs, .ref nV, .ref nX, .ref nY, .ref nZ, .int mkeptAt, .int misWriting])), (nO, .inl (cI, 6, .inl gO)), (nT, .inl (cI, 6, .inl (upd (upd (upd (upd (upd (upd gT 0 0) 1 0) 2 0) 3 0) 4 0) 5 0)))]) hP [0, 1, 2] rfl
              have hD9 := hD.sub (ws' := [(n, .inr (8, [.int mleft, .int mmetres, .int mshut, .int mshield, .int mtoday, .int mbagged, .int mwarmed, .ref nW, .ref nC, .int mmeals, .ref nQ, .ref nM, .ref nD, .ref nA, .ref nK, .int msights, .ref nP, .int mpadMany, .ref nE, .ref nF, .ref nG, .int macts, .int mgusty, .int mleakAct, .int mleakMuch, .int mendOfCan, .int mbadAct, .int mbadWhy, .int mburnt, .int mboiled, .ref nH, .ref nI, .ref nJ, .ref nL, .int mhadLeft, .int mhadToday, .int mhadBagged, .int mhadWarmed, .int mleaves, .int mdayThen, .int mcoldThen, .ref nO, .int mportionMany, .ref nT, .ref nU, .int mleakMany, .int mleakActs, .ref nV, .ref nX, .ref nY, .ref nZ, .int mkeptAt, .int misWriting])), (nO, .inl (cI, 6, .inl gO)), (nT, .inl (cI, 6, .inl (upd (upd (upd (upd (upd (upd gT 0 0) 1 0) 2 0) 3 0) 4 0) 5 0)))]) [0, 1, 2] (by decide) rfl
              exact W.zret (v := 0) hx hb hr rfl (fun t ht hW => ⟨⟨0, ((fun u9 => ([(upd (upd (upd (upd (upd (upd gT 0 0) 1 0) 2 0) 3 0) 4 0) 5 0)] : List (Nat → Int32)).getD u9 (fun _ => 0)), (fun u9 => ([] : List Int32).getD u9 0), (fun u9 => ([] : List Int64).getD u9 0)), rfl, ⟨(show tkOK (upd (upd (upd (upd (upd (upd gT 0 0) 1 0) 2 0) 3 0) 4 0) 5 0) gO from (by have z0 : (0 : Int32).toInt = 0 := rfl; exact tk_mk (show 0 ≤ (0 : Int32).toInt ∧ (0 : Int32).toInt ≤ (gO 0).toInt from by omega) (show 0 ≤ (0 : Int32).toInt ∧ (0 : Int32).toInt ≤ (gO 1).toInt from by omega) (show 0 ≤ (0 : Int32).toInt ∧ (0 : Int32).toInt ≤ (gO 2).toInt from by omega) (show 0 ≤ (0 : Int32).toInt ∧ (0 : Int32).toInt ≤ (gO 3).toInt from by omega) (show 0 ≤ (0 : Int32).toInt ∧ (0 : Int32).toInt ≤ (gO 4).toInt from by omega) (show 0 ≤ (0 : Int32).toInt ∧ (0 : Int32).toInt ≤ (gO 5).toInt from by omega))), (show (0 : Int32).toInt = 0 ∨ tval gT + 1 ≤ tval (upd (upd (upd (upd (upd (upd gT 0 0) 1 0) 2 0) 3 0) 4 0) 5 0) from (Or.inl (by decide))), (by have z8 : (0 : Int32).toInt = 0 := rfl; omega)⟩, by rw [ht]; exact hP9, hD9⟩, hS.F ht⟩) hS.2.2 dX8_nextTaken_63
