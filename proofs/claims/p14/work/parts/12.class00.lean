set_option maxHeartbeats 4000000 in
set_option maxRecDepth 100000 in
theorem c_X5_tally (l : Launch) (dC : Nat → ClassId) (dI : Nat → Nat → Nat) (cI cZ cK : ClassId) (tS : Nat) (aK aV : Nat → Nat) (f : Nat) (i0 : Int32) (i1 : Int32) (k : Nat) (d : Nat) (j : Nat) (fl : Nat) (fh : Nat) (ff : Nat) (fa : Nat) (fm : Nat) (fct : Int32) (frb : Int32) (fsl : Int32) (ffm : Nat → Int32) (sz : Nat) : Cv l yX5_tally (wq yX5_tally cX5_tally 4 none) ({ frames := 1, cells := 0, slots := 0, locals := 22 }) dC dI cI cZ cK tS aK aV [.ref f, .int i0, .int i1] sz [(f, .inr (5, [.ref k, .ref d, .ref j, .ref fl, .ref fh, .ref ff, .ref fa, .ref fm, .int fct, .int frb, .int fsl])), (fm, .inl (cI, 21, .inl ffm))] (fun (u : (Nat → Nat → Int32) × (Nat → Int32) × (Nat → Int64)) => True) (fun u => [(f, .inr (5, [.ref k, .ref d, .ref j, .ref fl, .ref fh, .ref ff, .ref fa, .ref fm, .int fct, .int frb, .int fsl])), (fm, .inl (cI, 21, .inl (u.1 0)))]) := by
  refine Met.ofW (cc := cX5_tally) (maxL := 4) (ret := none) (by decide) rfl ?_
  intro p e s m args below meth c s₁ B hml hv
  obtain ⟨rfl, hsz, hP, hKx, hD0⟩ := hv
  have hx := B.exec
  have hb := B.bytes
  have hr := B.returns
  have hts := atoms_spec (ws := wq yX5_tally cX5_tally 4 none) B.pre
  have hown : s.vm.findClass RX5 = some m.cls := findClass_of_methodNamed B.named
  have hlocks := B.notSynchronized
  subst hsz
  have hD := hD0.self (sz := s.heap.size)
  generalize hAe : va_A [(f, .inr (5, [.ref k, .ref d, .ref j, .ref fl, .ref fh, .ref ff, .ref fa, .ref fm, .int fct, .int frb, .int fsl])), (fm, .inl (cI, 21, .inl ffm))] s.heap.size = A at hD hKx ⊢
  have hA : ∀ q : Nat, s.heap.size ≤ q → A q := fun q h => by rw [← hAe]; exact Or.inr h
  have hS : va_S A s.heap s.heap [] := va_S.rf
  have hP : va_P (dC, dI) vwCl [(f, .inr (5, [.ref k, .ref d, .ref j, .ref fl, .ref fh, .ref ff, .ref fa, .ref fm, .int fct, .int frb, .int fsl])), (fm, .inl (cI, 21, .inl ffm))] s.heap := hP
  have hl := lv_entry ([.ref f, .int i0, .int i1]) (n := 4) (Nat.le_of_ble_eq_true rfl)
  rw [lg_entry_eq]
  generalize (lg_sl ([.ref f, .int i0, .int i1]) ++ List.replicate (4 - (lg_sl ([.ref f, .int i0, .int i1])).length) Slot.unset).toArray = ls at hl ⊢
  have hl : lv_has ls 4 [(0, .ref f), (1, .int i0), (2, .int i1)] := hl
  have hK := hKx.1
  have hin5 := fun w9 h9 => List.mem_cons_of_mem (Cond.code yX5_tally cX5_tally 4 none) (inlX5 w9 h9)
  have hw0 := hts (.initialized RX7) (List.mem_cons_of_mem _ wm_2)
  have hw1 := hts (.static yX7_isIn) (List.mem_cons_of_mem _ wm_142)
  have hw2 := hts (.fieldLink RX5 24 "OneCan$Search" "byMark" "[I") (List.mem_cons_of_mem _ wm_91)
  refine lv_iload_n hx hb dX5_tally_0 rfl (lv_at hl 1 rfl) ?_
  refine lv_sipush (v := 200) hx hb dX5_tally_1 (by decide) ?_
  refine mx_i (wr := [(f, .inr (5, [.ref k, .ref d, .ref j, .ref fl, .ref fh, .ref ff, .ref fa, .ref fm, .int fct, .int frb, .int fsl])), (fm, .inl (cI, 21, .inl ffm))]) (va_runS (As := [.int i0, .int 200]) (rest := []) ⟨hx, hb, hml, hown, hts⟩ (c_J9_floorDiv_7cf53_200 l dC dI cI cZ cK tS aK aV i0 s.heap.size) (va_cwS 2 hts (gw_s (fun _ h9 => List.mem_cons_of_mem _ h9) wm_759 wm_760 wm_272 wm_762) rfl rfl rfl (by decide +kernel) ⟨Nat.le_of_ble_eq_true rfl, Nat.le_of_ble_eq_true rfl⟩) (mx_preS hKx hP hD hS hA [] (by decide) rfl) rfl rfl hl.1 rfl (lv_room (Nat.le_of_ble_eq_true rfl)) dX5_tally_4 ⟨Nat.le_of_ble_eq_true rfl, Nat.le_of_ble_eq_true rfl⟩) hP hD hS hA [] [0, 1] rfl rfl (by decide) (by decide) (fun r1 u1 H locs hq1 hP hD hS => ?_)
  replace hP : va_P (dC, dI) vwCl [(f, .inr (5, [.ref k, .ref d, .ref j, .ref fl, .ref fh, .ref ff, .ref fa, .ref fm, .int fct, .int frb, .int fsl])), (fm, .inl (cI, 21, .inl ffm))] H := hP
  replace hD : va_D A [(f, .inr (5, [.ref k, .ref d, .ref j, .ref fl, .ref fh, .ref ff, .ref fa, .ref fm, .int fct, .int frb, .int fsl])), (fm, .inl (cI, 21, .inl ffm))] := hD
  refine lv_istore_n (lv' := [(3, .int r1), (0, .ref f), (1, .int i0), (2, .int i1)]) hx hb dX5_tally_7 rfl hl (by decide) rfl (fun ls hl => ?_)
  refine lv_iload_n hx hb dX5_tally_8 rfl (lv_at hl 0 rfl) ?_
  refine lv_iconst (v := 0) hx hb dX5_tally_9 (by decide) ?_
  refine lv_bipush (v := 20) hx hb dX5_tally_10 (by decide) ?_
  refine mx_i (wr := [(f, .inr (5, [.ref k, .ref d, .ref j, .ref fl, .ref fh, .ref ff, .ref fa, .ref fm, .int fct, .int frb, .int fsl])), (fm, .inl (cI, 21, .inl ffm))]) (va_runSN (As := [.int r1, .int 0, .int 20]) (rest := []) ⟨hx, hb, hml, hown, hts⟩ (c_X7_isIn l dC dI cI cZ cK tS aK aV r1 0 20 H.size) ⟨va_cnB 3 hts (gw_i (fun _ h9 => List.mem_cons_of_mem _ h9) wm_143) rfl rfl rfl hKx.2.2.1 hw0 (by decide +kernel) ⟨Nat.le_of_ble_eq_true rfl, Nat.le_of_ble_eq_true rfl⟩, hw1, trivial⟩ (mx_preS hKx hP hD hS hA [] (by decide) rfl) rfl rfl hl.1 rfl (lv_room (Nat.le_of_ble_eq_true rfl)) dX5_tally_12 ⟨Nat.le_of_ble_eq_true rfl, Nat.le_of_ble_eq_true rfl⟩) hP hD hS hA [] [0, 1] rfl rfl (by decide) (by decide) (fun r2 u2 H locs hq2 hP hD hS => ?_)
  replace hP : va_P (dC, dI) vwCl [(f, .inr (5, [.ref k, .ref d, .ref j, .ref fl, .ref fh, .ref ff, .ref fa, .ref fm, .int fct, .int frb, .int fsl])), (fm, .inl (cI, 21, .inl ffm))] H := hP
  replace hD : va_D A [(f, .inr (5, [.ref k, .ref d, .ref j, .ref fl, .ref fh, .ref ff, .ref fa, .ref fm, .int fct, .int frb, .int fsl])), (fm, .inl (cI, 21, .inl ffm))] := hD
  rcases hq2 with ⟨rfl, hf2⟩ | ⟨rfl, hf2⟩
  · have hf2 : (0 : Int) ≤ r1.toInt ∧ r1.toInt ≤ (20 : Int) := hf2
    refine lv_if_eq (tgt := 28) hx hb dX5_tally_15 (by decide) (fun c3 => absurd c3 (by decide)) (fun c3 => ?_)
    refine lv_aload_n hx hb dX5_tally_18 rfl (lv_at hl 1 rfl) ?_
    refine va_get (D := (dC, dI)) (ci := 5) (v := .ref fm) (C := RX5) (T := TX5) (N := 11) hx hb hts hin5 hown hK hP 0 rfl rfl 7 (by decide) hw2 (fun _ h9 => h9) rfl dX5_tally_19 ?_
    refine lv_iload_n hx hb dX5_tally_22 rfl (lv_at hl 0 rfl) ?_
    refine lv_dup2_11 hx hb dX5_tally_23 rfl rfl ?_
    refine va_iald hx hb hK hP 1 0 rfl rfl (vin (by omega) (by omega)) dX5_tally_24 ?_
    refine lv_topi (fun x4 e4 => ?_)
    refine lv_iload_n hx hb dX5_tally_25 rfl (lv_at hl 3 rfl) ?_
    refine lv_iadd hx hb dX5_tally_26 ?_
    refine lv_topi (fun x5 e5 => ?_)
    refine va_iast hx hb hK hP hD hS 1 0 rfl rfl (vin (by omega) (by omega)) dX5_tally_27 (fun H locs hP hD hS => ?_)
    replace hP : va_P (dC, dI) vwCl [(f, .inr (5, [.ref k, .ref d, .ref j, .ref fl, .ref fh, .ref ff, .ref fa, .ref fm, .int fct, .int frb, .int fsl])), (fm, .inl (cI, 21, .inl (upd ffm r1.toNatClampNeg x5)))] H := hP
    replace hD : va_D A [(f, .inr (5, [.ref k, .ref d, .ref j, .ref fl, .ref fh, .ref ff, .ref fa, .ref fm, .int fct, .int frb, .int fsl])), (fm, .inl (cI, 21, .inl (upd ffm r1.toNatClampNeg x5)))] := hD
    have hP9 := mx_subP (wc := [(f, .inr (5, [.ref k, .ref d, .ref j, .ref fl, .ref fh, .ref ff, .ref fa, .ref fm, .int fct, .int frb, .int fsl])), (fm, .inl (cI, 21, .inl (upd ffm r1.toNatClampNeg x5)))]) hP [0, 1] rfl
    have hD9 := hD.sub (ws' := [(f, .inr (5, [.ref k, .ref d, .ref j, .ref fl, .ref fh, .ref ff, .ref fa, .ref fm, .int fct, .int frb, .int fsl])), (fm, .inl (cI, 21, .inl (upd ffm r1.toNatClampNeg x5)))]) [0, 1] (by decide) rfl
    exact W.vret hx hb hr (fun t ht hW => ⟨⟨((fun u9 => ([(upd ffm r1.toNatClampNeg x5)] : List (Nat → Int32)).getD u9 (fun _ => 0)), (fun u9 => ([] : List Int32).getD u9 0), (fun u9 => ([] : List Int64).getD u9 0)), rfl, trivial, by rw [ht]; exact hP9, hD9⟩, hS.F ht⟩) hS.2.2 dX5_tally_28
  · have hf2 : r1.toInt < (0 : Int) ∨ (20 : Int) < r1.toInt := hf2
    refine lv_if_eq (tgt := 28) hx hb dX5_tally_15 (by decide) (fun c6 => ?_) (fun c6 => absurd c6 (by decide))
    have hP9 := mx_subP (wc := [(f, .inr (5, [.ref k, .ref d, .ref j, .ref fl, .ref fh, .ref ff, .ref fa, .ref fm, .int fct, .int frb, .int fsl])), (fm, .inl (cI, 21, .inl ffm))]) hP [0, 1] rfl
    have hD9 := hD.sub (ws' := [(f, .inr (5, [.ref k, .ref d, .ref j, .ref fl, .ref fh, .ref ff, .ref fa, .ref fm, .int fct, .int frb, .int fsl])), (fm, .inl (cI, 21, .inl ffm))]) [0, 1] (by decide) rfl
    exact W.vret hx hb hr (fun t ht hW => ⟨⟨((fun u9 => ([ffm] : List (Nat → Int32)).getD u9 (fun _ => 0)), (fun u9 => ([] : List Int32).getD u9 0), (fun u9 => ([] : List Int64).getD u9 0)), rfl, trivial, by rw [ht]; exact hP9, hD9⟩, hS.F ht⟩) hS.2.2 dX5_tally_28
set_option maxHeartbeats 4000000 in
set_option maxRecDepth 100000 in
theorem c_X5_tallyLeaksAt (l : Launch) (dC : Nat → ClassId) (dI : Nat → Nat → Nat) (cI cZ cK : ClassId) (tS : Nat) (aK aV : Nat → Nat) (f : Nat) (i0 : Int32) (i1 : Int32) (i2 : Int32) (k : Nat) (d : Nat) (j : Nat) (fl : Nat) (fh : Nat) (ff : Nat) (fa : Nat) (fm : Nat) (fct : Int32) (frb : Int32) (fsl : Int32) (fff : Nat → Int32) (ffa : Nat → Int32) (ffm : Nat → Int32) (jd : Nat) (jb : Nat) (jw : Nat) (jl : Nat) (jbad : Int32) (jwhy : Int32) (jleft : Int32) (jday : Int32) (jwarmDay : Int32) (jbagDays : Int32) (jburnt : Int32) (jboiled : Int32) (jfl : Nat → Int32) (sz : Nat) (h_ffa : rg ffa 60 (-2147483648) 200) (h_i0 : 0 ≤ i0.toInt ∧ i0.toInt ≤ 59) : Cv l yX5_tallyLeaksAt (wq yX5_tallyLeaksAt cX5_tallyLeaksAt 10 none) ({ frames := 2, cells := 0, slots := 0, locals := 45 }) dC dI cI cZ cK tS aK aV [.ref f, .int i0, .int i1, .int i2] sz [(f, .inr (5, [.ref k, .ref d, .ref j, .ref fl, .ref fh, .ref ff, .ref fa, .ref fm, .int fct, .int frb, .int fsl])), (ff, .inl (cI, 60, .inl fff)), (fa, .inl (cI, 60, .inl ffa)), (fm, .inl (cI, 21, .inl ffm)), (j, .inr (1, [.ref k, .ref d, .ref jd, .ref jb, .ref jw, .ref jl, .int jbad, .int jwhy, .int jleft, .int jday, .int jwarmDay, .int jbagDays, .int jburnt, .int jboiled])), (jl, .inl (cI, 61, .inl jfl))] (fun (u : (Nat → Nat → Int32) × (Nat → Int32) × (Nat → Int64)) => True) (fun u => [(f, .inr (5, [.ref k, .ref d, .ref j, .ref fl, .ref fh, .ref ff, .ref fa, .ref fm, .int fct, .int frb, .int fsl])), (ff, .inl (cI, 60, .inl fff)), (fa, .inl (cI, 60, .inl ffa)), (fm, .inl (cI, 21, .inl (u.1 0))), (j, .inr (1, [.ref k, .ref d, .ref jd, .ref jb, .ref jw, .ref jl, .int jbad, .int jwhy, .int jleft, .int jday, .int jwarmDay, .int jbagDays, .int jburnt, .int jboiled])), (jl, .inl (cI, 61, .inl jfl))]) := by
  refine Met.ofW (cc := cX5_tallyLeaksAt) (maxL := 10) (ret := none) (by decide) rfl ?_
  intro p e s m args below meth c s₁ B hml hv
  obtain ⟨rfl, hsz, hP, hKx, hD0⟩ := hv
  have hx := B.exec
  have hb := B.bytes
  have hr := B.returns
  have hts := atoms_spec (ws := wq yX5_tallyLeaksAt cX5_tallyLeaksAt 10 none) B.pre
  have hown : s.vm.findClass RX5 = some m.cls := findClass_of_methodNamed B.named
  have hlocks := B.notSynchronized
  subst hsz
  have hD := hD0.self (sz := s.heap.size)
  generalize hAe : va_A [(f, .inr (5, [.ref k, .ref d, .ref j, .ref fl, .ref fh, .ref ff, .ref fa, .ref fm, .int fct, .int frb, .int fsl])), (ff, .inl (cI, 60, .inl fff)), (fa, .inl (cI, 60, .inl ffa)), (fm, .inl (cI, 21, .inl ffm)), (j, .inr (1, [.ref k, .ref d, .ref jd, .ref jb, .ref jw, .ref jl, .int jbad, .int jwhy, .int jleft, .int jday, .int jwarmDay, .int jbagDays, .int jburnt, .int jboiled])), (jl, .inl (cI, 61, .inl jfl))] s.heap.size = A at hD hKx ⊢
  have hA : ∀ q : Nat, s.heap.size ≤ q → A q := fun q h => by rw [← hAe]; exact Or.inr h
  have hS : va_S A s.heap s.heap [] := va_S.rf
  have hP : va_P (dC, dI) vwCl [(f, .inr (5, [.ref k, .ref d, .ref j, .ref fl, .ref fh, .ref ff, .ref fa, .ref fm, .int fct, .int frb, .int fsl])), (ff, .inl (cI, 60, .inl fff)), (fa, .inl (cI, 60, .inl ffa)), (fm, .inl (cI, 21, .inl ffm)), (j, .inr (1, [.ref k, .ref d, .ref jd, .ref jb, .ref jw, .ref jl, .int jbad, .int jwhy, .int jleft, .int jday, .int jwarmDay, .int jbagDays, .int jburnt, .int jboiled])), (jl, .inl (cI, 61, .inl jfl))] s.heap := hP
  have hl := lv_entry ([.ref f, .int i0, .int i1, .int i2]) (n := 10) (Nat.le_of_ble_eq_true rfl)
  rw [lg_entry_eq]
  generalize (lg_sl ([.ref f, .int i0, .int i1, .int i2]) ++ List.replicate (10 - (lg_sl ([.ref f, .int i0, .int i1, .int i2])).length) Slot.unset).toArray = ls at hl ⊢
  have hl : lv_has ls 10 [(0, .ref f), (1, .int i0), (2, .int i1), (3, .int i2)] := hl
  have hK := hKx.1
  have hin5 := fun w9 h9 => List.mem_cons_of_mem (Cond.code yX5_tallyLeaksAt cX5_tallyLeaksAt 10 none) (inlX5 w9 h9)
  have hin1 := fun w9 h9 => List.mem_cons_of_mem (Cond.code yX5_tallyLeaksAt cX5_tallyLeaksAt 10 none) (inlX1 w9 h9)
  have hw0 := hts (.fieldLink RX5 35 "OneCan$Search" "course" "LOneCan$Course;") (List.mem_cons_of_mem _ wm_94)
  have hw1 := hts (.fieldLink RX5 59 "OneCan$Course" "lefts" "[I") (List.mem_cons_of_mem _ wm_739)
  have hw2 := hts (.fieldLink RX5 18 "OneCan$Search" "first" "[I") (List.mem_cons_of_mem _ wm_89)
  have hw3 := hts (.fieldLink RX5 21 "OneCan$Search" "last" "[I") (List.mem_cons_of_mem _ wm_90)
  have hw4 := hts (.methodLink RX5 73 Lib.Math.min.name) (List.mem_cons_of_mem _ wm_741)
  have hw5 := hts (.static Lib.Math.min.name) (List.mem_cons_of_mem _ wm_275)
  have hw6 := hts (.initialized "java/lang/Math") (List.mem_cons_of_mem _ wm_272)
  have hw7 := hts (.code Lib.Math.min.name Lib.Math.min.code 2 (some .int)) (List.mem_cons_of_mem _ wm_276)
  have hw8 := hts (.methodLink RX5 70 Lib.Math.max.name) (List.mem_cons_of_mem _ wm_740)
  have hw9 := hts (.static Lib.Math.max.name) (List.mem_cons_of_mem _ wm_271)
  have hw10 := hts (.code Lib.Math.max.name Lib.Math.max.code 2 (some .int)) (List.mem_cons_of_mem _ wm_273)
  refine lv_aload_n hx hb dX5_tallyLeaksAt_0 rfl (lv_at hl 0 rfl) ?_
  refine va_get (D := (dC, dI)) (ci := 5) (v := .ref j) (C := RX5) (T := TX5) (N := 11) hx hb hts hin5 hown hK hP 0 rfl rfl 2 (by decide) hw0 (fun _ h9 => h9) rfl dX5_tallyLeaksAt_1 ?_
  refine va_get (D := (dC, dI)) (ci := 1) (v := .ref jl) (C := RX1) (T := TX1) (N := 14) hx hb hts hin1 hown hK hP 4 rfl rfl 5 (by decide) hw1 (fun _ h9 => h9) rfl dX5_tallyLeaksAt_4 ?_
  refine lv_iload_n hx hb dX5_tallyLeaksAt_7 rfl (lv_at hl 1 rfl) ?_
  refine lv_iconst (v := 1) hx hb dX5_tallyLeaksAt_8 (by decide) ?_
  refine lv_iadd hx hb dX5_tallyLeaksAt_9 ?_
  refine lv_topi (fun x1 e1 => ?_)
  have f1 : x1.toInt = i0.toInt + (1 : Int) := by rw [e1]; exact tadd (by have t8 := tb i0; have z8 : (1 : Int32).toInt = 1 := rfl; omega) (by have t8 := tb i0; have z8 : (1 : Int32).toInt = 1 := rfl; omega)
  refine va_iald hx hb hK hP 5 0 rfl rfl (vin (by omega) (by omega)) dX5_tallyLeaksAt_10 ?_
  refine lv_topi (fun x2 e2 => ?_)
  refine lv_iload_n hx hb dX5_tallyLeaksAt_11 rfl (lv_at hl 2 rfl) ?_
  refine lv_iadd hx hb dX5_tallyLeaksAt_12 ?_
  refine lv_topi (fun x3 e3 => ?_)
  refine lv_istore (lv' := [(4, .int x3), (0, .ref f), (1, .int i0), (2, .int i1), (3, .int i2)]) hx hb dX5_tallyLeaksAt_13 hl (by decide) rfl (fun ls hl => ?_)
  refine lv_aload_n hx hb dX5_tallyLeaksAt_15 rfl (lv_at hl 1 rfl) ?_
  refine va_get (D := (dC, dI)) (ci := 5) (v := .ref ff) (C := RX5) (T := TX5) (N := 11) hx hb hts hin5 hown hK hP 0 rfl rfl 5 (by decide) hw2 (fun _ h9 => h9) rfl dX5_tallyLeaksAt_16 ?_
  refine lv_iload_n hx hb dX5_tallyLeaksAt_19 rfl (lv_at hl 2 rfl) ?_
  refine va_iald hx hb hK hP 1 0 rfl rfl (vin (by omega) (by omega)) dX5_tallyLeaksAt_20 ?_
  refine lv_topi (fun x4 e4 => ?_)
  refine lv_istore (lv' := [(6, .int x4), (4, .int x3), (0, .ref f), (1, .int i0), (2, .int i1), (3, .int i2)]) hx hb dX5_tallyLeaksAt_21 hl (by decide) rfl (fun ls hl => ?_)
  have hl0 := hl
  clear hl
  obtain ⟨H, hHe⟩ : ∃ H : Heap, H = s.heap := ⟨_, rfl⟩
  obtain ⟨locs, hlo⟩ : ∃ l : List Loc, l = [] := ⟨_, rfl⟩
  replace hP : va_P (dC, dI) vwCl [(f, .inr (5, [.ref k, .ref d, .ref j, .ref fl, .ref fh, .ref ff, .ref fa, .ref fm, .int fct, .int frb, .int fsl])), (ff, .inl (cI, 60, .inl fff)), (fa, .inl (cI, 60, .inl ffa)), (fm, .inl (cI, 21, .inl ffm)), (j, .inr (1, [.ref k, .ref d, .ref jd, .ref jb, .ref jw, .ref jl, .int jbad, .int jwhy, .int jleft, .int jday, .int jwarmDay, .int jbagDays, .int jburnt, .int jboiled])), (jl, .inl (cI, 61, .inl jfl))] H := by rw [hHe]; exact hP
  replace hS : va_S A s.heap H locs := by rw [hHe, hlo]; exact hS
  rw [← hHe, ← hlo]
  clear hHe hlo
  have hP0 := hP
  clear hP
  have hD0 := hD
  clear hD
  obtain ⟨y6, yfm, ex, hl, hP, hD⟩ : ∃ (y6 : Int32) (yfm : Nat → Int32), (y6.toInt ≤ y6.toInt) ∧ lv_has ls 10 [(6, .int y6), (4, .int x3), (0, .ref f), (1, .int i0), (2, .int i1), (3, .int i2)] ∧ va_P (dC, dI) vwCl [(f, .inr (5, [.ref k, .ref d, .ref j, .ref fl, .ref fh, .ref ff, .ref fa, .ref fm, .int fct, .int frb, .int fsl])), (ff, .inl (cI, 60, .inl fff)), (fa, .inl (cI, 60, .inl ffa)), (fm, .inl (cI, 21, .inl yfm)), (j, .inr (1, [.ref k, .ref d, .ref jd, .ref jb, .ref jw, .ref jl, .int jbad, .int jwhy, .int jleft, .int jday, .int jwarmDay, .int jbagDays, .int jburnt, .int jboiled])), (jl, .inl (cI, 61, .inl jfl))] H ∧ va_D A [(f, .inr (5, [.ref k, .ref d, .ref j, .ref fl, .ref fh, .ref ff, .ref fa, .ref fm, .int fct, .int frb, .int fsl])), (ff, .inl (cI, 60, .inl fff)), (fa, .inl (cI, 60, .inl ffa)), (fm, .inl (cI, 21, .inl yfm)), (j, .inr (1, [.ref k, .ref d, .ref jd, .ref jb, .ref jw, .ref jl, .int jbad, .int jwhy, .int jleft, .int jday, .int jwarmDay, .int jbagDays, .int jburnt, .int jboiled])), (jl, .inl (cI, 61, .inl jfl))] := ⟨x4, ffm, by omega, hl0, hP0, hD0⟩
  clear hl0 hP0 hD0
  obtain ⟨n5, hn⟩ : ∃ n : Nat, 201 - y6.toInt ≤ (n : Int) := ⟨(201 - y6.toInt).toNat, by omega⟩
  induction n5 generalizing y6 yfm ls H locs with
  | zero =>
    skip
    refine lv_iload hx hb dX5_tallyLeaksAt_23 (lv_at hl 0 rfl) ?_
    refine lv_aload_n hx hb dX5_tallyLeaksAt_25 rfl (lv_at hl 2 rfl) ?_
    refine va_get (D := (dC, dI)) (ci := 5) (v := .ref fa) (C := RX5) (T := TX5) (N := 11) hx hb hts hin5 hown hK hP 0 rfl rfl 6 (by decide) hw3 (fun _ h9 => h9) rfl dX5_tallyLeaksAt_26 ?_
    refine lv_iload_n hx hb dX5_tallyLeaksAt_29 rfl (lv_at hl 3 rfl) ?_
    refine va_iald hx hb hK hP 2 0 rfl rfl (vin (by omega) (by omega)) dX5_tallyLeaksAt_30 ?_
    refine lv_topi (fun x6 e6 => ?_)
    have g6 : (-2147483648) ≤ x6.toInt ∧ x6.toInt ≤ 200 := by rw [e6]; exact rgI h_ffa (by omega) (by omega)
    refine lv_icmp_gt (tgt := 112) hx hb dX5_tallyLeaksAt_31 (by decide) (fun c7 => ?_) (fun c7 => by exfalso; have t7 : y6.toInt ≤ x6.toInt := (tnlt c7); omega)
    have hP9 := mx_subP (wc := [(f, .inr (5, [.ref k, .ref d, .ref j, .ref fl, .ref fh, .ref ff, .ref fa, .ref fm, .int fct, .int frb, .int fsl])), (ff, .inl (cI, 60, .inl fff)), (fa, .inl (cI, 60, .inl ffa)), (fm, .inl (cI, 21, .inl yfm)), (j, .inr (1, [.ref k, .ref d, .ref jd, .ref jb, .ref jw, .ref jl, .int jbad, .int jwhy, .int jleft, .int jday, .int jwarmDay, .int jbagDays, .int jburnt, .int jboiled])), (jl, .inl (cI, 61, .inl jfl))]) hP [0, 1, 2, 3, 4, 5] rfl
    have hD9 := hD.sub (ws' := [(f, .inr (5, [.ref k, .ref d, .ref j, .ref fl, .ref fh, .ref ff, .ref fa, .ref fm, .int fct, .int frb, .int fsl])), (ff, .inl (cI, 60, .inl fff)), (fa, .inl (cI, 60, .inl ffa)), (fm, .inl (cI, 21, .inl yfm)), (j, .inr (1, [.ref k, .ref d, .ref jd, .ref jb, .ref jw, .ref jl, .int jbad, .int jwhy, .int jleft, .int jday, .int jwarmDay, .int jbagDays, .int jburnt, .int jboiled])), (jl, .inl (cI, 61, .inl jfl))]) [0, 1, 2, 3, 4, 5] (by decide) rfl
    exact W.vret hx hb hr (fun t ht hW => ⟨⟨((fun u9 => ([yfm] : List (Nat → Int32)).getD u9 (fun _ => 0)), (fun u9 => ([] : List Int32).getD u9 0), (fun u9 => ([] : List Int64).getD u9 0)), rfl, trivial, by rw [ht]; exact hP9, hD9⟩, hS.F ht⟩) hS.2.2 dX5_tallyLeaksAt_112
  | succ n5 ih =>
    skip
    refine lv_iload hx hb dX5_tallyLeaksAt_23 (lv_at hl 0 rfl) ?_
    refine lv_aload_n hx hb dX5_tallyLeaksAt_25 rfl (lv_at hl 2 rfl) ?_
    refine va_get (D := (dC, dI)) (ci := 5) (v := .ref fa) (C := RX5) (T := TX5) (N := 11) hx hb hts hin5 hown hK hP 0 rfl rfl 6 (by decide) hw3 (fun _ h9 => h9) rfl dX5_tallyLeaksAt_26 ?_
    refine lv_iload_n hx hb dX5_tallyLeaksAt_29 rfl (lv_at hl 3 rfl) ?_
    refine va_iald hx hb hK hP 2 0 rfl rfl (vin (by omega) (by omega)) dX5_tallyLeaksAt_30 ?_
    refine lv_topi (fun x8 e8 => ?_)
    have g8 : (-2147483648) ≤ x8.toInt ∧ x8.toInt ≤ 200 := by rw [e8]; exact rgI h_ffa (by omega) (by omega)
    refine lv_icmp_gt (tgt := 112) hx hb dX5_tallyLeaksAt_31 (by decide) (fun c9 => ?_) (fun c9 => ?_)
    · have t9 : x8.toInt < y6.toInt := (tlt c9)
      have hP9 := mx_subP (wc := [(f, .inr (5, [.ref k, .ref d, .ref j, .ref fl, .ref fh, .ref ff, .ref fa, .ref fm, .int fct, .int frb, .int fsl])), (ff, .inl (cI, 60, .inl fff)), (fa, .inl (cI, 60, .inl ffa)), (fm, .inl (cI, 21, .inl yfm)), (j, .inr (1, [.ref k, .ref d, .ref jd, .ref jb, .ref jw, .ref jl, .int jbad, .int jwhy, .int jleft, .int jday, .int jwarmDay, .int jbagDays, .int jburnt, .int jboiled])), (jl, .inl (cI, 61, .inl jfl))]) hP [0, 1, 2, 3, 4, 5] rfl
      have hD9 := hD.sub (ws' := [(f, .inr (5, [.ref k, .ref d, .ref j, .ref fl, .ref fh, .ref ff, .ref fa, .ref fm, .int fct, .int frb, .int fsl])), (ff, .inl (cI, 60, .inl fff)), (fa, .inl (cI, 60, .inl ffa)), (fm, .inl (cI, 21, .inl yfm)), (j, .inr (1, [.ref k, .ref d, .ref jd, .ref jb, .ref jw, .ref jl, .int jbad, .int jwhy, .int jleft, .int jday, .int jwarmDay, .int jbagDays, .int jburnt, .int jboiled])), (jl, .inl (cI, 61, .inl jfl))]) [0, 1, 2, 3, 4, 5] (by decide) rfl
      exact W.vret hx hb hr (fun t ht hW => ⟨⟨((fun u9 => ([yfm] : List (Nat → Int32)).getD u9 (fun _ => 0)), (fun u9 => ([] : List Int32).getD u9 0), (fun u9 => ([] : List Int64).getD u9 0)), rfl, trivial, by rw [ht]; exact hP9, hD9⟩, hS.F ht⟩) hS.2.2 dX5_tallyLeaksAt_112
    · have t9 : y6.toInt ≤ x8.toInt := (tnlt c9)
      refine lv_iload hx hb dX5_tallyLeaksAt_34 (lv_at hl 1 rfl) ?_
      refine lv_bipush (v := 10) hx hb dX5_tallyLeaksAt_36 (by decide) ?_
      refine lv_iload hx hb dX5_tallyLeaksAt_38 (lv_at hl 0 rfl) ?_
      refine lv_imul hx hb dX5_tallyLeaksAt_40 ?_
      refine lv_topi (fun x10 e10 => ?_)
      refine lv_isub hx hb dX5_tallyLeaksAt_41 ?_
      refine lv_topi (fun x11 e11 => ?_)
      refine lv_iload_n hx hb dX5_tallyLeaksAt_42 rfl (lv_at hl 5 rfl) ?_
      refine va_mmin hx hb (hml.trans hl.1.symm) hown hw4 hw5 hw6 hw7 (Nat.le_of_ble_eq_true rfl) (Nat.le_of_ble_eq_true rfl) (Nat.le_of_ble_eq_true rfl) (Nat.le_of_ble_eq_true rfl) dX5_tallyLeaksAt_43 ?_
      refine lv_topi (fun x12 e12 => ?_)
      have f12 : x12.toInt ≤ x11.toInt ∧ x12.toInt ≤ i2.toInt ∧ (x12.toInt = x11.toInt ∨ x12.toInt = i2.toInt) := by rw [e12]; exact mmmin_t
      refine lv_istore (lv' := [(7, .int x12), (6, .int y6), (4, .int x3), (0, .ref f), (1, .int i0), (2, .int i1), (3, .int i2)]) hx hb dX5_tallyLeaksAt_46 hl (by decide) rfl (fun ls hl => ?_)
      refine lv_iload hx hb dX5_tallyLeaksAt_48 (lv_at hl 0 rfl) ?_
      refine lv_sipush (v := 200) hx hb dX5_tallyLeaksAt_50 (by decide) ?_
      refine mx_i (wr := [(f, .inr (5, [.ref k, .ref d, .ref j, .ref fl, .ref fh, .ref ff, .ref fa, .ref fm, .int fct, .int frb, .int fsl])), (ff, .inl (cI, 60, .inl fff)), (fa, .inl (cI, 60, .inl ffa)), (fm, .inl (cI, 21, .inl yfm)), (j, .inr (1, [.ref k, .ref d, .ref jd, .ref jb, .ref jw, .ref jl, .int jbad, .int jwhy, .int jleft, .int jday, .int jwarmDay, .int jbagDays, .int jburnt, .int jboiled])), (jl, .inl (cI, 61, .inl jfl))]) (va_runS (As := [.int x12, .int 200]) (rest := []) ⟨hx, hb, hml, hown, hts⟩ (c_J9_floorDiv_7cf53_200 l dC dI cI cZ cK tS aK aV x12 H.size) (va_cwS 2 hts (gw_s (fun _ h9 => List.mem_cons_of_mem _ h9) wm_759 wm_760 wm_272 wm_762) rfl rfl rfl (by decide +kernel) ⟨Nat.le_of_ble_eq_true rfl, Nat.le_of_ble_eq_true rfl⟩) (mx_preS hKx hP hD hS hA [] (by decide) rfl) rfl rfl hl.1 rfl (lv_room (Nat.le_of_ble_eq_true rfl)) dX5_tallyLeaksAt_53 ⟨Nat.le_of_ble_eq_true rfl, Nat.le_of_ble_eq_true rfl⟩) hP hD hS hA [] [0, 1, 2, 3, 4, 5] rfl rfl (by decide) (by decide) (fun r13 u13 H locs hq13 hP hD hS => ?_)
      replace hP : va_P (dC, dI) vwCl [(f, .inr (5, [.ref k, .ref d, .ref j, .ref fl, .ref fh, .ref ff, .ref fa, .ref fm, .int fct, .int frb, .int fsl])), (ff, .inl (cI, 60, .inl fff)), (fa, .inl (cI, 60, .inl ffa)), (fm, .inl (cI, 21, .inl yfm)), (j, .inr (1, [.ref k, .ref d, .ref jd, .ref jb, .ref jw, .ref jl, .int jbad, .int jwhy, .int jleft, .int jday, .int jwarmDay, .int jbagDays, .int jburnt, .int jboiled])), (jl, .inl (cI, 61, .inl jfl))] H := hP
      replace hD : va_D A [(f, .inr (5, [.ref k, .ref d, .ref j, .ref fl, .ref fh, .ref ff, .ref fa, .ref fm, .int fct, .int frb, .int fsl])), (ff, .inl (cI, 60, .inl fff)), (fa, .inl (cI, 60, .inl ffa)), (fm, .inl (cI, 21, .inl yfm)), (j, .inr (1, [.ref k, .ref d, .ref jd, .ref jb, .ref jw, .ref jl, .int jbad, .int jwhy, .int jleft, .int jday, .int jwarmDay, .int jbagDays, .int jburnt, .int jboiled])), (jl, .inl (cI, 61, .inl jfl))] := hD
      refine lv_sipush (v := 200) hx hb dX5_tallyLeaksAt_56 (by decide) ?_
      refine lv_imul hx hb dX5_tallyLeaksAt_59 ?_
      refine lv_topi (fun x14 e14 => ?_)
      refine lv_istore (lv' := [(8, .int x14), (7, .int x12), (6, .int y6), (4, .int x3), (0, .ref f), (1, .int i0), (2, .int i1), (3, .int i2)]) hx hb dX5_tallyLeaksAt_60 hl (by decide) rfl (fun ls hl => ?_)
      refine lv_iload hx hb dX5_tallyLeaksAt_62 (lv_at hl 3 rfl) ?_
      refine lv_iload hx hb dX5_tallyLeaksAt_64 (lv_at hl 0 rfl) ?_
      refine lv_isub hx hb dX5_tallyLeaksAt_66 ?_
      refine lv_topi (fun x15 e15 => ?_)
      refine lv_bipush (v := 10) hx hb dX5_tallyLeaksAt_67 (by decide) ?_
      refine mx_i (wr := [(f, .inr (5, [.ref k, .ref d, .ref j, .ref fl, .ref fh, .ref ff, .ref fa, .ref fm, .int fct, .int frb, .int fsl])), (ff, .inl (cI, 60, .inl fff)), (fa, .inl (cI, 60, .inl ffa)), (fm, .inl (cI, 21, .inl yfm)), (j, .inr (1, [.ref k, .ref d, .ref jd, .ref jb, .ref jw, .ref jl, .int jbad, .int jwhy, .int jleft, .int jday, .int jwarmDay, .int jbagDays, .int jburnt, .int jboiled])), (jl, .inl (cI, 61, .inl jfl))]) (va_runS (As := [.int x15, .int 10]) (rest := []) ⟨hx, hb, hml, hown, hts⟩ (c_J9_floorDiv_7cf53_10 l dC dI cI cZ cK tS aK aV x15 H.size) (va_cwS 2 hts (gw_s (fun _ h9 => List.mem_cons_of_mem _ h9) wm_759 wm_760 wm_272 wm_762) rfl rfl rfl (by decide +kernel) ⟨Nat.le_of_ble_eq_true rfl, Nat.le_of_ble_eq_true rfl⟩) (mx_preS hKx hP hD hS hA [] (by decide) rfl) rfl rfl hl.1 rfl (lv_room (Nat.le_of_ble_eq_true rfl)) dX5_tallyLeaksAt_69 ⟨Nat.le_of_ble_eq_true rfl, Nat.le_of_ble_eq_true rfl⟩) hP hD hS hA [] [0, 1, 2, 3, 4, 5] rfl rfl (by decide) (by decide) (fun r16 u16 H locs hq16 hP hD hS => ?_)
      replace hP : va_P (dC, dI) vwCl [(f, .inr (5, [.ref k, .ref d, .ref j, .ref fl, .ref fh, .ref ff, .ref fa, .ref fm, .int fct, .int frb, .int fsl])), (ff, .inl (cI, 60, .inl fff)), (fa, .inl (cI, 60, .inl ffa)), (fm, .inl (cI, 21, .inl yfm)), (j, .inr (1, [.ref k, .ref d, .ref jd, .ref jb, .ref jw, .ref jl, .int jbad, .int jwhy, .int jleft, .int jday, .int jwarmDay, .int jbagDays, .int jburnt, .int jboiled])), (jl, .inl (cI, 61, .inl jfl))] H := hP
      replace hD : va_D A [(f, .inr (5, [.ref k, .ref d, .ref j, .ref fl, .ref fh, .ref ff, .ref fa, .ref fm, .int fct, .int frb, .int fsl])), (ff, .inl (cI, 60, .inl fff)), (fa, .inl (cI, 60, .inl ffa)), (fm, .inl (cI, 21, .inl yfm)), (j, .inr (1, [.ref k, .ref d, .ref jd, .ref jb, .ref jw, .ref jl, .int jbad, .int jwhy, .int jleft, .int jday, .int jwarmDay, .int jbagDays, .int jburnt, .int jboiled])), (jl, .inl (cI, 61, .inl jfl))] := hD
      refine lv_istore (lv' := [(9, .int r16), (8, .int x14), (7, .int x12), (6, .int y6), (4, .int x3), (0, .ref f), (1, .int i0), (2, .int i1), (3, .int i2)]) hx hb dX5_tallyLeaksAt_72 hl (by decide) rfl (fun ls hl => ?_)
      refine lv_iload hx hb dX5_tallyLeaksAt_74 (lv_at hl 3 rfl) ?_
      refine lv_iload hx hb dX5_tallyLeaksAt_76 (lv_at hl 0 rfl) ?_
      refine lv_aload_n hx hb dX5_tallyLeaksAt_78 rfl (lv_at hl 5 rfl) ?_
      refine va_get (D := (dC, dI)) (ci := 5) (v := .ref fa) (C := RX5) (T := TX5) (N := 11) hx hb hts hin5 hown hK hP 0 rfl rfl 6 (by decide) hw3 (fun _ h9 => h9) rfl dX5_tallyLeaksAt_79 ?_
      refine lv_iload_n hx hb dX5_tallyLeaksAt_82 rfl (lv_at hl 6 rfl) ?_
      refine va_iald hx hb hK hP 2 0 rfl rfl (vin (by omega) (by omega)) dX5_tallyLeaksAt_83 ?_
      refine lv_topi (fun x17 e17 => ?_)
      have g17 : (-2147483648) ≤ x17.toInt ∧ x17.toInt ≤ 200 := by rw [e17]; exact rgI h_ffa (by omega) (by omega)
      refine va_mmin hx hb (hml.trans hl.1.symm) hown hw4 hw5 hw6 hw7 (Nat.le_of_ble_eq_true rfl) (Nat.le_of_ble_eq_true rfl) (Nat.le_of_ble_eq_true rfl) (Nat.le_of_ble_eq_true rfl) dX5_tallyLeaksAt_84 ?_
      refine lv_topi (fun x18 e18 => ?_)
      have f18 : x18.toInt ≤ r16.toInt ∧ x18.toInt ≤ x17.toInt ∧ (x18.toInt = r16.toInt ∨ x18.toInt = x17.toInt) := by rw [e18]; exact mmmin_t
      refine va_mmax hx hb (hml.trans hl.1.symm) hown hw8 hw9 hw6 hw10 (Nat.le_of_ble_eq_true rfl) (Nat.le_of_ble_eq_true rfl) (Nat.le_of_ble_eq_true rfl) (Nat.le_of_ble_eq_true rfl) dX5_tallyLeaksAt_87 ?_
      refine lv_topi (fun x19 e19 => ?_)
      have f19 : x19.toInt ≥ y6.toInt ∧ x19.toInt ≥ x18.toInt ∧ (x19.toInt = y6.toInt ∨ x19.toInt = x18.toInt) := by rw [e19]; exact mmmax_t
      refine lv_iconst (v := 1) hx hb dX5_tallyLeaksAt_90 (by decide) ?_
      refine lv_iadd hx hb dX5_tallyLeaksAt_91 ?_
      refine lv_topi (fun x20 e20 => ?_)
      have f20 : x20.toInt = x19.toInt + (1 : Int) := by rw [e20]; exact tadd (by have t8 := tb x19; have z8 : (1 : Int32).toInt = 1 := rfl; omega) (by have t8 := tb x19; have z8 : (1 : Int32).toInt = 1 := rfl; omega)
      refine lv_istore (lv' := [(5, .int x20), (9, .int r16), (8, .int x14), (7, .int x12), (6, .int y6), (4, .int x3), (0, .ref f), (1, .int i0), (2, .int i1), (3, .int i2)]) hx hb dX5_tallyLeaksAt_92 hl (by decide) rfl (fun ls hl => ?_)
      refine lv_aload_n hx hb dX5_tallyLeaksAt_94 rfl (lv_at hl 6 rfl) ?_
      refine lv_iload hx hb dX5_tallyLeaksAt_95 (lv_at hl 3 rfl) ?_
      refine lv_iload hx hb dX5_tallyLeaksAt_97 (lv_at hl 0 rfl) ?_
      refine lv_iload hx hb dX5_tallyLeaksAt_99 (lv_at hl 4 rfl) ?_
      refine lv_isub hx hb dX5_tallyLeaksAt_101 ?_
      refine lv_topi (fun x21 e21 => ?_)
      refine mx_v (wr := [(ff, .inl (cI, 60, .inl fff)), (fa, .inl (cI, 60, .inl ffa)), (j, .inr (1, [.ref k, .ref d, .ref jd, .ref jb, .ref jw, .ref jl, .int jbad, .int jwhy, .int jleft, .int jday, .int jwarmDay, .int jbagDays, .int jburnt, .int jboiled])), (jl, .inl (cI, 61, .inl jfl))]) (va_runV (As := [.int x12, .int x21]) (rest := []) ⟨hx, hb, hml, hown, hts⟩ (c_X5_tally l dC dI cI cZ cK tS aK aV f x12 x21 k d j fl fh ff fa fm fct frb fsl yfm H.size) (cwV 2 hts (gw_v (fun _ h9 => List.mem_cons_of_mem _ h9) wm_817 wm_818 wm_819 wm_30 wm_820) rfl rfl rfl (by decide +kernel) ⟨Nat.le_of_ble_eq_true rfl, Nat.le_of_ble_eq_true rfl⟩) (mx_preV (C := RX5) (T := TX5) (N := 11) (ci := 5) hKx hP hD hS hA [0, 3] (by decide) rfl rfl rfl) rfl rfl hl.1 rfl (lv_room (Nat.le_of_ble_eq_true rfl)) dX5_tallyLeaksAt_102 ⟨Nat.le_of_ble_eq_true rfl, Nat.le_of_ble_eq_true rfl⟩) hP hD hS hA [0, 3] [1, 2, 4, 5] rfl rfl (by decide) (by decide) (fun u22 H locs hq22 hP hD hS => ?_)
      replace hP : va_P (dC, dI) vwCl [(ff, .inl (cI, 60, .inl fff)), (fa, .inl (cI, 60, .inl ffa)), (j, .inr (1, [.ref k, .ref d, .ref jd, .ref jb, .ref jw, .ref jl, .int jbad, .int jwhy, .int jleft, .int jday, .int jwarmDay, .int jbagDays, .int jburnt, .int jboiled])), (jl, .inl (cI, 61, .inl jfl)), (f, .inr (5, [.ref k, .ref d, .ref j, .ref fl, .ref fh, .ref ff, .ref fa, .ref fm, .int fct, .int frb, .int fsl])), (fm, .inl (cI, 21, .inl (u22.1 0)))] H := hP
      replace hD : va_D A [(ff, .inl (cI, 60, .inl fff)), (fa, .inl (cI, 60, .inl ffa)), (j, .inr (1, [.ref k, .ref d, .ref jd, .ref jb, .ref jw, .ref jl, .int jbad, .int jwhy, .int jleft, .int jday, .int jwarmDay, .int jbagDays, .int jburnt, .int jboiled])), (jl, .inl (cI, 61, .inl jfl)), (f, .inr (5, [.ref k, .ref d, .ref j, .ref fl, .ref fh, .ref ff, .ref fa, .ref fm, .int fct, .int frb, .int fsl])), (fm, .inl (cI, 21, .inl (u22.1 0)))] := hD
      refine lv_iload hx hb dX5_tallyLeaksAt_105 (lv_at hl 0 rfl) ?_
      refine lv_istore (lv' := [(6, .int x20), (5, .int x20), (9, .int r16), (8, .int x14), (7, .int x12), (4, .int x3), (0, .ref f), (1, .int i0), (2, .int i1), (3, .int i2)]) hx hb dX5_tallyLeaksAt_107 hl (by decide) rfl (fun ls hl => ?_)
      refine lv_goto (tgt := 23) hx hb dX5_tallyLeaksAt_109 (by decide) ?_
      exact ih (H := H) (locs := locs) (ls := ls) (y6 := x20) (yfm := (u22.1 0)) hS (by omega)  (show lv_has ls 10 [(6, .int x20), (4, .int x3), (0, .ref f), (1, .int i0), (2, .int i1), (3, .int i2)] from lv_sub hl [0, 5, 6, 7, 8, 9] rfl) (mx_subP (wc := [(f, .inr (5, [.ref k, .ref d, .ref j, .ref fl, .ref fh, .ref ff, .ref fa, .ref fm, .int fct, .int frb, .int fsl])), (ff, .inl (cI, 60, .inl fff)), (fa, .inl (cI, 60, .inl ffa)), (fm, .inl (cI, 21, .inl (u22.1 0))), (j, .inr (1, [.ref k, .ref d, .ref jd, .ref jb, .ref jw, .ref jl, .int jbad, .int jwhy, .int jleft, .int jday, .int jwarmDay, .int jbagDays, .int jburnt, .int jboiled])), (jl, .inl (cI, 61, .inl jfl))]) hP [4, 0, 1, 5, 2, 3] rfl) (hD.sub (ws' := [(f, .inr (5, [.ref k, .ref d, .ref j, .ref fl, .ref fh, .ref ff, .ref fa, .ref fm, .int fct, .int frb, .int fsl])), (ff, .inl (cI, 60, .inl fff)), (fa, .inl (cI, 60, .inl ffa)), (fm, .inl (cI, 21, .inl (u22.1 0))), (j, .inr (1, [.ref k, .ref d, .ref jd, .ref jb, .ref jw, .ref jl, .int jbad, .int jwhy, .int jleft, .int jday, .int jwarmDay, .int jbagDays, .int jburnt, .int jboiled])), (jl, .inl (cI, 61, .inl jfl))]) [4, 0, 1, 5, 2, 3] (by decide) rfl) (by omega)
set_option maxHeartbeats 4000000 in
set_option maxRecDepth 100000 in
theorem c_X5_worstBehind (l : Launch) (dC : Nat → ClassId) (dI : Nat → Nat → Nat) (cI cZ cK : ClassId) (tS : Nat) (aK aV : Nat → Nat) (f : Nat) (i0 : Int32) (k : Nat) (d : Nat) (j : Nat) (fl : Nat) (fh : Nat) (ff : Nat) (fa : Nat) (fm : Nat) (fct : Int32) (frb : Int32) (fsl : Int32) (fff : Nat → Int32) (ffa : Nat → Int32) (ffm : Nat → Int32) (ds : Nat) (dsz : Int32) (dk : Nat) (dw : Nat) (dac : Int32) (dwr : Int32) (dfk : Nat → Int32) (jd : Nat) (jb : Nat) (jw : Nat) (jl : Nat) (jbad : Int32) (jwhy : Int32) (jleft : Int32) (jday : Int32) (jwarmDay : Int32) (jbagDays : Int32) (jburnt : Int32) (jboiled : Int32) (jfb : Nat → Int32) (jfl : Nat → Int32) (sz : Nat) (h_ffa : rg ffa 60 (-2147483648) 200) (h_i0 : 0 ≤ i0.toInt ∧ i0.toInt ≤ 59) (h_dac : 0 ≤ dac.toInt ∧ dac.toInt ≤ 60) (hra : i0.toInt < dac.toInt) : Ci l yX5_worstBehind (wq yX5_worstBehind cX5_worstBehind 6 (some .int)) ({ frames := 3, cells := 0, slots := 0, locals := 74 }) dC dI cI cZ cK tS aK aV [.ref f, .int i0] sz [(f, .inr (5, [.ref k, .ref d, .ref j, .ref fl, .ref fh, .ref ff, .ref fa, .ref fm, .int fct, .int frb, .int fsl])), (ff, .inl (cI, 60, .inl fff)), (fa, .inl (cI, 60, .inl ffa)), (fm, .inl (cI, 21, .inl ffm)), (d, .inr (4, [.ref ds, .int dsz, .ref dk, .ref dw, .int dac, .int dwr])), (dk, .inl (cI, 60, .inl dfk)), (j, .inr (1, [.ref k, .ref d, .ref jd, .ref jb, .ref jw, .ref jl, .int jbad, .int jwhy, .int jleft, .int jday, .int jwarmDay, .int jbagDays, .int jburnt, .int jboiled])), (jb, .inl (cI, 60, .inl jfb)), (jl, .inl (cI, 61, .inl jfl))] (fun (r : Int32) (u : (Nat → Nat → Int32) × (Nat → Int32) × (Nat → Int64)) => True) (fun u => [(f, .inr (5, [.ref k, .ref d, .ref j, .ref fl, .ref fh, .ref ff, .ref fa, .ref fm, .int fct, .int frb, .int fsl])), (ff, .inl (cI, 60, .inl fff)), (fa, .inl (cI, 60, .inl ffa)), (fm, .inl (cI, 21, .inl (u.1 0))), (d, .inr (4, [.ref ds, .int dsz, .ref dk, .ref dw, .int dac, .int dwr])), (dk, .inl (cI, 60, .inl dfk)), (j, .inr (1, [.ref k, .ref d, .ref jd, .ref jb, .ref jw, .ref jl, .int jbad, .int jwhy, .int jleft, .int jday, .int jwarmDay, .int jbagDays, .int jburnt, .int jboiled])), (jb, .inl (cI, 60, .inl jfb)), (jl, .inl (cI, 61, .inl jfl))]) := by
  refine Met.ofW (cc := cX5_worstBehind) (maxL := 6) (ret := (some .int)) (by decide) rfl ?_
  intro p e s m args below meth c s₁ B hml hv
  obtain ⟨rfl, hsz, hP, hKx, hD0⟩ := hv
  have hx := B.exec
  have hb := B.bytes
  have hr := B.returns
  have hts := atoms_spec (ws := wq yX5_worstBehind cX5_worstBehind 6 (some .int)) B.pre
  have hown : s.vm.findClass RX5 = some m.cls := findClass_of_methodNamed B.named
  have hlocks := B.notSynchronized
  subst hsz
  have hD := hD0.self (sz := s.heap.size)
  generalize hAe : va_A [(f, .inr (5, [.ref k, .ref d, .ref j, .ref fl, .ref fh, .ref ff, .ref fa, .ref fm, .int fct, .int frb, .int fsl])), (ff, .inl (cI, 60, .inl fff)), (fa, .inl (cI, 60, .inl ffa)), (fm, .inl (cI, 21, .inl ffm)), (d, .inr (4, [.ref ds, .int dsz, .ref dk, .ref dw, .int dac, .int dwr])), (dk, .inl (cI, 60, .inl dfk)), (j, .inr (1, [.ref k, .ref d, .ref jd, .ref jb, .ref jw, .ref jl, .int jbad, .int jwhy, .int jleft, .int jday, .int jwarmDay, .int jbagDays, .int jburnt, .int jboiled])), (jb, .inl (cI, 60, .inl jfb)), (jl, .inl (cI, 61, .inl jfl))] s.heap.size = A at hD hKx ⊢
  have hA : ∀ q : Nat, s.heap.size ≤ q → A q := fun q h => by rw [← hAe]; exact Or.inr h
  have hS : va_S A s.heap s.heap [] := va_S.rf
  have hP : va_P (dC, dI) vwCl [(f, .inr (5, [.ref k, .ref d, .ref j, .ref fl, .ref fh, .ref ff, .ref fa, .ref fm, .int fct, .int frb, .int fsl])), (ff, .inl (cI, 60, .inl fff)), (fa, .inl (cI, 60, .inl ffa)), (fm, .inl (cI, 21, .inl ffm)), (d, .inr (4, [.ref ds, .int dsz, .ref dk, .ref dw, .int dac, .int dwr])), (dk, .inl (cI, 60, .inl dfk)), (j, .inr (1, [.ref k, .ref d, .ref jd, .ref jb, .ref jw, .ref jl, .int jbad, .int jwhy, .int jleft, .int jday, .int jwarmDay, .int jbagDays, .int jburnt, .int jboiled])), (jb, .inl (cI, 60, .inl jfb)), (jl, .inl (cI, 61, .inl jfl))] s.heap := hP
  have hl := lv_entry ([.ref f, .int i0]) (n := 6) (Nat.le_of_ble_eq_true rfl)
  rw [lg_entry_eq]
  generalize (lg_sl ([.ref f, .int i0]) ++ List.replicate (6 - (lg_sl ([.ref f, .int i0])).length) Slot.unset).toArray = ls at hl ⊢
  have hl : lv_has ls 6 [(0, .ref f), (1, .int i0)] := hl
  have hK := hKx.1
  have hin5 := fun w9 h9 => List.mem_cons_of_mem (Cond.code yX5_worstBehind cX5_worstBehind 6 (some .int)) (inlX5 w9 h9)
  have hin4 := fun w9 h9 => List.mem_cons_of_mem (Cond.code yX5_worstBehind cX5_worstBehind 6 (some .int)) (inlX4 w9 h9)
  have hin1 := fun w9 h9 => List.mem_cons_of_mem (Cond.code yX5_worstBehind cX5_worstBehind 6 (some .int)) (inlX1 w9 h9)
  have hw0 := hts (.fieldLink RX5 31 "OneCan$Search" "pad" "LOneCan$Pad;") (List.mem_cons_of_mem _ wm_93)
  have hw1 := hts (.fieldLink RX5 54 "OneCan$Pad" "acts" "I") (List.mem_cons_of_mem _ wm_738)
  have hw2 := hts (.fieldLink RX5 24 "OneCan$Search" "byMark" "[I") (List.mem_cons_of_mem _ wm_91)
  have hw3 := hts (.methodLink RX5 70 Lib.Math.max.name) (List.mem_cons_of_mem _ wm_740)
  have hw4 := hts (.static Lib.Math.max.name) (List.mem_cons_of_mem _ wm_271)
  have hw5 := hts (.initialized "java/lang/Math") (List.mem_cons_of_mem _ wm_272)
  have hw6 := hts (.code Lib.Math.max.name Lib.Math.max.code 2 (some .int)) (List.mem_cons_of_mem _ wm_273)
  have hw7 := hts (.fieldLink RX5 107 "OneCan$Pad" "kinds" "[I") (List.mem_cons_of_mem _ wm_758)
  have hw8 := hts (.fieldLink RX5 35 "OneCan$Search" "course" "LOneCan$Course;") (List.mem_cons_of_mem _ wm_94)
  have hw9 := hts (.fieldLink RX5 104 "OneCan$Course" "burns" "[I") (List.mem_cons_of_mem _ wm_757)
  have hw10 := hts (.methodLink RX5 73 Lib.Math.min.name) (List.mem_cons_of_mem _ wm_741)
  have hw11 := hts (.static Lib.Math.min.name) (List.mem_cons_of_mem _ wm_275)
  have hw12 := hts (.code Lib.Math.min.name Lib.Math.min.code 2 (some .int)) (List.mem_cons_of_mem _ wm_276)
  have hw13 := hts (.fieldLink RX5 59 "OneCan$Course" "lefts" "[I") (List.mem_cons_of_mem _ wm_739)
  refine lv_iconst (v := 0) hx hb dX5_worstBehind_0 (by decide) ?_
  refine lv_istore_n (lv' := [(2, .int 0), (0, .ref f), (1, .int i0)]) hx hb dX5_worstBehind_1 rfl hl (by decide) rfl (fun ls hl => ?_)
  have z2 : (0 : Int32).toInt = 0 := rfl
  have hl0 := hl
  clear hl
  obtain ⟨H, hHe⟩ : ∃ H : Heap, H = s.heap := ⟨_, rfl⟩
  obtain ⟨locs, hlo⟩ : ∃ l : List Loc, l = [] := ⟨_, rfl⟩
  replace hP : va_P (dC, dI) vwCl [(f, .inr (5, [.ref k, .ref d, .ref j, .ref fl, .ref fh, .ref ff, .ref fa, .ref fm, .int fct, .int frb, .int fsl])), (ff, .inl (cI, 60, .inl fff)), (fa, .inl (cI, 60, .inl ffa)), (fm, .inl (cI, 21, .inl ffm)), (d, .inr (4, [.ref ds, .int dsz, .ref dk, .ref dw, .int dac, .int dwr])), (dk, .inl (cI, 60, .inl dfk)), (j, .inr (1, [.ref k, .ref d, .ref jd, .ref jb, .ref jw, .ref jl, .int jbad, .int jwhy, .int jleft, .int jday, .int jwarmDay, .int jbagDays, .int jburnt, .int jboiled])), (jb, .inl (cI, 60, .inl jfb)), (jl, .inl (cI, 61, .inl jfl))] H := by rw [hHe]; exact hP
  replace hS : va_S A s.heap H locs := by rw [hHe, hlo]; exact hS
  rw [← hHe, ← hlo]
  clear hHe hlo
  have hP0 := hP
  clear hP
  have hD0 := hD
  clear hD
  obtain ⟨y2, yfm, ex, hl, hP, hD⟩ : ∃ (y2 : Int32) (yfm : Nat → Int32), (0 ≤ y2.toInt ∧ y2.toInt ≤ 21) ∧ lv_has ls 6 [(2, .int y2), (0, .ref f), (1, .int i0)] ∧ va_P (dC, dI) vwCl [(f, .inr (5, [.ref k, .ref d, .ref j, .ref fl, .ref fh, .ref ff, .ref fa, .ref fm, .int fct, .int frb, .int fsl])), (ff, .inl (cI, 60, .inl fff)), (fa, .inl (cI, 60, .inl ffa)), (fm, .inl (cI, 21, .inl yfm)), (d, .inr (4, [.ref ds, .int dsz, .ref dk, .ref dw, .int dac, .int dwr])), (dk, .inl (cI, 60, .inl dfk)), (j, .inr (1, [.ref k, .ref d, .ref jd, .ref jb, .ref jw, .ref jl, .int jbad, .int jwhy, .int jleft, .int jday, .int jwarmDay, .int jbagDays, .int jburnt, .int jboiled])), (jb, .inl (cI, 60, .inl jfb)), (jl, .inl (cI, 61, .inl jfl))] H ∧ va_D A [(f, .inr (5, [.ref k, .ref d, .ref j, .ref fl, .ref fh, .ref ff, .ref fa, .ref fm, .int fct, .int frb, .int fsl])), (ff, .inl (cI, 60, .inl fff)), (fa, .inl (cI, 60, .inl ffa)), (fm, .inl (cI, 21, .inl yfm)), (d, .inr (4, [.ref ds, .int dsz, .ref dk, .ref dw, .int dac, .int dwr])), (dk, .inl (cI, 60, .inl dfk)), (j, .inr (1, [.ref k, .ref d, .ref jd, .ref jb, .ref jw, .ref jl, .int jbad, .int jwhy, .int jleft, .int jday, .int jwarmDay, .int jbagDays, .int jburnt, .int jboiled])), (jb, .inl (cI, 60, .inl jfb)), (jl, .inl (cI, 61, .inl jfl))] := ⟨0, ffm, by omega, hl0, hP0, hD0⟩
  clear hl0 hP0 hD0
  obtain ⟨n1, hn⟩ : ∃ n : Nat, (n : Int) = 21 - y2.toInt := ⟨(21 - y2.toInt).toNat, by omega⟩
  induction n1 generalizing y2 yfm ls H locs with
  | zero =>
    skip
    refine lv_iload_n hx hb dX5_worstBehind_2 rfl (lv_at hl 0 rfl) ?_
    refine lv_bipush (v := 21) hx hb dX5_worstBehind_3 (by decide) ?_
    refine lv_icmp_ge (tgt := 21) hx hb dX5_worstBehind_5 (by decide) (fun c3 => ?_) (fun c3 => by exfalso; have t3 : y2.toInt < (21 : Int) := (tnle c3); omega)
    refine lv_iload_n hx hb dX5_worstBehind_21 rfl (lv_at hl 2 rfl) ?_
    refine lv_iconst (v := 1) hx hb dX5_worstBehind_22 (by decide) ?_
    refine lv_iadd hx hb dX5_worstBehind_23 ?_
    refine lv_topi (fun x4 e4 => ?_)
    have f4 : x4.toInt = i0.toInt + (1 : Int) := by rw [e4]; exact tadd (by have t8 := tb i0; have z8 : (1 : Int32).toInt = 1 := rfl; omega) (by have t8 := tb i0; have z8 : (1 : Int32).toInt = 1 := rfl; omega)
    refine lv_istore_n (lv' := [(2, .int x4), (0, .ref f), (1, .int i0)]) hx hb dX5_worstBehind_24 rfl hl (by decide) rfl (fun ls hl => ?_)
    have hl0 := hl
    clear hl
    have hP0 := hP
    clear hP
    have hD0 := hD
    clear hD
    obtain ⟨z2, zfm, ex, hl, hP, hD⟩ : ∃ (z2 : Int32) (zfm : Nat → Int32), (1 ≤ z2.toInt ∧ z2.toInt ≤ dac.toInt) ∧ lv_has ls 6 [(2, .int z2), (0, .ref f), (1, .int i0)] ∧ va_P (dC, dI) vwCl [(f, .inr (5, [.ref k, .ref d, .ref j, .ref fl, .ref fh, .ref ff, .ref fa, .ref fm, .int fct, .int frb, .int fsl])), (ff, .inl (cI, 60, .inl fff)), (fa, .inl (cI, 60, .inl ffa)), (fm, .inl (cI, 21, .inl zfm)), (d, .inr (4, [.ref ds, .int dsz, .ref dk, .ref dw, .int dac, .int dwr])), (dk, .inl (cI, 60, .inl dfk)), (j, .inr (1, [.ref k, .ref d, .ref jd, .ref jb, .ref jw, .ref jl, .int jbad, .int jwhy, .int jleft, .int jday, .int jwarmDay, .int jbagDays, .int jburnt, .int jboiled])), (jb, .inl (cI, 60, .inl jfb)), (jl, .inl (cI, 61, .inl jfl))] H ∧ va_D A [(f, .inr (5, [.ref k, .ref d, .ref j, .ref fl, .ref fh, .ref ff, .ref fa, .ref fm, .int fct, .int frb, .int fsl])), (ff, .inl (cI, 60, .inl fff)), (fa, .inl (cI, 60, .inl ffa)), (fm, .inl (cI, 21, .inl zfm)), (d, .inr (4, [.ref ds, .int dsz, .ref dk, .ref dw, .int dac, .int dwr])), (dk, .inl (cI, 60, .inl dfk)), (j, .inr (1, [.ref k, .ref d, .ref jd, .ref jb, .ref jw, .ref jl, .int jbad, .int jwhy, .int jleft, .int jday, .int jwarmDay, .int jbagDays, .int jburnt, .int jboiled])), (jb, .inl (cI, 60, .inl jfb)), (jl, .inl (cI, 61, .inl jfl))] := ⟨x4, yfm, by omega, hl0, hP0, hD0⟩
    clear hl0 hP0 hD0
    obtain ⟨n5, hn⟩ : ∃ n : Nat, (n : Int) = dac.toInt - z2.toInt := ⟨(dac.toInt - z2.toInt).toNat, by omega⟩
    induction n5 generalizing z2 zfm ls H locs with
    | zero =>
      skip
      refine lv_iload_n hx hb dX5_worstBehind_25 rfl (lv_at hl 0 rfl) ?_
      refine lv_aload_n hx hb dX5_worstBehind_26 rfl (lv_at hl 1 rfl) ?_
      refine va_get (D := (dC, dI)) (ci := 5) (v := .ref d) (C := RX5) (T := TX5) (N := 11) hx hb hts hin5 hown hK hP 0 rfl rfl 1 (by decide) hw0 (fun _ h9 => h9) rfl dX5_worstBehind_27 ?_
      refine va_get (D := (dC, dI)) (ci := 4) (v := .int dac) (C := RX4) (T := TX4) (N := 6) hx hb hts hin4 hown hK hP 4 rfl rfl 4 (by decide) hw1 (fun _ h9 => h9) rfl dX5_worstBehind_30 ?_
      refine lv_icmp_ge (tgt := 62) hx hb dX5_worstBehind_33 (by decide) (fun c6 => ?_) (fun c6 => by exfalso; have t6 : z2.toInt < dac.toInt := (tnle c6); omega)
      refine lv_iconst (v := 0) hx hb dX5_worstBehind_62 (by decide) ?_
      refine lv_istore_n (lv' := [(2, .int 0), (0, .ref f), (1, .int i0)]) hx hb dX5_worstBehind_63 rfl hl (by decide) rfl (fun ls hl => ?_)
      refine lv_sipush (v := 4000) hx hb dX5_worstBehind_64 (by decide) ?_
      refine lv_istore_n (lv' := [(3, .int 4000), (2, .int 0), (0, .ref f), (1, .int i0)]) hx hb dX5_worstBehind_67 rfl hl (by decide) rfl (fun ls hl => ?_)
      refine lv_iload_n hx hb dX5_worstBehind_68 rfl (lv_at hl 3 rfl) ?_
      refine lv_istore (lv' := [(4, .int i0), (3, .int 4000), (2, .int 0), (0, .ref f), (1, .int i0)]) hx hb dX5_worstBehind_69 hl (by decide) rfl (fun ls hl => ?_)
      have z8 : (0 : Int32).toInt = 0 := rfl
      have z9 : (4000 : Int32).toInt = 4000 := rfl
      have hl0 := hl
      clear hl
      have hP0 := hP
      clear hP
      have hD0 := hD
      clear hD
      obtain ⟨v2, v3, v4, vfm, ex, hl, hP, hD⟩ : ∃ (v2 v3 v4 : Int32) (vfm : Nat → Int32), (-1 ≤ v4.toInt ∧ v4.toInt ≤ i0.toInt) ∧ lv_has ls 6 [(4, .int v4), (3, .int v3), (2, .int v2), (0, .ref f), (1, .int i0)] ∧ va_P (dC, dI) vwCl [(f, .inr (5, [.ref k, .ref d, .ref j, .ref fl, .ref fh, .ref ff, .ref fa, .ref fm, .int fct, .int frb, .int fsl])), (ff, .inl (cI, 60, .inl fff)), (fa, .inl (cI, 60, .inl ffa)), (fm, .inl (cI, 21, .inl vfm)), (d, .inr (4, [.ref ds, .int dsz, .ref dk, .ref dw, .int dac, .int dwr])), (dk, .inl (cI, 60, .inl dfk)), (j, .inr (1, [.ref k, .ref d, .ref jd, .ref jb, .ref jw, .ref jl, .int jbad, .int jwhy, .int jleft, .int jday, .int jwarmDay, .int jbagDays, .int jburnt, .int jboiled])), (jb, .inl (cI, 60, .inl jfb)), (jl, .inl (cI, 61, .inl jfl))] H ∧ va_D A [(f, .inr (5, [.ref k, .ref d, .ref j, .ref fl, .ref fh, .ref ff, .ref fa, .ref fm, .int fct, .int frb, .int fsl])), (ff, .inl (cI, 60, .inl fff)), (fa, .inl (cI, 60, .inl ffa)), (fm, .inl (cI, 21, .inl vfm)), (d, .inr (4, [.ref ds, .int dsz, .ref dk, .ref dw, .int dac, .int dwr])), (dk, .inl (cI, 60, .inl dfk)), (j, .inr (1, [.ref k, .ref d, .ref jd, .ref jb, .ref jw, .ref jl, .int jbad, .int jwhy, .int jleft, .int jday, .int jwarmDay, .int jbagDays, .int jburnt, .int jboiled])), (jb, .inl (cI, 60, .inl jfb)), (jl, .inl (cI, 61, .inl jfl))] := ⟨0, 4000, i0, zfm, by omega, hl0, hP0, hD0⟩
      clear hl0 hP0 hD0
      obtain ⟨n7, hn⟩ : ∃ n : Nat, (n : Int) = v4.toInt + 1 := ⟨(v4.toInt + 1).toNat, by omega⟩
      induction n7 generalizing v2 v3 v4 vfm ls H locs with
      | zero =>
        skip
        refine lv_iload hx hb dX5_worstBehind_71 (lv_at hl 0 rfl) ?_
        refine lv_if_lt (tgt := 137) hx hb dX5_worstBehind_73 (by decide) (fun c10 => ?_) (fun c10 => by exfalso; have t10 : (0 : Int) ≤ v4.toInt := (tnlt c10); omega)
        refine lv_iconst (v := 0) hx hb dX5_worstBehind_137 (by decide) ?_
        refine lv_istore (lv' := [(4, .int 0), (3, .int v3), (2, .int v2), (0, .ref f), (1, .int i0)]) hx hb dX5_worstBehind_138 hl (by decide) rfl (fun ls hl => ?_)
        refine lv_iconst (v := 0) hx hb dX5_worstBehind_140 (by decide) ?_
        refine lv_istore (lv' := [(5, .int 0), (4, .int 0), (3, .int v3), (2, .int v2), (0, .ref f), (1, .int i0)]) hx hb dX5_worstBehind_141 hl (by decide) rfl (fun ls hl => ?_)
        have z12 : (0 : Int32).toInt = 0 := rfl
        have z13 : (0 : Int32).toInt = 0 := rfl
        have hl0 := hl
        clear hl
        obtain ⟨w4, w5, ex, hl⟩ : ∃ (w4 w5 : Int32), (0 ≤ w5.toInt ∧ w5.toInt ≤ 21) ∧ lv_has ls 6 [(5, .int w5), (4, .int w4), (3, .int v3), (2, .int v2), (0, .ref f), (1, .int i0)] := ⟨0, 0, by omega, hl0⟩
        clear hl0
        obtain ⟨n11, hn⟩ : ∃ n : Nat, (n : Int) = 21 - w5.toInt := ⟨(21 - w5.toInt).toNat, by omega⟩
        induction n11 generalizing w4 w5 ls with
        | zero =>
          skip
          refine lv_iload hx hb dX5_worstBehind_143 (lv_at hl 0 rfl) ?_
          refine lv_bipush (v := 21) hx hb dX5_worstBehind_145 (by decide) ?_
          refine lv_icmp_ge (tgt := 170) hx hb dX5_worstBehind_147 (by decide) (fun c14 => ?_) (fun c14 => by exfalso; have t14 : w5.toInt < (21 : Int) := (tnle c14); omega)
          refine lv_iload hx hb dX5_worstBehind_170 (lv_at hl 1 rfl) ?_
          have hP9 := mx_subP (wc := [(f, .inr (5, [.ref k, .ref d, .ref j, .ref fl, .ref fh, .ref ff, .ref fa, .ref fm, .int fct, .int frb, .int fsl])), (ff, .inl (cI, 60, .inl fff)), (fa, .inl (cI, 60, .inl ffa)), (fm, .inl (cI, 21, .inl vfm)), (d, .inr (4, [.ref ds, .int dsz, .ref dk, .ref dw, .int dac, .int dwr])), (dk, .inl (cI, 60, .inl dfk)), (j, .inr (1, [.ref k, .ref d, .ref jd, .ref jb, .ref jw, .ref jl, .int jbad, .int jwhy, .int jleft, .int jday, .int jwarmDay, .int jbagDays, .int jburnt, .int jboiled])), (jb, .inl (cI, 60, .inl jfb)), (jl, .inl (cI, 61, .inl jfl))]) hP [0, 1, 2, 3, 4, 5, 6, 7, 8] rfl
          have hD9 := hD.sub (ws' := [(f, .inr (5, [.ref k, .ref d, .ref j, .ref fl, .ref fh, .ref ff, .ref fa, .ref fm, .int fct, .int frb, .int fsl])), (ff, .inl (cI, 60, .inl fff)), (fa, .inl (cI, 60, .inl ffa)), (fm, .inl (cI, 21, .inl vfm)), (d, .inr (4, [.ref ds, .int dsz, .ref dk, .ref dw, .int dac, .int dwr])), (dk, .inl (cI, 60, .inl dfk)), (j, .inr (1, [.ref k, .ref d, .ref jd, .ref jb, .ref jw, .ref jl, .int jbad, .int jwhy, .int jleft, .int jday, .int jwarmDay, .int jbagDays, .int jburnt, .int jboiled])), (jb, .inl (cI, 60, .inl jfb)), (jl, .inl (cI, 61, .inl jfl))]) [0, 1, 2, 3, 4, 5, 6, 7, 8] (by decide) rfl
          exact W.iret (v := w4) hx hb hr (fun t ht hW => ⟨⟨w4, ((fun u9 => ([vfm] : List (Nat → Int32)).getD u9 (fun _ => 0)), (fun u9 => ([] : List Int32).getD u9 0), (fun u9 => ([] : List Int64).getD u9 0)), rfl, trivial, by rw [ht]; exact hP9, hD9⟩, hS.F ht⟩) hS.2.2 dX5_worstBehind_172
        | succ n11 ih =>
          skip
          refine lv_iload hx hb dX5_worstBehind_143 (lv_at hl 0 rfl) ?_
          refine lv_bipush (v := 21) hx hb dX5_worstBehind_145 (by decide) ?_
          refine lv_icmp_ge (tgt := 170) hx hb dX5_worstBehind_147 (by decide) (fun c15 => by exfalso; have t15 : (21 : Int) ≤ w5.toInt := (tle c15); omega) (fun c15 => ?_)
          refine lv_iload hx hb dX5_worstBehind_150 (lv_at hl 1 rfl) ?_
          refine lv_aload_n hx hb dX5_worstBehind_152 rfl (lv_at hl 4 rfl) ?_
          refine va_get (D := (dC, dI)) (ci := 5) (v := .ref fm) (C := RX5) (T := TX5) (N := 11) hx hb hts hin5 hown hK hP 0 rfl rfl 7 (by decide) hw2 (fun _ h9 => h9) rfl dX5_worstBehind_153 ?_
          refine lv_iload hx hb dX5_worstBehind_156 (lv_at hl 0 rfl) ?_
          refine va_iald hx hb hK hP 3 0 rfl rfl (vin (by omega) (by omega)) dX5_worstBehind_158 ?_
          refine lv_topi (fun x16 e16 => ?_)
          refine va_mmax hx hb (hml.trans hl.1.symm) hown hw3 hw4 hw5 hw6 (Nat.le_of_ble_eq_true rfl) (Nat.le_of_ble_eq_true rfl) (Nat.le_of_ble_eq_true rfl) (Nat.le_of_ble_eq_true rfl) dX5_worstBehind_159 ?_
          refine lv_topi (fun x17 e17 => ?_)
          have f17 : x17.toInt ≥ w4.toInt ∧ x17.toInt ≥ x16.toInt ∧ (x17.toInt = w4.toInt ∨ x17.toInt = x16.toInt) := by rw [e17]; exact mmmax_t
          refine lv_istore (lv' := [(4, .int x17), (5, .int w5), (3, .int v3), (2, .int v2), (0, .ref f), (1, .int i0)]) hx hb dX5_worstBehind_162 hl (by decide) rfl (fun ls hl => ?_)
          obtain ⟨x18, e18⟩ : ∃ y : Int32, y = w5 + Int32.ofInt 1 := ⟨_, rfl⟩
          refine lv_iinc (v := x18) (lv' := [(5, .int x18), (4, .int x17), (3, .int v3), (2, .int v2), (0, .ref f), (1, .int i0)]) hx hb dX5_worstBehind_164 hl (k := 1) rfl e18.symm (by decide) rfl (fun ls hl => ?_)
          have f18 : x18.toInt = w5.toInt + 1 := by rw [e18]; exact tinc (by decide) (by have t8 := tb w5; omega) (by have t8 := tb w5; omega)
          refine lv_goto (tgt := 143) hx hb dX5_worstBehind_167 (by decide) ?_
          exact ih (ls := ls) (w4 := x17) (w5 := x18) (by omega) (show lv_has ls 6 [(5, .int x18), (4, .int x17), (3, .int v3), (2, .int v2), (0, .ref f), (1, .int i0)] from lv_sub hl [0, 1, 2, 3, 4, 5] rfl) (by omega)
      | succ n7 ih =>
        skip
        refine lv_iload hx hb dX5_worstBehind_71 (lv_at hl 0 rfl) ?_
        refine lv_if_lt (tgt := 137) hx hb dX5_worstBehind_73 (by decide) (fun c19 => by exfalso; have t19 : v4.toInt < (0 : Int) := (tlt c19); omega) (fun c19 => ?_)
        refine lv_aload_n hx hb dX5_worstBehind_76 rfl (lv_at hl 3 rfl) ?_
        refine lv_iload hx hb dX5_worstBehind_77 (lv_at hl 0 rfl) ?_
        refine lv_iload_n hx hb dX5_worstBehind_79 rfl (lv_at hl 2 rfl) ?_
        refine lv_iload_n hx hb dX5_worstBehind_80 rfl (lv_at hl 1 rfl) ?_
        refine mx_v (wr := [(d, .inr (4, [.ref ds, .int dsz, .ref dk, .ref dw, .int dac, .int dwr])), (dk, .inl (cI, 60, .inl dfk)), (jb, .inl (cI, 60, .inl jfb))]) (va_runV (As := [.int v4, .int v2, .int v3]) (rest := []) ⟨hx, hb, hml, hown, hts⟩ (c_X5_tallyLeaksAt l dC dI cI cZ cK tS aK aV f v4 v2 v3 k d j fl fh ff fa fm fct frb fsl fff ffa vfm jd jb jw jl jbad jwhy jleft jday jwarmDay jbagDays jburnt jboiled jfl H.size h_ffa (by first | omega | decide | assumption | trivial)) (cwV 3 hts (gw_v (fun _ h9 => List.mem_cons_of_mem _ h9) wm_821 wm_822 wm_823 wm_30 wm_824) rfl rfl rfl (by decide +kernel) ⟨Nat.le_of_ble_eq_true rfl, Nat.le_of_ble_eq_true rfl⟩) (mx_preV (C := RX5) (T := TX5) (N := 11) (ci := 5) hKx hP hD hS hA [0, 1, 2, 3, 6, 8] (by decide) rfl rfl rfl) rfl rfl hl.1 rfl (lv_room (Nat.le_of_ble_eq_true rfl)) dX5_worstBehind_81 ⟨Nat.le_of_ble_eq_true rfl, Nat.le_of_ble_eq_true rfl⟩) hP hD hS hA [0, 1, 2, 3, 6, 8] [4, 5, 7] rfl rfl (by decide) (by decide) (fun u20 H locs hq20 hP hD hS => ?_)
        replace hP : va_P (dC, dI) vwCl [(d, .inr (4, [.ref ds, .int dsz, .ref dk, .ref dw, .int dac, .int dwr])), (dk, .inl (cI, 60, .inl dfk)), (jb, .inl (cI, 60, .inl jfb)), (f, .inr (5, [.ref k, .ref d, .ref j, .ref fl, .ref fh, .ref ff, .ref fa, .ref fm, .int fct, .int frb, .int fsl])), (ff, .inl (cI, 60, .inl fff)), (fa, .inl (cI, 60, .inl ffa)), (fm, .inl (cI, 21, .inl (u20.1 0))), (j, .inr (1, [.ref k, .ref d, .ref jd, .ref jb, .ref jw, .ref jl, .int jbad, .int jwhy, .int jleft, .int jday, .int jwarmDay, .int jbagDays, .int jburnt, .int jboiled])), (jl, .inl (cI, 61, .inl jfl))] H := hP
        replace hD : va_D A [(d, .inr (4, [.ref ds, .int dsz, .ref dk, .ref dw, .int dac, .int dwr])), (dk, .inl (cI, 60, .inl dfk)), (jb, .inl (cI, 60, .inl jfb)), (f, .inr (5, [.ref k, .ref d, .ref j, .ref fl, .ref fh, .ref ff, .ref fa, .ref fm, .int fct, .int frb, .int fsl])), (ff, .inl (cI, 60, .inl fff)), (fa, .inl (cI, 60, .inl ffa)), (fm, .inl (cI, 21, .inl (u20.1 0))), (j, .inr (1, [.ref k, .ref d, .ref jd, .ref jb, .ref jw, .ref jl, .int jbad, .int jwhy, .int jleft, .int jday, .int jwarmDay, .int jbagDays, .int jburnt, .int jboiled])), (jl, .inl (cI, 61, .inl jfl))] := hD
        refine lv_aload_n hx hb dX5_worstBehind_84 rfl (lv_at hl 3 rfl) ?_
        refine va_get (D := (dC, dI)) (ci := 5) (v := .ref d) (C := RX5) (T := TX5) (N := 11) hx hb hts hin5 hown hK hP 3 rfl rfl 1 (by decide) hw0 (fun _ h9 => h9) rfl dX5_worstBehind_85 ?_
        refine va_get (D := (dC, dI)) (ci := 4) (v := .ref dk) (C := RX4) (T := TX4) (N := 6) hx hb hts hin4 hown hK hP 0 rfl rfl 2 (by decide) hw7 (fun _ h9 => h9) rfl dX5_worstBehind_88 ?_
        refine lv_iload hx hb dX5_worstBehind_91 (lv_at hl 0 rfl) ?_
        refine va_iald hx hb hK hP 1 0 rfl rfl (vin (by omega) (by omega)) dX5_worstBehind_93 ?_
        refine lv_topi (fun x21 e21 => ?_)
        refine lv_bipush (v := 8) hx hb dX5_worstBehind_94 (by decide) ?_
        refine lv_icmp_ne (tgt := 118) hx hb dX5_worstBehind_96 (by decide) (fun c22 => ?_) (fun c22 => ?_)
        · have t22 : x21.toInt ≠ (8 : Int) := (tne c22)
          refine lv_iload_n hx hb dX5_worstBehind_118 rfl (lv_at hl 2 rfl) ?_
          refine lv_aload_n hx hb dX5_worstBehind_119 rfl (lv_at hl 3 rfl) ?_
          refine va_get (D := (dC, dI)) (ci := 5) (v := .ref j) (C := RX5) (T := TX5) (N := 11) hx hb hts hin5 hown hK hP 3 rfl rfl 2 (by decide) hw8 (fun _ h9 => h9) rfl dX5_worstBehind_120 ?_
          refine va_get (D := (dC, dI)) (ci := 1) (v := .ref jb) (C := RX1) (T := TX1) (N := 14) hx hb hts hin1 hown hK hP 7 rfl rfl 3 (by decide) hw9 (fun _ h9 => h9) rfl dX5_worstBehind_123 ?_
          refine lv_iload hx hb dX5_worstBehind_126 (lv_at hl 0 rfl) ?_
          refine va_iald hx hb hK hP 2 0 rfl rfl (vin (by omega) (by omega)) dX5_worstBehind_128 ?_
          refine lv_topi (fun x23 e23 => ?_)
          refine lv_isub hx hb dX5_worstBehind_129 ?_
          refine lv_topi (fun x24 e24 => ?_)
          refine lv_istore_n (lv' := [(2, .int x24), (4, .int v4), (3, .int v3), (0, .ref f), (1, .int i0)]) hx hb dX5_worstBehind_130 rfl hl (by decide) rfl (fun ls hl => ?_)
          obtain ⟨x25, e25⟩ : ∃ y : Int32, y = v4 + Int32.ofInt (-1) := ⟨_, rfl⟩
          refine lv_iinc (v := x25) (lv' := [(4, .int x25), (2, .int x24), (3, .int v3), (0, .ref f), (1, .int i0)]) hx hb dX5_worstBehind_131 hl (k := 1) rfl e25.symm (by decide) rfl (fun ls hl => ?_)
          have f25 : x25.toInt = v4.toInt + (-1) := by rw [e25]; exact tinc (by decide) (by have t8 := tb v4; omega) (by have t8 := tb v4; omega)
          refine lv_goto (tgt := 71) hx hb dX5_worstBehind_134 (by decide) ?_
          exact ih (H := H) (locs := locs) (ls := ls) (v2 := x24) (v3 := v3) (v4 := x25) (vfm := (u20.1 0)) hS (by omega)  (show lv_has ls 6 [(4, .int x25), (3, .int v3), (2, .int x24), (0, .ref f), (1, .int i0)] from lv_sub hl [0, 2, 1, 3, 4] rfl) (mx_subP (wc := [(f, .inr (5, [.ref k, .ref d, .ref j, .ref fl, .ref fh, .ref ff, .ref fa, .ref fm, .int fct, .int frb, .int fsl])), (ff, .inl (cI, 60, .inl fff)), (fa, .inl (cI, 60, .inl ffa)), (fm, .inl (cI, 21, .inl (u20.1 0))), (d, .inr (4, [.ref ds, .int dsz, .ref dk, .ref dw, .int dac, .int dwr])), (dk, .inl (cI, 60, .inl dfk)), (j, .inr (1, [.ref k, .ref d, .ref jd, .ref jb, .ref jw, .ref jl, .int jbad, .int jwhy, .int jleft, .int jday, .int jwarmDay, .int jbagDays, .int jburnt, .int jboiled])), (jb, .inl (cI, 60, .inl jfb)), (jl, .inl (cI, 61, .inl jfl))]) hP [3, 4, 5, 6, 0, 1, 7, 2, 8] rfl) (hD.sub (ws' := [(f, .inr (5, [.ref k, .ref d, .ref j, .ref fl, .ref fh, .ref ff, .ref fa, .ref fm, .int fct, .int frb, .int fsl])), (ff, .inl (cI, 60, .inl fff)), (fa, .inl (cI, 60, .inl ffa)), (fm, .inl (cI, 21, .inl (u20.1 0))), (d, .inr (4, [.ref ds, .int dsz, .ref dk, .ref dw, .int dac, .int dwr])), (dk, .inl (cI, 60, .inl dfk)), (j, .inr (1, [.ref k, .ref d, .ref jd, .ref jb, .ref jw, .ref jl, .int jbad, .int jwhy, .int jleft, .int jday, .int jwarmDay, .int jbagDays, .int jburnt, .int jboiled])), (jb, .inl (cI, 60, .inl jfb)), (jl, .inl (cI, 61, .inl jfl))]) [3, 4, 5, 6, 0, 1, 7, 2, 8] (by decide) rfl) (by omega)
        · have t22 : x21.toInt = (8 : Int) := (teq c22)
          refine lv_iload_n hx hb dX5_worstBehind_99 rfl (lv_at hl 1 rfl) ?_
          refine lv_sipush (v := 4000) hx hb dX5_worstBehind_100 (by decide) ?_
          refine lv_iload_n hx hb dX5_worstBehind_103 rfl (lv_at hl 2 rfl) ?_
          refine lv_iadd hx hb dX5_worstBehind_104 ?_
          refine lv_topi (fun x26 e26 => ?_)
          refine va_mmin hx hb (hml.trans hl.1.symm) hown hw10 hw11 hw5 hw12 (Nat.le_of_ble_eq_true rfl) (Nat.le_of_ble_eq_true rfl) (Nat.le_of_ble_eq_true rfl) (Nat.le_of_ble_eq_true rfl) dX5_worstBehind_105 ?_
          refine lv_topi (fun x27 e27 => ?_)
          have f27 : x27.toInt ≤ v3.toInt ∧ x27.toInt ≤ x26.toInt ∧ (x27.toInt = v3.toInt ∨ x27.toInt = x26.toInt) := by rw [e27]; exact mmmin_t
          refine lv_istore_n (lv' := [(3, .int x27), (4, .int v4), (2, .int v2), (0, .ref f), (1, .int i0)]) hx hb dX5_worstBehind_108 rfl hl (by decide) rfl (fun ls hl => ?_)
          obtain ⟨x28, e28⟩ : ∃ y : Int32, y = v2 + Int32.ofInt 1000 := ⟨_, rfl⟩
          refine lv_iincW (v := x28) (lv' := [(2, .int x28), (3, .int x27), (4, .int v4), (0, .ref f), (1, .int i0)]) hx hb dX5_worstBehind_109 hl (k := 2) rfl e28.symm (by decide) rfl (fun ls hl => ?_)
          refine lv_goto (tgt := 131) hx hb dX5_worstBehind_115 (by decide) ?_
          obtain ⟨x29, e29⟩ : ∃ y : Int32, y = v4 + Int32.ofInt (-1) := ⟨_, rfl⟩
          refine lv_iinc (v := x29) (lv' := [(4, .int x29), (2, .int x28), (3, .int x27), (0, .ref f), (1, .int i0)]) hx hb dX5_worstBehind_131 hl (k := 2) rfl e29.symm (by decide) rfl (fun ls hl => ?_)
          have f29 : x29.toInt = v4.toInt + (-1) := by rw [e29]; exact tinc (by decide) (by have t8 := tb v4; omega) (by have t8 := tb v4; omega)
          refine lv_goto (tgt := 71) hx hb dX5_worstBehind_134 (by decide) ?_
          exact ih (H := H) (locs := locs) (ls := ls) (v2 := x28) (v3 := x27) (v4 := x29) (vfm := (u20.1 0)) hS (by omega)  (show lv_has ls 6 [(4, .int x29), (3, .int x27), (2, .int x28), (0, .ref f), (1, .int i0)] from lv_sub hl [0, 2, 1, 3, 4] rfl) (mx_subP (wc := [(f, .inr (5, [.ref k, .ref d, .ref j, .ref fl, .ref fh, .ref ff, .ref fa, .ref fm, .int fct, .int frb, .int fsl])), (ff, .inl (cI, 60, .inl fff)), (fa, .inl (cI, 60, .inl ffa)), (fm, .inl (cI, 21, .inl (u20.1 0))), (d, .inr (4, [.ref ds, .int dsz, .ref dk, .ref dw, .int dac, .int dwr])), (dk, .inl (cI, 60, .inl dfk)), (j, .inr (1, [.ref k, .ref d, .ref jd, .ref jb, .ref jw, .ref jl, .int jbad, .int jwhy, .int jleft, .int jday, .int jwarmDay, .int jbagDays, .int jburnt, .int jboiled])), (jb, .inl (cI, 60, .inl jfb)), (jl, .inl (cI, 61, .inl jfl))]) hP [3, 4, 5, 6, 0, 1, 7, 2, 8] rfl) (hD.sub (ws' := [(f, .inr (5, [.ref k, .ref d, .ref j, .ref fl, .ref fh, .ref ff, .ref fa, .ref fm, .int fct, .int frb, .int fsl])), (ff, .inl (cI, 60, .inl fff)), (fa, .inl (cI, 60, .inl ffa)), (fm, .inl (cI, 21, .inl (u20.1 0))), (d, .inr (4, [.ref ds, .int dsz, .ref dk, .ref dw, .int dac, .int dwr])), (dk, .inl (cI, 60, .inl dfk)), (j, .inr (1, [.ref k, .ref d, .ref jd, .ref jb, .ref jw, .ref jl, .int jbad, .int jwhy, .int jleft, .int jday, .int jwarmDay, .int jbagDays, .int jburnt, .int jboiled])), (jb, .inl (cI, 60, .inl jfb)), (jl, .inl (cI, 61, .inl jfl))]) [3, 4, 5, 6, 0, 1, 7, 2, 8] (by decide) rfl) (by omega)
    | succ n5 ih =>
      skip
      refine lv_iload_n hx hb dX5_worstBehind_25 rfl (lv_at hl 0 rfl) ?_
      refine lv_aload_n hx hb dX5_worstBehind_26 rfl (lv_at hl 1 rfl) ?_
      refine va_get (D := (dC, dI)) (ci := 5) (v := .ref d) (C := RX5) (T := TX5) (N := 11) hx hb hts hin5 hown hK hP 0 rfl rfl 1 (by decide) hw0 (fun _ h9 => h9) rfl dX5_worstBehind_27 ?_
      refine va_get (D := (dC, dI)) (ci := 4) (v := .int dac) (C := RX4) (T := TX4) (N := 6) hx hb hts hin4 hown hK hP 4 rfl rfl 4 (by decide) hw1 (fun _ h9 => h9) rfl dX5_worstBehind_30 ?_
      refine lv_icmp_ge (tgt := 62) hx hb dX5_worstBehind_33 (by decide) (fun c30 => by exfalso; have t30 : dac.toInt ≤ z2.toInt := (tle c30); omega) (fun c30 => ?_)
      refine lv_aload_n hx hb dX5_worstBehind_36 rfl (lv_at hl 1 rfl) ?_
      refine lv_aload_n hx hb dX5_worstBehind_37 rfl (lv_at hl 1 rfl) ?_
      refine va_get (D := (dC, dI)) (ci := 5) (v := .ref j) (C := RX5) (T := TX5) (N := 11) hx hb hts hin5 hown hK hP 0 rfl rfl 2 (by decide) hw8 (fun _ h9 => h9) rfl dX5_worstBehind_38 ?_
      refine va_get (D := (dC, dI)) (ci := 1) (v := .ref jl) (C := RX1) (T := TX1) (N := 14) hx hb hts hin1 hown hK hP 6 rfl rfl 5 (by decide) hw13 (fun _ h9 => h9) rfl dX5_worstBehind_41 ?_
      refine lv_iload_n hx hb dX5_worstBehind_44 rfl (lv_at hl 2 rfl) ?_
      refine lv_iconst (v := 1) hx hb dX5_worstBehind_45 (by decide) ?_
      refine lv_iadd hx hb dX5_worstBehind_46 ?_
      refine lv_topi (fun x31 e31 => ?_)
      have f31 : x31.toInt = i0.toInt + (1 : Int) := by rw [e31]; exact tadd (by have t8 := tb i0; have z8 : (1 : Int32).toInt = 1 := rfl; omega) (by have t8 := tb i0; have z8 : (1 : Int32).toInt = 1 := rfl; omega)
      refine va_iald hx hb hK hP 8 0 rfl rfl (vin (by omega) (by omega)) dX5_worstBehind_47 ?_
      refine lv_topi (fun x32 e32 => ?_)
      refine lv_aload_n hx hb dX5_worstBehind_48 rfl (lv_at hl 1 rfl) ?_
      refine lv_iload_n hx hb dX5_worstBehind_49 rfl (lv_at hl 0 rfl) ?_
      refine mx_i (wr := [(fm, .inl (cI, 21, .inl zfm)), (d, .inr (4, [.ref ds, .int dsz, .ref dk, .ref dw, .int dac, .int dwr])), (dk, .inl (cI, 60, .inl dfk)), (j, .inr (1, [.ref k, .ref d, .ref jd, .ref jb, .ref jw, .ref jl, .int jbad, .int jwhy, .int jleft, .int jday, .int jwarmDay, .int jbagDays, .int jburnt, .int jboiled])), (jb, .inl (cI, 60, .inl jfb)), (jl, .inl (cI, 61, .inl jfl))]) (va_runV (As := [.int z2]) (rest := [.int x32, .ref f]) ⟨hx, hb, hml, hown, hts⟩ (c_X5_fitting l dC dI cI cZ cK tS aK aV f z2 k d j fl fh ff fa fm fct frb fsl fff ffa H.size h_ffa (by first | omega | decide | assumption | trivial)) (cwV 1 hts (gw_v (fun _ h9 => List.mem_cons_of_mem _ h9) wm_763 wm_764 wm_765 wm_30 wm_766) rfl rfl rfl (by decide +kernel) ⟨Nat.le_of_ble_eq_true rfl, Nat.le_of_ble_eq_true rfl⟩) (mx_preV (C := RX5) (T := TX5) (N := 11) (ci := 5) hKx hP hD hS hA [0, 1, 2] (by decide) rfl rfl rfl) rfl rfl hl.1 rfl (lv_room (Nat.le_of_ble_eq_true rfl)) dX5_worstBehind_50 ⟨Nat.le_of_ble_eq_true rfl, Nat.le_of_ble_eq_true rfl⟩) hP hD hS hA [0, 1, 2] [3, 4, 5, 6, 7, 8] rfl rfl (by decide) (by decide) (fun r33 u33 H locs hq33 hP hD hS => ?_)
      replace hP : va_P (dC, dI) vwCl [(fm, .inl (cI, 21, .inl zfm)), (d, .inr (4, [.ref ds, .int dsz, .ref dk, .ref dw, .int dac, .int dwr])), (dk, .inl (cI, 60, .inl dfk)), (j, .inr (1, [.ref k, .ref d, .ref jd, .ref jb, .ref jw, .ref jl, .int jbad, .int jwhy, .int jleft, .int jday, .int jwarmDay, .int jbagDays, .int jburnt, .int jboiled])), (jb, .inl (cI, 60, .inl jfb)), (jl, .inl (cI, 61, .inl jfl)), (f, .inr (5, [.ref k, .ref d, .ref j, .ref fl, .ref fh, .ref ff, .ref fa, .ref fm, .int fct, .int frb, .int fsl])), (ff, .inl (cI, 60, .inl fff)), (fa, .inl (cI, 60, .inl ffa))] H := hP
      replace hD : va_D A [(fm, .inl (cI, 21, .inl zfm)), (d, .inr (4, [.ref ds, .int dsz, .ref dk, .ref dw, .int dac, .int dwr])), (dk, .inl (cI, 60, .inl dfk)), (j, .inr (1, [.ref k, .ref d, .ref jd, .ref jb, .ref jw, .ref jl, .int jbad, .int jwhy, .int jleft, .int jday, .int jwarmDay, .int jbagDays, .int jburnt, .int jboiled])), (jb, .inl (cI, 60, .inl jfb)), (jl, .inl (cI, 61, .inl jfl)), (f, .inr (5, [.ref k, .ref d, .ref j, .ref fl, .ref fh, .ref ff, .ref fa, .ref fm, .int fct, .int frb, .int fsl])), (ff, .inl (cI, 60, .inl fff)), (fa, .inl (cI, 60, .inl ffa))] := hD
      refine mx_v (wr := [(d, .inr (4, [.ref ds, .int dsz, .ref dk, .ref dw, .int dac, .int dwr])), (dk, .inl (cI, 60, .inl dfk)), (j, .inr (1, [.ref k, .ref d, .ref jd, .ref jb, .ref jw, .ref jl, .int jbad, .int jwhy, .int jleft, .int jday, .int jwarmDay, .int jbagDays, .int jburnt, .int jboiled])), (jb, .inl (cI, 60, .inl jfb)), (jl, .inl (cI, 61, .inl jfl)), (ff, .inl (cI, 60, .inl fff)), (fa, .inl (cI, 60, .inl ffa))]) (va_runV (As := [.int x32, .int r33]) (rest := []) ⟨hx, hb, hml, hown, hts⟩ (c_X5_tally l dC dI cI cZ cK tS aK aV f x32 r33 k d j fl fh ff fa fm fct frb fsl zfm H.size) (cwV 2 hts (gw_v (fun _ h9 => List.mem_cons_of_mem _ h9) wm_817 wm_818 wm_819 wm_30 wm_820) rfl rfl rfl (by decide +kernel) ⟨Nat.le_of_ble_eq_true rfl, Nat.le_of_ble_eq_true rfl⟩) (mx_preV (C := RX5) (T := TX5) (N := 11) (ci := 5) hKx hP hD hS hA [6, 0] (by decide) rfl rfl rfl) rfl rfl hl.1 rfl (lv_room (Nat.le_of_ble_eq_true rfl)) dX5_worstBehind_53 ⟨Nat.le_of_ble_eq_true rfl, Nat.le_of_ble_eq_true rfl⟩) hP hD hS hA [6, 0] [1, 2, 3, 4, 5, 7, 8] rfl rfl (by decide) (by decide) (fun u34 H locs hq34 hP hD hS => ?_)
      replace hP : va_P (dC, dI) vwCl [(d, .inr (4, [.ref ds, .int dsz, .ref dk, .ref dw, .int dac, .int dwr])), (dk, .inl (cI, 60, .inl dfk)), (j, .inr (1, [.ref k, .ref d, .ref jd, .ref jb, .ref jw, .ref jl, .int jbad, .int jwhy, .int jleft, .int jday, .int jwarmDay, .int jbagDays, .int jburnt, .int jboiled])), (jb, .inl (cI, 60, .inl jfb)), (jl, .inl (cI, 61, .inl jfl)), (ff, .inl (cI, 60, .inl fff)), (fa, .inl (cI, 60, .inl ffa)), (f, .inr (5, [.ref k, .ref d, .ref j, .ref fl, .ref fh, .ref ff, .ref fa, .ref fm, .int fct, .int frb, .int fsl])), (fm, .inl (cI, 21, .inl (u34.1 0)))] H := hP
      replace hD : va_D A [(d, .inr (4, [.ref ds, .int dsz, .ref dk, .ref dw, .int dac, .int dwr])), (dk, .inl (cI, 60, .inl dfk)), (j, .inr (1, [.ref k, .ref d, .ref jd, .ref jb, .ref jw, .ref jl, .int jbad, .int jwhy, .int jleft, .int jday, .int jwarmDay, .int jbagDays, .int jburnt, .int jboiled])), (jb, .inl (cI, 60, .inl jfb)), (jl, .inl (cI, 61, .inl jfl)), (ff, .inl (cI, 60, .inl fff)), (fa, .inl (cI, 60, .inl ffa)), (f, .inr (5, [.ref k, .ref d, .ref j, .ref fl, .ref fh, .ref ff, .ref fa, .ref fm, .int fct, .int frb, .int fsl])), (fm, .inl (cI, 21, .inl (u34.1 0)))] := hD
      obtain ⟨x35, e35⟩ : ∃ y : Int32, y = z2 + Int32.ofInt 1 := ⟨_, rfl⟩
      refine lv_iinc (v := x35) (lv' := [(2, .int x35), (0, .ref f), (1, .int i0)]) hx hb dX5_worstBehind_56 hl (k := 0) rfl e35.symm (by decide) rfl (fun ls hl => ?_)
      have f35 : x35.toInt = z2.toInt + 1 := by rw [e35]; exact tinc (by decide) (by have t8 := tb z2; omega) (by have t8 := tb z2; omega)
      refine lv_goto (tgt := 25) hx hb dX5_worstBehind_59 (by decide) ?_
      exact ih (H := H) (locs := locs) (ls := ls) (z2 := x35) (zfm := (u34.1 0)) hS (by omega)  (show lv_has ls 6 [(2, .int x35), (0, .ref f), (1, .int i0)] from lv_sub hl [0, 1, 2] rfl) (mx_subP (wc := [(f, .inr (5, [.ref k, .ref d, .ref j, .ref fl, .ref fh, .ref ff, .ref fa, .ref fm, .int fct, .int frb, .int fsl])), (ff, .inl (cI, 60, .inl fff)), (fa, .inl (cI, 60, .inl ffa)), (fm, .inl (cI, 21, .inl (u34.1 0))), (d, .inr (4, [.ref ds, .int dsz, .ref dk, .ref dw, .int dac, .int dwr])), (dk, .inl (cI, 60, .inl dfk)), (j, .inr (1, [.ref k, .ref d, .ref jd, .ref jb, .ref jw, .ref jl, .int jbad, .int jwhy, .int jleft, .int jday, .int jwarmDay, .int jbagDays, .int jburnt, .int jboiled])), (jb, .inl (cI, 60, .inl jfb)), (jl, .inl (cI, 61, .inl jfl))]) hP [7, 5, 6, 8, 0, 1, 2, 3, 4] rfl) (hD.sub (ws' := [(f, .inr (5, [.ref k, .ref d, .ref j, .ref fl, .ref fh, .ref ff, .ref fa, .ref fm, .int fct, .int frb, .int fsl])), (ff, .inl (cI, 60, .inl fff)), (fa, .inl (cI, 60, .inl ffa)), (fm, .inl (cI, 21, .inl (u34.1 0))), (d, .inr (4, [.ref ds, .int dsz, .ref dk, .ref dw, .int dac, .int dwr])), (dk, .inl (cI, 60, .inl dfk)), (j, .inr (1, [.ref k, .ref d, .ref jd, .ref jb, .ref jw, .ref jl, .int jbad, .int jwhy, .int jleft, .int jday, .int jwarmDay, .int jbagDays, .int jburnt, .int jboiled])), (jb, .inl (cI, 60, .inl jfb)), (jl, .inl (cI, 61, .inl jfl))]) [7, 5, 6, 8, 0, 1, 2, 3, 4] (by decide) rfl) (by omega)
  | succ n1 ih =>
    skip
    refine lv_iload_n hx hb dX5_worstBehind_2 rfl (lv_at hl 0 rfl) ?_
    refine lv_bipush (v := 21) hx hb dX5_worstBehind_3 (by decide) ?_
    refine lv_icmp_ge (tgt := 21) hx hb dX5_worstBehind_5 (by decide) (fun c36 => by exfalso; have t36 : (21 : Int) ≤ y2.toInt := (tle c36); omega) (fun c36 => ?_)
    refine lv_aload_n hx hb dX5_worstBehind_8 rfl (lv_at hl 1 rfl) ?_
    refine va_get (D := (dC, dI)) (ci := 5) (v := .ref fm) (C := RX5) (T := TX5) (N := 11) hx hb hts hin5 hown hK hP 0 rfl rfl 7 (by decide) hw2 (fun _ h9 => h9) rfl dX5_worstBehind_9 ?_
    refine lv_iload_n hx hb dX5_worstBehind_12 rfl (lv_at hl 0 rfl) ?_
    refine lv_iconst (v := 0) hx hb dX5_worstBehind_13 (by decide) ?_
    refine va_iast hx hb hK hP hD hS 3 0 rfl rfl (vin (by omega) (by omega)) dX5_worstBehind_14 (fun H locs hP hD hS => ?_)
    replace hP : va_P (dC, dI) vwCl [(f, .inr (5, [.ref k, .ref d, .ref j, .ref fl, .ref fh, .ref ff, .ref fa, .ref fm, .int fct, .int frb, .int fsl])), (ff, .inl (cI, 60, .inl fff)), (fa, .inl (cI, 60, .inl ffa)), (fm, .inl (cI, 21, .inl (upd yfm y2.toNatClampNeg 0))), (d, .inr (4, [.ref ds, .int dsz, .ref dk, .ref dw, .int dac, .int dwr])), (dk, .inl (cI, 60, .inl dfk)), (j, .inr (1, [.ref k, .ref d, .ref jd, .ref jb, .ref jw, .ref jl, .int jbad, .int jwhy, .int jleft, .int jday, .int jwarmDay, .int jbagDays, .int jburnt, .int jboiled])), (jb, .inl (cI, 60, .inl jfb)), (jl, .inl (cI, 61, .inl jfl))] H := hP
    replace hD : va_D A [(f, .inr (5, [.ref k, .ref d, .ref j, .ref fl, .ref fh, .ref ff, .ref fa, .ref fm, .int fct, .int frb, .int fsl])), (ff, .inl (cI, 60, .inl fff)), (fa, .inl (cI, 60, .inl ffa)), (fm, .inl (cI, 21, .inl (upd yfm y2.toNatClampNeg 0))), (d, .inr (4, [.ref ds, .int dsz, .ref dk, .ref dw, .int dac, .int dwr])), (dk, .inl (cI, 60, .inl dfk)), (j, .inr (1, [.ref k, .ref d, .ref jd, .ref jb, .ref jw, .ref jl, .int jbad, .int jwhy, .int jleft, .int jday, .int jwarmDay, .int jbagDays, .int jburnt, .int jboiled])), (jb, .inl (cI, 60, .inl jfb)), (jl, .inl (cI, 61, .inl jfl))] := hD
    obtain ⟨x37, e37⟩ : ∃ y : Int32, y = y2 + Int32.ofInt 1 := ⟨_, rfl⟩
    refine lv_iinc (v := x37) (lv' := [(2, .int x37), (0, .ref f), (1, .int i0)]) hx hb dX5_worstBehind_15 hl (k := 0) rfl e37.symm (by decide) rfl (fun ls hl => ?_)
    have f37 : x37.toInt = y2.toInt + 1 := by rw [e37]; exact tinc (by decide) (by have t8 := tb y2; omega) (by have t8 := tb y2; omega)
    refine lv_goto (tgt := 2) hx hb dX5_worstBehind_18 (by decide) ?_
    exact ih (H := H) (locs := locs) (ls := ls) (y2 := x37) (yfm := (upd yfm y2.toNatClampNeg 0)) hS (by omega)  (show lv_has ls 6 [(2, .int x37), (0, .ref f), (1, .int i0)] from lv_sub hl [0, 1, 2] rfl) (mx_subP (wc := [(f, .inr (5, [.ref k, .ref d, .ref j, .ref fl, .ref fh, .ref ff, .ref fa, .ref fm, .int fct, .int frb, .int fsl])), (ff, .inl (cI, 60, .inl fff)), (fa, .inl (cI, 60, .inl ffa)), (fm, .inl (cI, 21, .inl (upd yfm y2.toNatClampNeg 0))), (d, .inr (4, [.ref ds, .int dsz, .ref dk, .ref dw, .int dac, .int dwr])), (dk, .inl (cI, 60, .inl dfk)), (j, .inr (1, [.ref k, .ref d, .ref jd, .ref jb, .ref jw, .ref jl, .int jbad, .int jwhy, .int jleft, .int jday, .int jwarmDay, .int jbagDays, .int jburnt, .int jboiled])), (jb, .inl (cI, 60, .inl jfb)), (jl, .inl (cI, 61, .inl jfl))]) hP [0, 1, 2, 3, 4, 5, 6, 7, 8] rfl) (hD.sub (ws' := [(f, .inr (5, [.ref k, .ref d, .ref j, .ref fl, .ref fh, .ref ff, .ref fa, .ref fm, .int fct, .int frb, .int fsl])), (ff, .inl (cI, 60, .inl fff)), (fa, .inl (cI, 60, .inl ffa)), (fm, .inl (cI, 21, .inl (upd yfm y2.toNatClampNeg 0))), (d, .inr (4, [.ref ds, .int dsz, .ref dk, .ref dw, .int dac, .int dwr])), (dk, .inl (cI, 60, .inl dfk)), (j, .inr (1, [.ref k, .ref d, .ref jd, .ref jb, .ref jw, .ref jl, .int jbad, .int jwhy, .int jleft, .int jday, .int jwarmDay, .int jbagDays, .int jburnt, .int jboiled])), (jb, .inl (cI, 60, .inl jfb)), (jl, .inl (cI, 61, .inl jfl))]) [0, 1, 2, 3, 4, 5, 6, 7, 8] (by decide) rfl) (by omega)
