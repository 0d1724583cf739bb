set_option maxHeartbeats 4000000 in
set_option maxRecDepth 100000 in
theorem c_X5_chooseReading (l : Launch) (dC : Nat → ClassId) (dI : Nat → Nat → Nat) (cI cZ cK : ClassId) (tS : Nat) (aK aV : Nat → Nat) (f : Nat) (k : Nat) (d : Nat) (j : Nat) (fl : Nat) (fh : Nat) (ff : Nat) (fa : Nat) (fm : Nat) (fct : Int32) (frb : Int32) (fsl : Int32) (fff : Nat → Int32) (ffa : Nat → Int32) (ffm : Nat → Int32) (ds : Nat) (dsz : Int32) (dk : Nat) (dw : Nat) (dac : Int32) (dwr : Int32) (dfk : Nat → Int32) (jd : Nat) (jb : Nat) (jw : Nat) (jl : Nat) (jbad : Int32) (jwhy : Int32) (jleft : Int32) (jday : Int32) (jwarmDay : Int32) (jbagDays : Int32) (jburnt : Int32) (jboiled : Int32) (jfb : Nat → Int32) (jfl : Nat → Int32) (sz : Nat) (h_ffa : rg ffa 60 (-2147483648) 200) (h_dac : 0 ≤ dac.toInt ∧ dac.toInt ≤ 60) : Cv l yX5_chooseReading (wq yX5_chooseReading cX5_chooseReading 3 none) ({ frames := 4, cells := 0, slots := 0, locals := 99 }) dC dI cI cZ cK tS aK aV [.ref f] sz [(f, .inr (5, [.ref k, .ref d, .ref j, .ref fl, .ref fh, .ref ff, .ref fa, .ref fm, .int fct, .int frb, .int fsl])), (ff, .inl (cI, 60, .inl fff)), (fa, .inl (cI, 60, .inl ffa)), (fm, .inl (cI, 21, .inl ffm)), (d, .inr (4, [.ref ds, .int dsz, .ref dk, .ref dw, .int dac, .int dwr])), (dk, .inl (cI, 60, .inl dfk)), (j, .inr (1, [.ref k, .ref d, .ref jd, .ref jb, .ref jw, .ref jl, .int jbad, .int jwhy, .int jleft, .int jday, .int jwarmDay, .int jbagDays, .int jburnt, .int jboiled])), (jb, .inl (cI, 60, .inl jfb)), (jl, .inl (cI, 61, .inl jfl))] (fun (u : (Nat → Nat → Int32) × (Nat → Int32) × (Nat → Int64)) => True) (fun u => [(f, .inr (5, [.ref k, .ref d, .ref j, .ref fl, .ref fh, .ref ff, .ref fa, .ref fm, .int fct, .int (u.2.1 1), .int (u.2.1 0)])), (ff, .inl (cI, 60, .inl fff)), (fa, .inl (cI, 60, .inl ffa)), (fm, .inl (cI, 21, .inl (u.1 0))), (d, .inr (4, [.ref ds, .int dsz, .ref dk, .ref dw, .int dac, .int dwr])), (dk, .inl (cI, 60, .inl dfk)), (j, .inr (1, [.ref k, .ref d, .ref jd, .ref jb, .ref jw, .ref jl, .int jbad, .int jwhy, .int jleft, .int jday, .int jwarmDay, .int jbagDays, .int jburnt, .int jboiled])), (jb, .inl (cI, 60, .inl jfb)), (jl, .inl (cI, 61, .inl jfl))]) := by
  refine Met.ofW (cc := cX5_chooseReading) (maxL := 3) (ret := none) (by decide) rfl ?_
  intro p e s m args below meth c s₁ B hml hv
  obtain ⟨rfl, hsz, hP, hKx, hD0⟩ := hv
  have hx := B.exec
  have hb := B.bytes
  have hr := B.returns
  have hts := atoms_spec (ws := wq yX5_chooseReading cX5_chooseReading 3 none) B.pre
  have hown : s.vm.findClass RX5 = some m.cls := findClass_of_methodNamed B.named
  have hlocks := B.notSynchronized
  subst hsz
  have hD := hD0.self (sz := s.heap.size)
  generalize hAe : va_A [(f, .inr (5, [.ref k, .ref d, .ref j, .ref fl, .ref fh, .ref ff, .ref fa, .ref fm, .int fct, .int frb, .int fsl])), (ff, .inl (cI, 60, .inl fff)), (fa, .inl (cI, 60, .inl ffa)), (fm, .inl (cI, 21, .inl ffm)), (d, .inr (4, [.ref ds, .int dsz, .ref dk, .ref dw, .int dac, .int dwr])), (dk, .inl (cI, 60, .inl dfk)), (j, .inr (1, [.ref k, .ref d, .ref jd, .ref jb, .ref jw, .ref jl, .int jbad, .int jwhy, .int jleft, .int jday, .int jwarmDay, .int jbagDays, .int jburnt, .int jboiled])), (jb, .inl (cI, 60, .inl jfb)), (jl, .inl (cI, 61, .inl jfl))] s.heap.size = A at hD hKx ⊢
  have hA : ∀ q : Nat, s.heap.size ≤ q → A q := fun q h => by rw [← hAe]; exact Or.inr h
  have hS : va_S A s.heap s.heap [] := va_S.rf
  have hP : va_P (dC, dI) vwCl [(f, .inr (5, [.ref k, .ref d, .ref j, .ref fl, .ref fh, .ref ff, .ref fa, .ref fm, .int fct, .int frb, .int fsl])), (ff, .inl (cI, 60, .inl fff)), (fa, .inl (cI, 60, .inl ffa)), (fm, .inl (cI, 21, .inl ffm)), (d, .inr (4, [.ref ds, .int dsz, .ref dk, .ref dw, .int dac, .int dwr])), (dk, .inl (cI, 60, .inl dfk)), (j, .inr (1, [.ref k, .ref d, .ref jd, .ref jb, .ref jw, .ref jl, .int jbad, .int jwhy, .int jleft, .int jday, .int jwarmDay, .int jbagDays, .int jburnt, .int jboiled])), (jb, .inl (cI, 60, .inl jfb)), (jl, .inl (cI, 61, .inl jfl))] s.heap := hP
  have hl := lv_entry ([.ref f]) (n := 3) (Nat.le_of_ble_eq_true rfl)
  rw [lg_entry_eq]
  generalize (lg_sl ([.ref f]) ++ List.replicate (3 - (lg_sl ([.ref f])).length) Slot.unset).toArray = ls at hl ⊢
  have hl : lv_has ls 3 [(0, .ref f)] := hl
  have hK := hKx.1
  have hin5 := fun w9 h9 => List.mem_cons_of_mem (Cond.code yX5_chooseReading cX5_chooseReading 3 none) (inlX5 w9 h9)
  have hin4 := fun w9 h9 => List.mem_cons_of_mem (Cond.code yX5_chooseReading cX5_chooseReading 3 none) (inlX4 w9 h9)
  have hw0 := hts (.fieldLink RX5 80 "OneCan$Search" "readBehind" "I") (List.mem_cons_of_mem _ wm_811)
  have hw1 := hts (.fieldLink RX5 83 "OneCan$Search" "stillLeft" "I") (List.mem_cons_of_mem _ wm_812)
  have hw2 := hts (.fieldLink RX5 31 "OneCan$Search" "pad" "LOneCan$Pad;") (List.mem_cons_of_mem _ wm_93)
  have hw3 := hts (.fieldLink RX5 54 "OneCan$Pad" "acts" "I") (List.mem_cons_of_mem _ wm_738)
  have hw4 := hts (.fieldLink RX5 50 "OneCan$Search" "count" "I") (List.mem_cons_of_mem _ wm_737)
  refine lv_aload_n hx hb dX5_chooseReading_0 rfl (lv_at hl 0 rfl) ?_
  refine lv_bipush (v := (-6)) hx hb dX5_chooseReading_1 (by decide) ?_
  refine va_put (D := (dC, dI)) (ci := 5) (v := .int (-6)) (ty := .int) (C := RX5) (T := TX5) (N := 11) hx hb hts hin5 tyX5 tyX5_ok nmX5 hown hK hP hD hS 0 rfl rfl 9 (by decide) hw0 (fun _ h9 => h9) rfl (by decide +kernel) rfl rfl (Nat.le_of_ble_eq_true rfl) dX5_chooseReading_3 (fun H locs hP hD hS => ?_)
  replace hP : va_P (dC, dI) vwCl [(f, .inr (5, [.ref k, .ref d, .ref j, .ref fl, .ref fh, .ref ff, .ref fa, .ref fm, .int fct, .int (-6), .int fsl])), (ff, .inl (cI, 60, .inl fff)), (fa, .inl (cI, 60, .inl ffa)), (fm, .inl (cI, 21, .inl ffm)), (d, .inr (4, [.ref ds, .int dsz, .ref dk, .ref dw, .int dac, .int dwr])), (dk, .inl (cI, 60, .inl dfk)), (j, .inr (1, [.ref k, .ref d, .ref jd, .ref jb, .ref jw, .ref jl, .int jbad, .int jwhy, .int jleft, .int jday, .int jwarmDay, .int jbagDays, .int jburnt, .int jboiled])), (jb, .inl (cI, 60, .inl jfb)), (jl, .inl (cI, 61, .inl jfl))] H := hP
  replace hD : va_D A [(f, .inr (5, [.ref k, .ref d, .ref j, .ref fl, .ref fh, .ref ff, .ref fa, .ref fm, .int fct, .int (-6), .int fsl])), (ff, .inl (cI, 60, .inl fff)), (fa, .inl (cI, 60, .inl ffa)), (fm, .inl (cI, 21, .inl ffm)), (d, .inr (4, [.ref ds, .int dsz, .ref dk, .ref dw, .int dac, .int dwr])), (dk, .inl (cI, 60, .inl dfk)), (j, .inr (1, [.ref k, .ref d, .ref jd, .ref jb, .ref jw, .ref jl, .int jbad, .int jwhy, .int jleft, .int jday, .int jwarmDay, .int jbagDays, .int jburnt, .int jboiled])), (jb, .inl (cI, 60, .inl jfb)), (jl, .inl (cI, 61, .inl jfl))] := hD
  refine lv_aload_n hx hb dX5_chooseReading_6 rfl (lv_at hl 0 rfl) ?_
  refine lv_bipush (v := (-6)) hx hb dX5_chooseReading_7 (by decide) ?_
  refine va_put (D := (dC, dI)) (ci := 5) (v := .int (-6)) (ty := .int) (C := RX5) (T := TX5) (N := 11) hx hb hts hin5 tyX5 tyX5_ok nmX5 hown hK hP hD hS 0 rfl rfl 10 (by decide) hw1 (fun _ h9 => h9) rfl (by decide +kernel) rfl rfl (Nat.le_of_ble_eq_true rfl) dX5_chooseReading_9 (fun H locs hP hD hS => ?_)
  replace hP : va_P (dC, dI) vwCl [(f, .inr (5, [.ref k, .ref d, .ref j, .ref fl, .ref fh, .ref ff, .ref fa, .ref fm, .int fct, .int (-6), .int (-6)])), (ff, .inl (cI, 60, .inl fff)), (fa, .inl (cI, 60, .inl ffa)), (fm, .inl (cI, 21, .inl ffm)), (d, .inr (4, [.ref ds, .int dsz, .ref dk, .ref dw, .int dac, .int dwr])), (dk, .inl (cI, 60, .inl dfk)), (j, .inr (1, [.ref k, .ref d, .ref jd, .ref jb, .ref jw, .ref jl, .int jbad, .int jwhy, .int jleft, .int jday, .int jwarmDay, .int jbagDays, .int jburnt, .int jboiled])), (jb, .inl (cI, 60, .inl jfb)), (jl, .inl (cI, 61, .inl jfl))] H := hP
  replace hD : va_D A [(f, .inr (5, [.ref k, .ref d, .ref j, .ref fl, .ref fh, .ref ff, .ref fa, .ref fm, .int fct, .int (-6), .int (-6)])), (ff, .inl (cI, 60, .inl fff)), (fa, .inl (cI, 60, .inl ffa)), (fm, .inl (cI, 21, .inl ffm)), (d, .inr (4, [.ref ds, .int dsz, .ref dk, .ref dw, .int dac, .int dwr])), (dk, .inl (cI, 60, .inl dfk)), (j, .inr (1, [.ref k, .ref d, .ref jd, .ref jb, .ref jw, .ref jl, .int jbad, .int jwhy, .int jleft, .int jday, .int jwarmDay, .int jbagDays, .int jburnt, .int jboiled])), (jb, .inl (cI, 60, .inl jfb)), (jl, .inl (cI, 61, .inl jfl))] := hD
  refine lv_iconst (v := 0) hx hb dX5_chooseReading_12 (by decide) ?_
  refine lv_istore_n (lv' := [(1, .int 0), (0, .ref f)]) hx hb dX5_chooseReading_13 rfl hl (by decide) rfl (fun ls hl => ?_)
  have z2 : (0 : Int32).toInt = 0 := rfl
  have z3 : (-6 : Int32).toInt = -6 := rfl
  have z4 : (-6 : Int32).toInt = -6 := rfl
  have hl0 := hl
  clear hl
  have hP0 := hP
  clear hP
  have hD0 := hD
  clear hD
  obtain ⟨y1, yrb, ysl, yfm, ex, hl, hP, hD⟩ : ∃ (y1 yrb ysl : Int32) (yfm : Nat → Int32), (0 ≤ y1.toInt ∧ y1.toInt ≤ dac.toInt) ∧ lv_has ls 3 [(1, .int y1), (0, .ref f)] ∧ va_P (dC, dI) vwCl [(f, .inr (5, [.ref k, .ref d, .ref j, .ref fl, .ref fh, .ref ff, .ref fa, .ref fm, .int fct, .int yrb, .int ysl])), (ff, .inl (cI, 60, .inl fff)), (fa, .inl (cI, 60, .inl ffa)), (fm, .inl (cI, 21, .inl yfm)), (d, .inr (4, [.ref ds, .int dsz, .ref dk, .ref dw, .int dac, .int dwr])), (dk, .inl (cI, 60, .inl dfk)), (j, .inr (1, [.ref k, .ref d, .ref jd, .ref jb, .ref jw, .ref jl, .int jbad, .int jwhy, .int jleft, .int jday, .int jwarmDay, .int jbagDays, .int jburnt, .int jboiled])), (jb, .inl (cI, 60, .inl jfb)), (jl, .inl (cI, 61, .inl jfl))] H ∧ va_D A [(f, .inr (5, [.ref k, .ref d, .ref j, .ref fl, .ref fh, .ref ff, .ref fa, .ref fm, .int fct, .int yrb, .int ysl])), (ff, .inl (cI, 60, .inl fff)), (fa, .inl (cI, 60, .inl ffa)), (fm, .inl (cI, 21, .inl yfm)), (d, .inr (4, [.ref ds, .int dsz, .ref dk, .ref dw, .int dac, .int dwr])), (dk, .inl (cI, 60, .inl dfk)), (j, .inr (1, [.ref k, .ref d, .ref jd, .ref jb, .ref jw, .ref jl, .int jbad, .int jwhy, .int jleft, .int jday, .int jwarmDay, .int jbagDays, .int jburnt, .int jboiled])), (jb, .inl (cI, 60, .inl jfb)), (jl, .inl (cI, 61, .inl jfl))] := ⟨0, (-6), (-6), ffm, by omega, hl0, hP0, hD0⟩
  clear hl0 hP0 hD0
  obtain ⟨n1, hn⟩ : ∃ n : Nat, (n : Int) = dac.toInt - y1.toInt := ⟨(dac.toInt - y1.toInt).toNat, by omega⟩
  induction n1 generalizing y1 yrb ysl yfm ls H locs with
  | zero =>
    skip
    refine lv_iload_n hx hb dX5_chooseReading_14 rfl (lv_at hl 0 rfl) ?_
    refine lv_aload_n hx hb dX5_chooseReading_15 rfl (lv_at hl 1 rfl) ?_
    refine va_get (D := (dC, dI)) (ci := 5) (v := .ref d) (C := RX5) (T := TX5) (N := 11) hx hb hts hin5 hown hK hP 0 rfl rfl 1 (by decide) hw2 (fun _ h9 => h9) rfl dX5_chooseReading_16 ?_
    refine va_get (D := (dC, dI)) (ci := 4) (v := .int dac) (C := RX4) (T := TX4) (N := 6) hx hb hts hin4 hown hK hP 4 rfl rfl 4 (by decide) hw3 (fun _ h9 => h9) rfl dX5_chooseReading_19 ?_
    refine lv_icmp_ge (tgt := 71) hx hb dX5_chooseReading_22 (by decide) (fun c5 => ?_) (fun c5 => by exfalso; have t5 : y1.toInt < dac.toInt := (tnle c5); omega)
    have hP9 := mx_subP (wc := [(f, .inr (5, [.ref k, .ref d, .ref j, .ref fl, .ref fh, .ref ff, .ref fa, .ref fm, .int fct, .int yrb, .int ysl])), (ff, .inl (cI, 60, .inl fff)), (fa, .inl (cI, 60, .inl ffa)), (fm, .inl (cI, 21, .inl yfm)), (d, .inr (4, [.ref ds, .int dsz, .ref dk, .ref dw, .int dac, .int dwr])), (dk, .inl (cI, 60, .inl dfk)), (j, .inr (1, [.ref k, .ref d, .ref jd, .ref jb, .ref jw, .ref jl, .int jbad, .int jwhy, .int jleft, .int jday, .int jwarmDay, .int jbagDays, .int jburnt, .int jboiled])), (jb, .inl (cI, 60, .inl jfb)), (jl, .inl (cI, 61, .inl jfl))]) hP [0, 1, 2, 3, 4, 5, 6, 7, 8] rfl
    have hD9 := hD.sub (ws' := [(f, .inr (5, [.ref k, .ref d, .ref j, .ref fl, .ref fh, .ref ff, .ref fa, .ref fm, .int fct, .int yrb, .int ysl])), (ff, .inl (cI, 60, .inl fff)), (fa, .inl (cI, 60, .inl ffa)), (fm, .inl (cI, 21, .inl yfm)), (d, .inr (4, [.ref ds, .int dsz, .ref dk, .ref dw, .int dac, .int dwr])), (dk, .inl (cI, 60, .inl dfk)), (j, .inr (1, [.ref k, .ref d, .ref jd, .ref jb, .ref jw, .ref jl, .int jbad, .int jwhy, .int jleft, .int jday, .int jwarmDay, .int jbagDays, .int jburnt, .int jboiled])), (jb, .inl (cI, 60, .inl jfb)), (jl, .inl (cI, 61, .inl jfl))]) [0, 1, 2, 3, 4, 5, 6, 7, 8] (by decide) rfl
    exact W.vret hx hb hr (fun t ht hW => ⟨⟨((fun u9 => ([yfm] : List (Nat → Int32)).getD u9 (fun _ => 0)), (fun u9 => ([ysl, yrb] : List Int32).getD u9 0), (fun u9 => ([] : List Int64).getD u9 0)), rfl, trivial, by rw [ht]; exact hP9, hD9⟩, hS.F ht⟩) hS.2.2 dX5_chooseReading_71
  | succ n1 ih =>
    skip
    refine lv_iload_n hx hb dX5_chooseReading_14 rfl (lv_at hl 0 rfl) ?_
    refine lv_aload_n hx hb dX5_chooseReading_15 rfl (lv_at hl 1 rfl) ?_
    refine va_get (D := (dC, dI)) (ci := 5) (v := .ref d) (C := RX5) (T := TX5) (N := 11) hx hb hts hin5 hown hK hP 0 rfl rfl 1 (by decide) hw2 (fun _ h9 => h9) rfl dX5_chooseReading_16 ?_
    refine va_get (D := (dC, dI)) (ci := 4) (v := .int dac) (C := RX4) (T := TX4) (N := 6) hx hb hts hin4 hown hK hP 4 rfl rfl 4 (by decide) hw3 (fun _ h9 => h9) rfl dX5_chooseReading_19 ?_
    refine lv_icmp_ge (tgt := 71) hx hb dX5_chooseReading_22 (by decide) (fun c6 => by exfalso; have t6 : dac.toInt ≤ y1.toInt := (tle c6); omega) (fun c6 => ?_)
    refine lv_aload_n hx hb dX5_chooseReading_25 rfl (lv_at hl 1 rfl) ?_
    refine va_get (D := (dC, dI)) (ci := 5) (v := .int fct) (C := RX5) (T := TX5) (N := 11) hx hb hts hin5 hown hK hP 0 rfl rfl 8 (by decide) hw4 (fun _ h9 => h9) rfl dX5_chooseReading_26 ?_
    refine lv_if_le (tgt := 71) hx hb dX5_chooseReading_29 (by decide) (fun c7 => ?_) (fun c7 => ?_)
    · have t7 : fct.toInt ≤ (0 : Int) := (tle c7)
      have hP9 := mx_subP (wc := [(f, .inr (5, [.ref k, .ref d, .ref j, .ref fl, .ref fh, .ref ff, .ref fa, .ref fm, .int fct, .int yrb, .int ysl])), (ff, .inl (cI, 60, .inl fff)), (fa, .inl (cI, 60, .inl ffa)), (fm, .inl (cI, 21, .inl yfm)), (d, .inr (4, [.ref ds, .int dsz, .ref dk, .ref dw, .int dac, .int dwr])), (dk, .inl (cI, 60, .inl dfk)), (j, .inr (1, [.ref k, .ref d, .ref jd, .ref jb, .ref jw, .ref jl, .int jbad, .int jwhy, .int jleft, .int jday, .int jwarmDay, .int jbagDays, .int jburnt, .int jboiled])), (jb, .inl (cI, 60, .inl jfb)), (jl, .inl (cI, 61, .inl jfl))]) hP [0, 1, 2, 3, 4, 5, 6, 7, 8] rfl
      have hD9 := hD.sub (ws' := [(f, .inr (5, [.ref k, .ref d, .ref j, .ref fl, .ref fh, .ref ff, .ref fa, .ref fm, .int fct, .int yrb, .int ysl])), (ff, .inl (cI, 60, .inl fff)), (fa, .inl (cI, 60, .inl ffa)), (fm, .inl (cI, 21, .inl yfm)), (d, .inr (4, [.ref ds, .int dsz, .ref dk, .ref dw, .int dac, .int dwr])), (dk, .inl (cI, 60, .inl dfk)), (j, .inr (1, [.ref k, .ref d, .ref jd, .ref jb, .ref jw, .ref jl, .int jbad, .int jwhy, .int jleft, .int jday, .int jwarmDay, .int jbagDays, .int jburnt, .int jboiled])), (jb, .inl (cI, 60, .inl jfb)), (jl, .inl (cI, 61, .inl jfl))]) [0, 1, 2, 3, 4, 5, 6, 7, 8] (by decide) rfl
      exact W.vret hx hb hr (fun t ht hW => ⟨⟨((fun u9 => ([yfm] : List (Nat → Int32)).getD u9 (fun _ => 0)), (fun u9 => ([ysl, yrb] : List Int32).getD u9 0), (fun u9 => ([] : List Int64).getD u9 0)), rfl, trivial, by rw [ht]; exact hP9, hD9⟩, hS.F ht⟩) hS.2.2 dX5_chooseReading_71
    · have t7 : (0 : Int) < fct.toInt := (tnle c7)
      refine lv_aload_n hx hb dX5_chooseReading_32 rfl (lv_at hl 1 rfl) ?_
      refine lv_iload_n hx hb dX5_chooseReading_33 rfl (lv_at hl 0 rfl) ?_
      refine mx_i (wr := []) (va_runV (As := [.int y1]) (rest := []) ⟨hx, hb, hml, hown, hts⟩ (c_X5_worstBehind l dC dI cI cZ cK tS aK aV f y1 k d j fl fh ff fa fm fct yrb ysl fff ffa yfm ds dsz dk dw dac dwr dfk jd jb jw jl jbad jwhy jleft jday jwarmDay jbagDays jburnt jboiled jfb jfl H.size h_ffa (by first | omega | decide | assumption | trivial) (by first | omega | decide | assumption | trivial) (by first | omega | decide | assumption | trivial)) (cwV 1 hts (gw_v (fun _ h9 => List.mem_cons_of_mem _ h9) wm_813 wm_814 wm_815 wm_30 wm_816) rfl rfl rfl (by decide +kernel) ⟨Nat.le_of_ble_eq_true rfl, Nat.le_of_ble_eq_true rfl⟩) (mx_preV (C := RX5) (T := TX5) (N := 11) (ci := 5) hKx hP hD hS hA [0, 1, 2, 3, 4, 5, 6, 7, 8] (by decide) rfl rfl rfl) rfl rfl hl.1 rfl (lv_room (Nat.le_of_ble_eq_true rfl)) dX5_chooseReading_34 ⟨Nat.le_of_ble_eq_true rfl, Nat.le_of_ble_eq_true rfl⟩) hP hD hS hA [0, 1, 2, 3, 4, 5, 6, 7, 8] [] rfl rfl (by decide) (by decide) (fun r8 u8 H locs hq8 hP hD hS => ?_)
      replace hP : va_P (dC, dI) vwCl [(f, .inr (5, [.ref k, .ref d, .ref j, .ref fl, .ref fh, .ref ff, .ref fa, .ref fm, .int fct, .int yrb, .int ysl])), (ff, .inl (cI, 60, .inl fff)), (fa, .inl (cI, 60, .inl ffa)), (fm, .inl (cI, 21, .inl (u8.1 0))), (d, .inr (4, [.ref ds, .int dsz, .ref dk, .ref dw, .int dac, .int dwr])), (dk, .inl (cI, 60, .inl dfk)), (j, .inr (1, [.ref k, .ref d, .ref jd, .ref jb, .ref jw, .ref jl, .int jbad, .int jwhy, .int jleft, .int jday, .int jwarmDay, .int jbagDays, .int jburnt, .int jboiled])), (jb, .inl (cI, 60, .inl jfb)), (jl, .inl (cI, 61, .inl jfl))] H := hP
      replace hD : va_D A [(f, .inr (5, [.ref k, .ref d, .ref j, .ref fl, .ref fh, .ref ff, .ref fa, .ref fm, .int fct, .int yrb, .int ysl])), (ff, .inl (cI, 60, .inl fff)), (fa, .inl (cI, 60, .inl ffa)), (fm, .inl (cI, 21, .inl (u8.1 0))), (d, .inr (4, [.ref ds, .int dsz, .ref dk, .ref dw, .int dac, .int dwr])), (dk, .inl (cI, 60, .inl dfk)), (j, .inr (1, [.ref k, .ref d, .ref jd, .ref jb, .ref jw, .ref jl, .int jbad, .int jwhy, .int jleft, .int jday, .int jwarmDay, .int jbagDays, .int jburnt, .int jboiled])), (jb, .inl (cI, 60, .inl jfb)), (jl, .inl (cI, 61, .inl jfl))] := hD
      refine lv_istore_n (lv' := [(2, .int r8), (1, .int y1), (0, .ref f)]) hx hb dX5_chooseReading_37 rfl hl (by decide) rfl (fun ls hl => ?_)
      refine lv_aload_n hx hb dX5_chooseReading_38 rfl (lv_at hl 2 rfl) ?_
      refine va_get (D := (dC, dI)) (ci := 5) (v := .int yrb) (C := RX5) (T := TX5) (N := 11) hx hb hts hin5 hown hK hP 0 rfl rfl 9 (by decide) hw0 (fun _ h9 => h9) rfl dX5_chooseReading_39 ?_
      refine lv_bipush (v := (-6)) hx hb dX5_chooseReading_42 (by decide) ?_
      refine lv_icmp_eq (tgt := 55) hx hb dX5_chooseReading_44 (by decide) (fun c9 => ?_) (fun c9 => ?_)
      · have t9 : yrb.toInt = (-6 : Int) := (teq c9)
        refine lv_aload_n hx hb dX5_chooseReading_55 rfl (lv_at hl 2 rfl) ?_
        refine lv_iload_n hx hb dX5_chooseReading_56 rfl (lv_at hl 1 rfl) ?_
        refine va_put (D := (dC, dI)) (ci := 5) (v := .int y1) (ty := .int) (C := RX5) (T := TX5) (N := 11) hx hb hts hin5 tyX5 tyX5_ok nmX5 hown hK hP hD hS 0 rfl rfl 9 (by decide) hw0 (fun _ h9 => h9) rfl (by decide +kernel) rfl rfl (Nat.le_of_ble_eq_true rfl) dX5_chooseReading_57 (fun H locs hP hD hS => ?_)
        replace hP : va_P (dC, dI) vwCl [(f, .inr (5, [.ref k, .ref d, .ref j, .ref fl, .ref fh, .ref ff, .ref fa, .ref fm, .int fct, .int y1, .int ysl])), (ff, .inl (cI, 60, .inl fff)), (fa, .inl (cI, 60, .inl ffa)), (fm, .inl (cI, 21, .inl (u8.1 0))), (d, .inr (4, [.ref ds, .int dsz, .ref dk, .ref dw, .int dac, .int dwr])), (dk, .inl (cI, 60, .inl dfk)), (j, .inr (1, [.ref k, .ref d, .ref jd, .ref jb, .ref jw, .ref jl, .int jbad, .int jwhy, .int jleft, .int jday, .int jwarmDay, .int jbagDays, .int jburnt, .int jboiled])), (jb, .inl (cI, 60, .inl jfb)), (jl, .inl (cI, 61, .inl jfl))] H := hP
        replace hD : va_D A [(f, .inr (5, [.ref k, .ref d, .ref j, .ref fl, .ref fh, .ref ff, .ref fa, .ref fm, .int fct, .int y1, .int ysl])), (ff, .inl (cI, 60, .inl fff)), (fa, .inl (cI, 60, .inl ffa)), (fm, .inl (cI, 21, .inl (u8.1 0))), (d, .inr (4, [.ref ds, .int dsz, .ref dk, .ref dw, .int dac, .int dwr])), (dk, .inl (cI, 60, .inl dfk)), (j, .inr (1, [.ref k, .ref d, .ref jd, .ref jb, .ref jw, .ref jl, .int jbad, .int jwhy, .int jleft, .int jday, .int jwarmDay, .int jbagDays, .int jburnt, .int jboiled])), (jb, .inl (cI, 60, .inl jfb)), (jl, .inl (cI, 61, .inl jfl))] := hD
        refine lv_aload_n hx hb dX5_chooseReading_60 rfl (lv_at hl 2 rfl) ?_
        refine lv_iload_n hx hb dX5_chooseReading_61 rfl (lv_at hl 0 rfl) ?_
        refine va_put (D := (dC, dI)) (ci := 5) (v := .int r8) (ty := .int) (C := RX5) (T := TX5) (N := 11) hx hb hts hin5 tyX5 tyX5_ok nmX5 hown hK hP hD hS 0 rfl rfl 10 (by decide) hw1 (fun _ h9 => h9) rfl (by decide +kernel) rfl rfl (Nat.le_of_ble_eq_true rfl) dX5_chooseReading_62 (fun H locs hP hD hS => ?_)
        replace hP : va_P (dC, dI) vwCl [(f, .inr (5, [.ref k, .ref d, .ref j, .ref fl, .ref fh, .ref ff, .ref fa, .ref fm, .int fct, .int y1, .int r8])), (ff, .inl (cI, 60, .inl fff)), (fa, .inl (cI, 60, .inl ffa)), (fm, .inl (cI, 21, .inl (u8.1 0))), (d, .inr (4, [.ref ds, .int dsz, .ref dk, .ref dw, .int dac, .int dwr])), (dk, .inl (cI, 60, .inl dfk)), (j, .inr (1, [.ref k, .ref d, .ref jd, .ref jb, .ref jw, .ref jl, .int jbad, .int jwhy, .int jleft, .int jday, .int jwarmDay, .int jbagDays, .int jburnt, .int jboiled])), (jb, .inl (cI, 60, .inl jfb)), (jl, .inl (cI, 61, .inl jfl))] H := hP
        replace hD : va_D A [(f, .inr (5, [.ref k, .ref d, .ref j, .ref fl, .ref fh, .ref ff, .ref fa, .ref fm, .int fct, .int y1, .int r8])), (ff, .inl (cI, 60, .inl fff)), (fa, .inl (cI, 60, .inl ffa)), (fm, .inl (cI, 21, .inl (u8.1 0))), (d, .inr (4, [.ref ds, .int dsz, .ref dk, .ref dw, .int dac, .int dwr])), (dk, .inl (cI, 60, .inl dfk)), (j, .inr (1, [.ref k, .ref d, .ref jd, .ref jb, .ref jw, .ref jl, .int jbad, .int jwhy, .int jleft, .int jday, .int jwarmDay, .int jbagDays, .int jburnt, .int jboiled])), (jb, .inl (cI, 60, .inl jfb)), (jl, .inl (cI, 61, .inl jfl))] := hD
        obtain ⟨x10, e10⟩ : ∃ y : Int32, y = y1 + Int32.ofInt 1 := ⟨_, rfl⟩
        refine lv_iinc (v := x10) (lv' := [(1, .int x10), (2, .int r8), (0, .ref f)]) hx hb dX5_chooseReading_65 hl (k := 1) rfl e10.symm (by decide) rfl (fun ls hl => ?_)
        have f10 : x10.toInt = y1.toInt + 1 := by rw [e10]; exact tinc (by decide) (by have t8 := tb y1; omega) (by have t8 := tb y1; omega)
        refine lv_goto (tgt := 14) hx hb dX5_chooseReading_68 (by decide) ?_
        exact ih (H := H) (locs := locs) (ls := ls) (y1 := x10) (yfm := (u8.1 0)) (yrb := y1) (ysl := r8) hS (by omega)  (show lv_has ls 3 [(1, .int x10), (0, .ref f)] from lv_sub hl [0, 2] rfl) (mx_subP (wc := [(f, .inr (5, [.ref k, .ref d, .ref j, .ref fl, .ref fh, .ref ff, .ref fa, .ref fm, .int fct, .int y1, .int r8])), (ff, .inl (cI, 60, .inl fff)), (fa, .inl (cI, 60, .inl ffa)), (fm, .inl (cI, 21, .inl (u8.1 0))), (d, .inr (4, [.ref ds, .int dsz, .ref dk, .ref dw, .int dac, .int dwr])), (dk, .inl (cI, 60, .inl dfk)), (j, .inr (1, [.ref k, .ref d, .ref jd, .ref jb, .ref jw, .ref jl, .int jbad, .int jwhy, .int jleft, .int jday, .int jwarmDay, .int jbagDays, .int jburnt, .int jboiled])), (jb, .inl (cI, 60, .inl jfb)), (jl, .inl (cI, 61, .inl jfl))]) hP [0, 1, 2, 3, 4, 5, 6, 7, 8] rfl) (hD.sub (ws' := [(f, .inr (5, [.ref k, .ref d, .ref j, .ref fl, .ref fh, .ref ff, .ref fa, .ref fm, .int fct, .int y1, .int r8])), (ff, .inl (cI, 60, .inl fff)), (fa, .inl (cI, 60, .inl ffa)), (fm, .inl (cI, 21, .inl (u8.1 0))), (d, .inr (4, [.ref ds, .int dsz, .ref dk, .ref dw, .int dac, .int dwr])), (dk, .inl (cI, 60, .inl dfk)), (j, .inr (1, [.ref k, .ref d, .ref jd, .ref jb, .ref jw, .ref jl, .int jbad, .int jwhy, .int jleft, .int jday, .int jwarmDay, .int jbagDays, .int jburnt, .int jboiled])), (jb, .inl (cI, 60, .inl jfb)), (jl, .inl (cI, 61, .inl jfl))]) [0, 1, 2, 3, 4, 5, 6, 7, 8] (by decide) rfl) (by omega)
      · have t9 : yrb.toInt ≠ (-6 : Int) := (tne c9)
        refine lv_iload_n hx hb dX5_chooseReading_47 rfl (lv_at hl 0 rfl) ?_
        refine lv_aload_n hx hb dX5_chooseReading_48 rfl (lv_at hl 2 rfl) ?_
        refine va_get (D := (dC, dI)) (ci := 5) (v := .int ysl) (C := RX5) (T := TX5) (N := 11) hx hb hts hin5 hown hK hP 0 rfl rfl 10 (by decide) hw1 (fun _ h9 => h9) rfl dX5_chooseReading_49 ?_
        refine lv_icmp_ge (tgt := 65) hx hb dX5_chooseReading_52 (by decide) (fun c11 => ?_) (fun c11 => ?_)
        · have t11 : ysl.toInt ≤ r8.toInt := (tle c11)
          obtain ⟨x12, e12⟩ : ∃ y : Int32, y = y1 + Int32.ofInt 1 := ⟨_, rfl⟩
          refine lv_iinc (v := x12) (lv' := [(1, .int x12), (2, .int r8), (0, .ref f)]) hx hb dX5_chooseReading_65 hl (k := 1) rfl e12.symm (by decide) rfl (fun ls hl => ?_)
          have f12 : x12.toInt = y1.toInt + 1 := by rw [e12]; exact tinc (by decide) (by have t8 := tb y1; omega) (by have t8 := tb y1; omega)
          refine lv_goto (tgt := 14) hx hb dX5_chooseReading_68 (by decide) ?_
          exact ih (H := H) (locs := locs) (ls := ls) (y1 := x12) (yfm := (u8.1 0)) (yrb := yrb) (ysl := ysl) hS (by omega)  (show lv_has ls 3 [(1, .int x12), (0, .ref f)] from lv_sub hl [0, 2] rfl) (mx_subP (wc := [(f, .inr (5, [.ref k, .ref d, .ref j, .ref fl, .ref fh, .ref ff, .ref fa, .ref fm, .int fct, .int yrb, .int ysl])), (ff, .inl (cI, 60, .inl fff)), (fa, .inl (cI, 60, .inl ffa)), (fm, .inl (cI, 21, .inl (u8.1 0))), (d, .inr (4, [.ref ds, .int dsz, .ref dk, .ref dw, .int dac, .int dwr])), (dk, .inl (cI, 60, .inl dfk)), (j, .inr (1, [.ref k, .ref d, .ref jd, .ref jb, .ref jw, .ref jl, .int jbad, .int jwhy, .int jleft, .int jday, .int jwarmDay, .int jbagDays, .int jburnt, .int jboiled])), (jb, .inl (cI, 60, .inl jfb)), (jl, .inl (cI, 61, .inl jfl))]) hP [0, 1, 2, 3, 4, 5, 6, 7, 8] rfl) (hD.sub (ws' := [(f, .inr (5, [.ref k, .ref d, .ref j, .ref fl, .ref fh, .ref ff, .ref fa, .ref fm, .int fct, .int yrb, .int ysl])), (ff, .inl (cI, 60, .inl fff)), (fa, .inl (cI, 60, .inl ffa)), (fm, .inl (cI, 21, .inl (u8.1 0))), (d, .inr (4, [.ref ds, .int dsz, .ref dk, .ref dw, .int dac, .int dwr])), (dk, .inl (cI, 60, .inl dfk)), (j, .inr (1, [.ref k, .ref d, .ref jd, .ref jb, .ref jw, .ref jl, .int jbad, .int jwhy, .int jleft, .int jday, .int jwarmDay, .int jbagDays, .int jburnt, .int jboiled])), (jb, .inl (cI, 60, .inl jfb)), (jl, .inl (cI, 61, .inl jfl))]) [0, 1, 2, 3, 4, 5, 6, 7, 8] (by decide) rfl) (by omega)
        · have t11 : r8.toInt < ysl.toInt := (tnle c11)
          refine lv_aload_n hx hb dX5_chooseReading_55 rfl (lv_at hl 2 rfl) ?_
          refine lv_iload_n hx hb dX5_chooseReading_56 rfl (lv_at hl 1 rfl) ?_
          refine va_put (D := (dC, dI)) (ci := 5) (v := .int y1) (ty := .int) (C := RX5) (T := TX5) (N := 11) hx hb hts hin5 tyX5 tyX5_ok nmX5 hown hK hP hD hS 0 rfl rfl 9 (by decide) hw0 (fun _ h9 => h9) rfl (by decide +kernel) rfl rfl (Nat.le_of_ble_eq_true rfl) dX5_chooseReading_57 (fun H locs hP hD hS => ?_)
          replace hP : va_P (dC, dI) vwCl [(f, .inr (5, [.ref k, .ref d, .ref j, .ref fl, .ref fh, .ref ff, .ref fa, .ref fm, .int fct, .int y1, .int ysl])), (ff, .inl (cI, 60, .inl fff)), (fa, .inl (cI, 60, .inl ffa)), (fm, .inl (cI, 21, .inl (u8.1 0))), (d, .inr (4, [.ref ds, .int dsz, .ref dk, .ref dw, .int dac, .int dwr])), (dk, .inl (cI, 60, .inl dfk)), (j, .inr (1, [.ref k, .ref d, .ref jd, .ref jb, .ref jw, .ref jl, .int jbad, .int jwhy, .int jleft, .int jday, .int jwarmDay, .int jbagDays, .int jburnt, .int jboiled])), (jb, .inl (cI, 60, .inl jfb)), (jl, .inl (cI, 61, .inl jfl))] H := hP
          replace hD : va_D A [(f, .inr (5, [.ref k, .ref d, .ref j, .ref fl, .ref fh, .ref ff, .ref fa, .ref fm, .int fct, .int y1, .int ysl])), (ff, .inl (cI, 60, .inl fff)), (fa, .inl (cI, 60, .inl ffa)), (fm, .inl (cI, 21, .inl (u8.1 0))), (d, .inr (4, [.ref ds, .int dsz, .ref dk, .ref dw, .int dac, .int dwr])), (dk, .inl (cI, 60, .inl dfk)), (j, .inr (1, [.ref k, .ref d, .ref jd, .ref jb, .ref jw, .ref jl, .int jbad, .int jwhy, .int jleft, .int jday, .int jwarmDay, .int jbagDays, .int jburnt, .int jboiled])), (jb, .inl (cI, 60, .inl jfb)), (jl, .inl (cI, 61, .inl jfl))] := hD
          refine lv_aload_n hx hb dX5_chooseReading_60 rfl (lv_at hl 2 rfl) ?_
          refine lv_iload_n hx hb dX5_chooseReading_61 rfl (lv_at hl 0 rfl) ?_
          refine va_put (D := (dC, dI)) (ci := 5) (v := .int r8) (ty := .int) (C := RX5) (T := TX5) (N := 11) hx hb hts hin5 tyX5 tyX5_ok nmX5 hown hK hP hD hS 0 rfl rfl 10 (by decide) hw1 (fun _ h9 => h9) rfl (by decide +kernel) rfl rfl (Nat.le_of_ble_eq_true rfl) dX5_chooseReading_62 (fun H locs hP hD hS => ?_)
          replace hP : va_P (dC, dI) vwCl [(f, .inr (5, [.ref k, .ref d, .ref j, .ref fl, .ref fh, .ref ff, .ref fa, .ref fm, .int fct, .int y1, .int r8])), (ff, .inl (cI, 60, .inl fff)), (fa, .inl (cI, 60, .inl ffa)), (fm, .inl (cI, 21, .inl (u8.1 0))), (d, .inr (4, [.ref ds, .int dsz, .ref dk, .ref dw, .int dac, .int dwr])), (dk, .inl (cI, 60, .inl dfk)), (j, .inr (1, [.ref k, .ref d, .ref jd, .ref jb, .ref jw, .ref jl, .int jbad, .int jwhy, .int jleft, .int jday, .int jwarmDay, .int jbagDays, .int jburnt, .int jboiled])), (jb, .inl (cI, 60, .inl jfb)), (jl, .inl (cI, 61, .inl jfl))] H := hP
          replace hD : va_D A [(f, .inr (5, [.ref k, .ref d, .ref j, .ref fl, .ref fh, .ref ff, .ref fa, .ref fm, .int fct, .int y1, .int r8])), (ff, .inl (cI, 60, .inl fff)), (fa, .inl (cI, 60, .inl ffa)), (fm, .inl (cI, 21, .inl (u8.1 0))), (d, .inr (4, [.ref ds, .int dsz, .ref dk, .ref dw, .int dac, .int dwr])), (dk, .inl (cI, 60, .inl dfk)), (j, .inr (1, [.ref k, .ref d, .ref jd, .ref jb, .ref jw, .ref jl, .int jbad, .int jwhy, .int jleft, .int jday, .int jwarmDay, .int jbagDays, .int jburnt, .int jboiled])), (jb, .inl (cI, 60, .inl jfb)), (jl, .inl (cI, 61, .inl jfl))] := hD
          obtain ⟨x13, e13⟩ : ∃ y : Int32, y = y1 + Int32.ofInt 1 := ⟨_, rfl⟩
          refine lv_iinc (v := x13) (lv' := [(1, .int x13), (2, .int r8), (0, .ref f)]) hx hb dX5_chooseReading_65 hl (k := 1) rfl e13.symm (by decide) rfl (fun ls hl => ?_)
          have f13 : x13.toInt = y1.toInt + 1 := by rw [e13]; exact tinc (by decide) (by have t8 := tb y1; omega) (by have t8 := tb y1; omega)
          refine lv_goto (tgt := 14) hx hb dX5_chooseReading_68 (by decide) ?_
          exact ih (H := H) (locs := locs) (ls := ls) (y1 := x13) (yfm := (u8.1 0)) (yrb := y1) (ysl := r8) hS (by omega)  (show lv_has ls 3 [(1, .int x13), (0, .ref f)] from lv_sub hl [0, 2] rfl) (mx_subP (wc := [(f, .inr (5, [.ref k, .ref d, .ref j, .ref fl, .ref fh, .ref ff, .ref fa, .ref fm, .int fct, .int y1, .int r8])), (ff, .inl (cI, 60, .inl fff)), (fa, .inl (cI, 60, .inl ffa)), (fm, .inl (cI, 21, .inl (u8.1 0))), (d, .inr (4, [.ref ds, .int dsz, .ref dk, .ref dw, .int dac, .int dwr])), (dk, .inl (cI, 60, .inl dfk)), (j, .inr (1, [.ref k, .ref d, .ref jd, .ref jb, .ref jw, .ref jl, .int jbad, .int jwhy, .int jleft, .int jday, .int jwarmDay, .int jbagDays, .int jburnt, .int jboiled])), (jb, .inl (cI, 60, .inl jfb)), (jl, .inl (cI, 61, .inl jfl))]) hP [0, 1, 2, 3, 4, 5, 6, 7, 8] rfl) (hD.sub (ws' := [(f, .inr (5, [.ref k, .ref d, .ref j, .ref fl, .ref fh, .ref ff, .ref fa, .ref fm, .int fct, .int y1, .int r8])), (ff, .inl (cI, 60, .inl fff)), (fa, .inl (cI, 60, .inl ffa)), (fm, .inl (cI, 21, .inl (u8.1 0))), (d, .inr (4, [.ref ds, .int dsz, .ref dk, .ref dw, .int dac, .int dwr])), (dk, .inl (cI, 60, .inl dfk)), (j, .inr (1, [.ref k, .ref d, .ref jd, .ref jb, .ref jw, .ref jl, .int jbad, .int jwhy, .int jleft, .int jday, .int jwarmDay, .int jbagDays, .int jburnt, .int jboiled])), (jb, .inl (cI, 60, .inl jfb)), (jl, .inl (cI, 61, .inl jfl))]) [0, 1, 2, 3, 4, 5, 6, 7, 8] (by decide) rfl) (by omega)
set_option maxHeartbeats 4000000 in
set_option maxRecDepth 100000 in
theorem c_X5_nth (l : Launch) (dC : Nat → ClassId) (dI : Nat → Nat → Nat) (cI cZ cK : ClassId) (tS : Nat) (aK aV : Nat → Nat) (f : Nat) (i0 : Int32) (k : Nat) (d : Nat) (j : Nat) (fl : Nat) (fh : Nat) (ff : Nat) (fa : Nat) (fm : Nat) (fct : Int32) (frb : Int32) (fsl : Int32) (fff : Nat → Int32) (ffa : Nat → Int32) (ds : Nat) (dsz : Int32) (dk : Nat) (dw : Nat) (dac : Int32) (dwr : Int32) (sz : Nat) (h_ffa : rg ffa 60 (-2147483648) 200) (h_dac : 0 ≤ dac.toInt ∧ dac.toInt ≤ 60) : Ci l yX5_nth (wq yX5_nth cX5_nth 4 (some .int)) ({ frames := 2, cells := 0, slots := 0, locals := 42 }) dC dI cI cZ cK tS aK aV [.ref f, .int i0] sz [(f, .inr (5, [.ref k, .ref d, .ref j, .ref fl, .ref fh, .ref ff, .ref fa, .ref fm, .int fct, .int frb, .int fsl])), (ff, .inl (cI, 60, .inl fff)), (fa, .inl (cI, 60, .inl ffa)), (d, .inr (4, [.ref ds, .int dsz, .ref dk, .ref dw, .int dac, .int dwr]))] (fun (r : Int32) (u : Unit) => True) (fun _ => [(f, .inr (5, [.ref k, .ref d, .ref j, .ref fl, .ref fh, .ref ff, .ref fa, .ref fm, .int fct, .int frb, .int fsl])), (ff, .inl (cI, 60, .inl fff)), (fa, .inl (cI, 60, .inl ffa)), (d, .inr (4, [.ref ds, .int dsz, .ref dk, .ref dw, .int dac, .int dwr]))]) := by
  refine Met.ofW (cc := cX5_nth) (maxL := 4) (ret := (some .int)) (by decide) rfl ?_
  intro p e s m args below meth c s₁ B hml hv
  obtain ⟨rfl, hsz, hP, hKx, hD0⟩ := hv
  have hx := B.exec
  have hb := B.bytes
  have hr := B.returns
  have hts := atoms_spec (ws := wq yX5_nth cX5_nth 4 (some .int)) B.pre
  have hown : s.vm.findClass RX5 = some m.cls := findClass_of_methodNamed B.named
  have hlocks := B.notSynchronized
  subst hsz
  have hD := hD0.self (sz := s.heap.size)
  generalize hAe : va_A [(f, .inr (5, [.ref k, .ref d, .ref j, .ref fl, .ref fh, .ref ff, .ref fa, .ref fm, .int fct, .int frb, .int fsl])), (ff, .inl (cI, 60, .inl fff)), (fa, .inl (cI, 60, .inl ffa)), (d, .inr (4, [.ref ds, .int dsz, .ref dk, .ref dw, .int dac, .int dwr]))] s.heap.size = A at hD hKx ⊢
  have hA : ∀ q : Nat, s.heap.size ≤ q → A q := fun q h => by rw [← hAe]; exact Or.inr h
  have hS : va_S A s.heap s.heap [] := va_S.rf
  have hP : va_P (dC, dI) vwCl [(f, .inr (5, [.ref k, .ref d, .ref j, .ref fl, .ref fh, .ref ff, .ref fa, .ref fm, .int fct, .int frb, .int fsl])), (ff, .inl (cI, 60, .inl fff)), (fa, .inl (cI, 60, .inl ffa)), (d, .inr (4, [.ref ds, .int dsz, .ref dk, .ref dw, .int dac, .int dwr]))] s.heap := hP
  have hl := lv_entry ([.ref f, .int i0]) (n := 4) (Nat.le_of_ble_eq_true rfl)
  rw [lg_entry_eq]
  generalize (lg_sl ([.ref f, .int i0]) ++ List.replicate (4 - (lg_sl ([.ref f, .int i0])).length) Slot.unset).toArray = ls at hl ⊢
  have hl : lv_has ls 4 [(0, .ref f), (1, .int i0)] := hl
  have hK := hKx.1
  have hin5 := fun w9 h9 => List.mem_cons_of_mem (Cond.code yX5_nth cX5_nth 4 (some .int)) (inlX5 w9 h9)
  have hin4 := fun w9 h9 => List.mem_cons_of_mem (Cond.code yX5_nth cX5_nth 4 (some .int)) (inlX4 w9 h9)
  have hw0 := hts (.fieldLink RX5 31 "OneCan$Search" "pad" "LOneCan$Pad;") (List.mem_cons_of_mem _ wm_93)
  have hw1 := hts (.fieldLink RX5 54 "OneCan$Pad" "acts" "I") (List.mem_cons_of_mem _ wm_738)
  have hw2 := hts (.fieldLink RX5 18 "OneCan$Search" "first" "[I") (List.mem_cons_of_mem _ wm_89)
  refine lv_iload_n hx hb dX5_nth_0 rfl (lv_at hl 1 rfl) ?_
  refine lv_istore_n (lv' := [(2, .int i0), (0, .ref f), (1, .int i0)]) hx hb dX5_nth_1 rfl hl (by decide) rfl (fun ls hl => ?_)
  refine lv_iconst (v := 0) hx hb dX5_nth_2 (by decide) ?_
  refine lv_istore_n (lv' := [(3, .int 0), (2, .int i0), (0, .ref f), (1, .int i0)]) hx hb dX5_nth_3 rfl hl (by decide) rfl (fun ls hl => ?_)
  have z2 : (0 : Int32).toInt = 0 := rfl
  have hl0 := hl
  clear hl
  obtain ⟨H, hHe⟩ : ∃ H : Heap, H = s.heap := ⟨_, rfl⟩
  obtain ⟨locs, hlo⟩ : ∃ l : List Loc, l = [] := ⟨_, rfl⟩
  replace hP : va_P (dC, dI) vwCl [(f, .inr (5, [.ref k, .ref d, .ref j, .ref fl, .ref fh, .ref ff, .ref fa, .ref fm, .int fct, .int frb, .int fsl])), (ff, .inl (cI, 60, .inl fff)), (fa, .inl (cI, 60, .inl ffa)), (d, .inr (4, [.ref ds, .int dsz, .ref dk, .ref dw, .int dac, .int dwr]))] H := by rw [hHe]; exact hP
  replace hS : va_S A s.heap H locs := by rw [hHe, hlo]; exact hS
  rw [← hHe, ← hlo]
  clear hHe hlo
  have hP0 := hP
  clear hP
  have hD0 := hD
  clear hD
  obtain ⟨y2, y3, ex, hl, hP, hD⟩ : ∃ (y2 y3 : Int32), (0 ≤ y3.toInt ∧ y3.toInt ≤ dac.toInt) ∧ lv_has ls 4 [(3, .int y3), (2, .int y2), (0, .ref f), (1, .int i0)] ∧ va_P (dC, dI) vwCl [(f, .inr (5, [.ref k, .ref d, .ref j, .ref fl, .ref fh, .ref ff, .ref fa, .ref fm, .int fct, .int frb, .int fsl])), (ff, .inl (cI, 60, .inl fff)), (fa, .inl (cI, 60, .inl ffa)), (d, .inr (4, [.ref ds, .int dsz, .ref dk, .ref dw, .int dac, .int dwr]))] H ∧ va_D A [(f, .inr (5, [.ref k, .ref d, .ref j, .ref fl, .ref fh, .ref ff, .ref fa, .ref fm, .int fct, .int frb, .int fsl])), (ff, .inl (cI, 60, .inl fff)), (fa, .inl (cI, 60, .inl ffa)), (d, .inr (4, [.ref ds, .int dsz, .ref dk, .ref dw, .int dac, .int dwr]))] := ⟨i0, 0, by omega, hl0, hP0, hD0⟩
  clear hl0 hP0 hD0
  obtain ⟨n1, hn⟩ : ∃ n : Nat, (n : Int) = dac.toInt - y3.toInt := ⟨(dac.toInt - y3.toInt).toNat, by omega⟩
  induction n1 generalizing y2 y3 ls H locs with
  | zero =>
    skip
    refine lv_iload_n hx hb dX5_nth_4 rfl (lv_at hl 0 rfl) ?_
    refine lv_aload_n hx hb dX5_nth_5 rfl (lv_at hl 2 rfl) ?_
    refine va_get (D := (dC, dI)) (ci := 5) (v := .ref d) (C := RX5) (T := TX5) (N := 11) hx hb hts hin5 hown hK hP 0 rfl rfl 1 (by decide) hw0 (fun _ h9 => h9) rfl dX5_nth_6 ?_
    refine va_get (D := (dC, dI)) (ci := 4) (v := .int dac) (C := RX4) (T := TX4) (N := 6) hx hb hts hin4 hown hK hP 3 rfl rfl 4 (by decide) hw1 (fun _ h9 => h9) rfl dX5_nth_9 ?_
    refine lv_icmp_ge (tgt := 57) hx hb dX5_nth_12 (by decide) (fun c3 => ?_) (fun c3 => by exfalso; have t3 : y3.toInt < dac.toInt := (tnle c3); omega)
    refine lv_bipush (v := (-6)) hx hb dX5_nth_57 (by decide) ?_
    have hP9 := mx_subP (wc := [(f, .inr (5, [.ref k, .ref d, .ref j, .ref fl, .ref fh, .ref ff, .ref fa, .ref fm, .int fct, .int frb, .int fsl])), (ff, .inl (cI, 60, .inl fff)), (fa, .inl (cI, 60, .inl ffa)), (d, .inr (4, [.ref ds, .int dsz, .ref dk, .ref dw, .int dac, .int dwr]))]) hP [0, 1, 2, 3] rfl
    have hD9 := hD.sub (ws' := [(f, .inr (5, [.ref k, .ref d, .ref j, .ref fl, .ref fh, .ref ff, .ref fa, .ref fm, .int fct, .int frb, .int fsl])), (ff, .inl (cI, 60, .inl fff)), (fa, .inl (cI, 60, .inl ffa)), (d, .inr (4, [.ref ds, .int dsz, .ref dk, .ref dw, .int dac, .int dwr]))]) [0, 1, 2, 3] (by decide) rfl
    exact W.iret (v := (-6)) hx hb hr (fun t ht hW => ⟨⟨(-6), (), rfl, trivial, by rw [ht]; exact hP9, hD9⟩, hS.F ht⟩) hS.2.2 dX5_nth_59
  | succ n1 ih =>
    skip
    refine lv_iload_n hx hb dX5_nth_4 rfl (lv_at hl 0 rfl) ?_
    refine lv_aload_n hx hb dX5_nth_5 rfl (lv_at hl 2 rfl) ?_
    refine va_get (D := (dC, dI)) (ci := 5) (v := .ref d) (C := RX5) (T := TX5) (N := 11) hx hb hts hin5 hown hK hP 0 rfl rfl 1 (by decide) hw0 (fun _ h9 => h9) rfl dX5_nth_6 ?_
    refine va_get (D := (dC, dI)) (ci := 4) (v := .int dac) (C := RX4) (T := TX4) (N := 6) hx hb hts hin4 hown hK hP 3 rfl rfl 4 (by decide) hw1 (fun _ h9 => h9) rfl dX5_nth_9 ?_
    refine lv_icmp_ge (tgt := 57) hx hb dX5_nth_12 (by decide) (fun c4 => by exfalso; have t4 : dac.toInt ≤ y3.toInt := (tle c4); omega) (fun c4 => ?_)
    refine lv_iload_n hx hb dX5_nth_15 rfl (lv_at hl 1 rfl) ?_
    refine lv_if_lt (tgt := 57) hx hb dX5_nth_16 (by decide) (fun c5 => ?_) (fun c5 => ?_)
    · have t5 : y2.toInt < (0 : Int) := (tlt c5)
      refine lv_bipush (v := (-6)) hx hb dX5_nth_57 (by decide) ?_
      have hP9 := mx_subP (wc := [(f, .inr (5, [.ref k, .ref d, .ref j, .ref fl, .ref fh, .ref ff, .ref fa, .ref fm, .int fct, .int frb, .int fsl])), (ff, .inl (cI, 60, .inl fff)), (fa, .inl (cI, 60, .inl ffa)), (d, .inr (4, [.ref ds, .int dsz, .ref dk, .ref dw, .int dac, .int dwr]))]) hP [0, 1, 2, 3] rfl
      have hD9 := hD.sub (ws' := [(f, .inr (5, [.ref k, .ref d, .ref j, .ref fl, .ref fh, .ref ff, .ref fa, .ref fm, .int fct, .int frb, .int fsl])), (ff, .inl (cI, 60, .inl fff)), (fa, .inl (cI, 60, .inl ffa)), (d, .inr (4, [.ref ds, .int dsz, .ref dk, .ref dw, .int dac, .int dwr]))]) [0, 1, 2, 3] (by decide) rfl
      exact W.iret (v := (-6)) hx hb hr (fun t ht hW => ⟨⟨(-6), (), rfl, trivial, by rw [ht]; exact hP9, hD9⟩, hS.F ht⟩) hS.2.2 dX5_nth_59
    · have t5 : (0 : Int) ≤ y2.toInt := (tnlt c5)
      refine lv_iload_n hx hb dX5_nth_19 rfl (lv_at hl 1 rfl) ?_
      refine lv_aload_n hx hb dX5_nth_20 rfl (lv_at hl 2 rfl) ?_
      refine lv_iload_n hx hb dX5_nth_21 rfl (lv_at hl 0 rfl) ?_
      refine mx_i (wr := [(d, .inr (4, [.ref ds, .int dsz, .ref dk, .ref dw, .int dac, .int dwr]))]) (va_runV (As := [.int y3]) (rest := [.int y2]) ⟨hx, hb, hml, hown, hts⟩ (c_X5_fitting l dC dI cI cZ cK tS aK aV f y3 k d j fl fh ff fa fm fct frb fsl fff ffa H.size h_ffa (by first | omega | decide | assumption | trivial)) (cwV 1 hts (gw_v (fun _ h9 => List.mem_cons_of_mem _ h9) wm_763 wm_764 wm_765 wm_30 wm_766) rfl rfl rfl (by decide +kernel) ⟨Nat.le_of_ble_eq_true rfl, Nat.le_of_ble_eq_true rfl⟩) (mx_preV (C := RX5) (T := TX5) (N := 11) (ci := 5) hKx hP hD hS hA [0, 1, 2] (by decide) rfl rfl rfl) rfl rfl hl.1 rfl (lv_room (Nat.le_of_ble_eq_true rfl)) dX5_nth_22 ⟨Nat.le_of_ble_eq_true rfl, Nat.le_of_ble_eq_true rfl⟩) hP hD hS hA [0, 1, 2] [3] rfl rfl (by decide) (by decide) (fun r6 u6 H locs hq6 hP hD hS => ?_)
      replace hP : va_P (dC, dI) vwCl [(d, .inr (4, [.ref ds, .int dsz, .ref dk, .ref dw, .int dac, .int dwr])), (f, .inr (5, [.ref k, .ref d, .ref j, .ref fl, .ref fh, .ref ff, .ref fa, .ref fm, .int fct, .int frb, .int fsl])), (ff, .inl (cI, 60, .inl fff)), (fa, .inl (cI, 60, .inl ffa))] H := hP
      replace hD : va_D A [(d, .inr (4, [.ref ds, .int dsz, .ref dk, .ref dw, .int dac, .int dwr])), (f, .inr (5, [.ref k, .ref d, .ref j, .ref fl, .ref fh, .ref ff, .ref fa, .ref fm, .int fct, .int frb, .int fsl])), (ff, .inl (cI, 60, .inl fff)), (fa, .inl (cI, 60, .inl ffa))] := hD
      refine lv_icmp_ge (tgt := 43) hx hb dX5_nth_25 (by decide) (fun c7 => ?_) (fun c7 => ?_)
      · have t7 : r6.toInt ≤ y2.toInt := (tle c7)
        refine lv_iload_n hx hb dX5_nth_43 rfl (lv_at hl 1 rfl) ?_
        refine lv_aload_n hx hb dX5_nth_44 rfl (lv_at hl 2 rfl) ?_
        refine lv_iload_n hx hb dX5_nth_45 rfl (lv_at hl 0 rfl) ?_
        refine mx_i (wr := [(d, .inr (4, [.ref ds, .int dsz, .ref dk, .ref dw, .int dac, .int dwr]))]) (va_runV (As := [.int y3]) (rest := [.int y2]) ⟨hx, hb, hml, hown, hts⟩ (c_X5_fitting l dC dI cI cZ cK tS aK aV f y3 k d j fl fh ff fa fm fct frb fsl fff ffa H.size h_ffa (by first | omega | decide | assumption | trivial)) (cwV 1 hts (gw_v (fun _ h9 => List.mem_cons_of_mem _ h9) wm_763 wm_764 wm_765 wm_30 wm_766) rfl rfl rfl (by decide +kernel) ⟨Nat.le_of_ble_eq_true rfl, Nat.le_of_ble_eq_true rfl⟩) (mx_preV (C := RX5) (T := TX5) (N := 11) (ci := 5) hKx hP hD hS hA [1, 2, 3] (by decide) rfl rfl rfl) rfl rfl hl.1 rfl (lv_room (Nat.le_of_ble_eq_true rfl)) dX5_nth_46 ⟨Nat.le_of_ble_eq_true rfl, Nat.le_of_ble_eq_true rfl⟩) hP hD hS hA [1, 2, 3] [0] rfl rfl (by decide) (by decide) (fun r8 u8 H locs hq8 hP hD hS => ?_)
        replace hP : va_P (dC, dI) vwCl [(d, .inr (4, [.ref ds, .int dsz, .ref dk, .ref dw, .int dac, .int dwr])), (f, .inr (5, [.ref k, .ref d, .ref j, .ref fl, .ref fh, .ref ff, .ref fa, .ref fm, .int fct, .int frb, .int fsl])), (ff, .inl (cI, 60, .inl fff)), (fa, .inl (cI, 60, .inl ffa))] H := hP
        replace hD : va_D A [(d, .inr (4, [.ref ds, .int dsz, .ref dk, .ref dw, .int dac, .int dwr])), (f, .inr (5, [.ref k, .ref d, .ref j, .ref fl, .ref fh, .ref ff, .ref fa, .ref fm, .int fct, .int frb, .int fsl])), (ff, .inl (cI, 60, .inl fff)), (fa, .inl (cI, 60, .inl ffa))] := hD
        refine lv_isub hx hb dX5_nth_49 ?_
        refine lv_topi (fun x9 e9 => ?_)
        refine lv_istore_n (lv' := [(2, .int x9), (3, .int y3), (0, .ref f), (1, .int i0)]) hx hb dX5_nth_50 rfl hl (by decide) rfl (fun ls hl => ?_)
        obtain ⟨x10, e10⟩ : ∃ y : Int32, y = y3 + Int32.ofInt 1 := ⟨_, rfl⟩
        refine lv_iinc (v := x10) (lv' := [(3, .int x10), (2, .int x9), (0, .ref f), (1, .int i0)]) hx hb dX5_nth_51 hl (k := 1) rfl e10.symm (by decide) rfl (fun ls hl => ?_)
        have f10 : x10.toInt = y3.toInt + 1 := by rw [e10]; exact tinc (by decide) (by have t8 := tb y3; omega) (by have t8 := tb y3; omega)
        refine lv_goto (tgt := 4) hx hb dX5_nth_54 (by decide) ?_
        exact ih (H := H) (locs := locs) (ls := ls) (y2 := x9) (y3 := x10) hS (by omega)  (show lv_has ls 4 [(3, .int x10), (2, .int x9), (0, .ref f), (1, .int i0)] from lv_sub hl [0, 1, 2, 3] rfl) (mx_subP (wc := [(f, .inr (5, [.ref k, .ref d, .ref j, .ref fl, .ref fh, .ref ff, .ref fa, .ref fm, .int fct, .int frb, .int fsl])), (ff, .inl (cI, 60, .inl fff)), (fa, .inl (cI, 60, .inl ffa)), (d, .inr (4, [.ref ds, .int dsz, .ref dk, .ref dw, .int dac, .int dwr]))]) hP [1, 2, 3, 0] rfl) (by omega)
      · have t7 : y2.toInt < r6.toInt := (tnle c7)
        refine lv_sipush (v := 1000) hx hb dX5_nth_28 (by decide) ?_
        refine lv_iload_n hx hb dX5_nth_31 rfl (lv_at hl 0 rfl) ?_
        refine lv_imul hx hb dX5_nth_32 ?_
        refine lv_topi (fun x11 e11 => ?_)
        have f11 : x11.toInt = (1000 : Int) * y3.toInt := by rw [e11]; exact tmul (by have z8 : (1000 : Int32).toInt = 1000 := rfl; have t8 := tb y3; rw [z8]; omega) (by have z8 : (1000 : Int32).toInt = 1000 := rfl; have t8 := tb y3; rw [z8]; omega)
        refine lv_aload_n hx hb dX5_nth_33 rfl (lv_at hl 2 rfl) ?_
        refine va_get (D := (dC, dI)) (ci := 5) (v := .ref ff) (C := RX5) (T := TX5) (N := 11) hx hb hts hin5 hown hK hP 1 rfl rfl 5 (by decide) hw2 (fun _ h9 => h9) rfl dX5_nth_34 ?_
        refine lv_iload_n hx hb dX5_nth_37 rfl (lv_at hl 0 rfl) ?_
        refine va_iald hx hb hK hP 2 0 rfl rfl (vin (by omega) (by omega)) dX5_nth_38 ?_
        refine lv_topi (fun x12 e12 => ?_)
        refine lv_iadd hx hb dX5_nth_39 ?_
        refine lv_topi (fun x13 e13 => ?_)
        refine lv_iload_n hx hb dX5_nth_40 rfl (lv_at hl 1 rfl) ?_
        refine lv_iadd hx hb dX5_nth_41 ?_
        refine lv_topi (fun x14 e14 => ?_)
        have hP9 := mx_subP (wc := [(f, .inr (5, [.ref k, .ref d, .ref j, .ref fl, .ref fh, .ref ff, .ref fa, .ref fm, .int fct, .int frb, .int fsl])), (ff, .inl (cI, 60, .inl fff)), (fa, .inl (cI, 60, .inl ffa)), (d, .inr (4, [.ref ds, .int dsz, .ref dk, .ref dw, .int dac, .int dwr]))]) hP [1, 2, 3, 0] rfl
        have hD9 := hD.sub (ws' := [(f, .inr (5, [.ref k, .ref d, .ref j, .ref fl, .ref fh, .ref ff, .ref fa, .ref fm, .int fct, .int frb, .int fsl])), (ff, .inl (cI, 60, .inl fff)), (fa, .inl (cI, 60, .inl ffa)), (d, .inr (4, [.ref ds, .int dsz, .ref dk, .ref dw, .int dac, .int dwr]))]) [1, 2, 3, 0] (by decide) rfl
        exact W.iret (v := x14) hx hb hr (fun t ht hW => ⟨⟨x14, (), rfl, trivial, by rw [ht]; exact hP9, hD9⟩, hS.F ht⟩) hS.2.2 dX5_nth_42
set_option maxHeartbeats 4000000 in
set_option maxRecDepth 100000 in
theorem c_X5_actsAsBits (l : Launch) (dC : Nat → ClassId) (dI : Nat → Nat → Nat) (cI cZ cK : ClassId) (tS : Nat) (aK aV : Nat → Nat) (f : Nat) (k : Nat) (d : Nat) (j : Nat) (fl : Nat) (fh : Nat) (ff : Nat) (fa : Nat) (fm : Nat) (fct : Int32) (frb : Int32) (fsl : Int32) (fff : Nat → Int32) (ffa : Nat → Int32) (ds : Nat) (dsz : Int32) (dk : Nat) (dw : Nat) (dac : Int32) (dwr : Int32) (sz : Nat) (h_ffa : rg ffa 60 (-2147483648) 200) (h_dac : 0 ≤ dac.toInt ∧ dac.toInt ≤ 60) : Ci l yX5_actsAsBits (wq yX5_actsAsBits cX5_actsAsBits 3 (some .int)) ({ frames := 2, cells := 0, slots := 0, locals := 42 }) dC dI cI cZ cK tS aK aV [.ref f] sz [(f, .inr (5, [.ref k, .ref d, .ref j, .ref fl, .ref fh, .ref ff, .ref fa, .ref fm, .int fct, .int frb, .int fsl])), (ff, .inl (cI, 60, .inl fff)), (fa, .inl (cI, 60, .inl ffa)), (d, .inr (4, [.ref ds, .int dsz, .ref dk, .ref dw, .int dac, .int dwr]))] (fun (r : Int32) (u : Unit) => True) (fun _ => [(f, .inr (5, [.ref k, .ref d, .ref j, .ref fl, .ref fh, .ref ff, .ref fa, .ref fm, .int fct, .int frb, .int fsl])), (ff, .inl (cI, 60, .inl fff)), (fa, .inl (cI, 60, .inl ffa)), (d, .inr (4, [.ref ds, .int dsz, .ref dk, .ref dw, .int dac, .int dwr]))]) := by
  refine Met.ofW (cc := cX5_actsAsBits) (maxL := 3) (ret := (some .int)) (by decide) rfl ?_
  intro p e s m args below meth c s₁ B hml hv
  obtain ⟨rfl, hsz, hP, hKx, hD0⟩ := hv
  have hx := B.exec
  have hb := B.bytes
  have hr := B.returns
  have hts := atoms_spec (ws := wq yX5_actsAsBits cX5_actsAsBits 3 (some .int)) B.pre
  have hown : s.vm.findClass RX5 = some m.cls := findClass_of_methodNamed B.named
  have hlocks := B.notSynchronized
  subst hsz
  have hD := hD0.self (sz := s.heap.size)
  generalize hAe : va_A [(f, .inr (5, [.ref k, .ref d, .ref j, .ref fl, .ref fh, .ref ff, .ref fa, .ref fm, .int fct, .int frb, .int fsl])), (ff, .inl (cI, 60, .inl fff)), (fa, .inl (cI, 60, .inl ffa)), (d, .inr (4, [.ref ds, .int dsz, .ref dk, .ref dw, .int dac, .int dwr]))] s.heap.size = A at hD hKx ⊢
  have hA : ∀ q : Nat, s.heap.size ≤ q → A q := fun q h => by rw [← hAe]; exact Or.inr h
  have hS : va_S A s.heap s.heap [] := va_S.rf
  have hP : va_P (dC, dI) vwCl [(f, .inr (5, [.ref k, .ref d, .ref j, .ref fl, .ref fh, .ref ff, .ref fa, .ref fm, .int fct, .int frb, .int fsl])), (ff, .inl (cI, 60, .inl fff)), (fa, .inl (cI, 60, .inl ffa)), (d, .inr (4, [.ref ds, .int dsz, .ref dk, .ref dw, .int dac, .int dwr]))] s.heap := hP
  have hl := lv_entry ([.ref f]) (n := 3) (Nat.le_of_ble_eq_true rfl)
  rw [lg_entry_eq]
  generalize (lg_sl ([.ref f]) ++ List.replicate (3 - (lg_sl ([.ref f])).length) Slot.unset).toArray = ls at hl ⊢
  have hl : lv_has ls 3 [(0, .ref f)] := hl
  have hK := hKx.1
  have hin5 := fun w9 h9 => List.mem_cons_of_mem (Cond.code yX5_actsAsBits cX5_actsAsBits 3 (some .int)) (inlX5 w9 h9)
  have hin4 := fun w9 h9 => List.mem_cons_of_mem (Cond.code yX5_actsAsBits cX5_actsAsBits 3 (some .int)) (inlX4 w9 h9)
  have hw0 := hts (.fieldLink RX5 31 "OneCan$Search" "pad" "LOneCan$Pad;") (List.mem_cons_of_mem _ wm_93)
  have hw1 := hts (.fieldLink RX5 54 "OneCan$Pad" "acts" "I") (List.mem_cons_of_mem _ wm_738)
  refine lv_iconst (v := 0) hx hb dX5_actsAsBits_0 (by decide) ?_
  refine lv_istore_n (lv' := [(1, .int 0), (0, .ref f)]) hx hb dX5_actsAsBits_1 rfl hl (by decide) rfl (fun ls hl => ?_)
  refine lv_iconst (v := 0) hx hb dX5_actsAsBits_2 (by decide) ?_
  refine lv_istore_n (lv' := [(2, .int 0), (1, .int 0), (0, .ref f)]) hx hb dX5_actsAsBits_3 rfl hl (by decide) rfl (fun ls hl => ?_)
  have z2 : (0 : Int32).toInt = 0 := rfl
  have z3 : (0 : Int32).toInt = 0 := rfl
  have hl0 := hl
  clear hl
  obtain ⟨H, hHe⟩ : ∃ H : Heap, H = s.heap := ⟨_, rfl⟩
  obtain ⟨locs, hlo⟩ : ∃ l : List Loc, l = [] := ⟨_, rfl⟩
  replace hP : va_P (dC, dI) vwCl [(f, .inr (5, [.ref k, .ref d, .ref j, .ref fl, .ref fh, .ref ff, .ref fa, .ref fm, .int fct, .int frb, .int fsl])), (ff, .inl (cI, 60, .inl fff)), (fa, .inl (cI, 60, .inl ffa)), (d, .inr (4, [.ref ds, .int dsz, .ref dk, .ref dw, .int dac, .int dwr]))] H := by rw [hHe]; exact hP
  replace hS : va_S A s.heap H locs := by rw [hHe, hlo]; exact hS
  rw [← hHe, ← hlo]
  clear hHe hlo
  have hP0 := hP
  clear hP
  have hD0 := hD
  clear hD
  obtain ⟨y1, y2, ex, hl, hP, hD⟩ : ∃ (y1 y2 : Int32), (0 ≤ y2.toInt ∧ y2.toInt ≤ dac.toInt) ∧ lv_has ls 3 [(2, .int y2), (1, .int y1), (0, .ref f)] ∧ va_P (dC, dI) vwCl [(f, .inr (5, [.ref k, .ref d, .ref j, .ref fl, .ref fh, .ref ff, .ref fa, .ref fm, .int fct, .int frb, .int fsl])), (ff, .inl (cI, 60, .inl fff)), (fa, .inl (cI, 60, .inl ffa)), (d, .inr (4, [.ref ds, .int dsz, .ref dk, .ref dw, .int dac, .int dwr]))] H ∧ va_D A [(f, .inr (5, [.ref k, .ref d, .ref j, .ref fl, .ref fh, .ref ff, .ref fa, .ref fm, .int fct, .int frb, .int fsl])), (ff, .inl (cI, 60, .inl fff)), (fa, .inl (cI, 60, .inl ffa)), (d, .inr (4, [.ref ds, .int dsz, .ref dk, .ref dw, .int dac, .int dwr]))] := ⟨0, 0, by omega, hl0, hP0, hD0⟩
  clear hl0 hP0 hD0
  obtain ⟨n1, hn⟩ : ∃ n : Nat, (n : Int) = dac.toInt - y2.toInt := ⟨(dac.toInt - y2.toInt).toNat, by omega⟩
  induction n1 generalizing y1 y2 ls H locs with
  | zero =>
    skip
    refine lv_iload_n hx hb dX5_actsAsBits_4 rfl (lv_at hl 0 rfl) ?_
    refine lv_aload_n hx hb dX5_actsAsBits_5 rfl (lv_at hl 2 rfl) ?_
    refine va_get (D := (dC, dI)) (ci := 5) (v := .ref d) (C := RX5) (T := TX5) (N := 11) hx hb hts hin5 hown hK hP 0 rfl rfl 1 (by decide) hw0 (fun _ h9 => h9) rfl dX5_actsAsBits_6 ?_
    refine va_get (D := (dC, dI)) (ci := 4) (v := .int dac) (C := RX4) (T := TX4) (N := 6) hx hb hts hin4 hown hK hP 3 rfl rfl 4 (by decide) hw1 (fun _ h9 => h9) rfl dX5_actsAsBits_9 ?_
    refine lv_icmp_ge (tgt := 41) hx hb dX5_actsAsBits_12 (by decide) (fun c4 => ?_) (fun c4 => by exfalso; have t4 : y2.toInt < dac.toInt := (tnle c4); omega)
    refine lv_iload_n hx hb dX5_actsAsBits_41 rfl (lv_at hl 1 rfl) ?_
    have hP9 := mx_subP (wc := [(f, .inr (5, [.ref k, .ref d, .ref j, .ref fl, .ref fh, .ref ff, .ref fa, .ref fm, .int fct, .int frb, .int fsl])), (ff, .inl (cI, 60, .inl fff)), (fa, .inl (cI, 60, .inl ffa)), (d, .inr (4, [.ref ds, .int dsz, .ref dk, .ref dw, .int dac, .int dwr]))]) hP [0, 1, 2, 3] rfl
    have hD9 := hD.sub (ws' := [(f, .inr (5, [.ref k, .ref d, .ref j, .ref fl, .ref fh, .ref ff, .ref fa, .ref fm, .int fct, .int frb, .int fsl])), (ff, .inl (cI, 60, .inl fff)), (fa, .inl (cI, 60, .inl ffa)), (d, .inr (4, [.ref ds, .int dsz, .ref dk, .ref dw, .int dac, .int dwr]))]) [0, 1, 2, 3] (by decide) rfl
    exact W.iret (v := y1) hx hb hr (fun t ht hW => ⟨⟨y1, (), rfl, trivial, by rw [ht]; exact hP9, hD9⟩, hS.F ht⟩) hS.2.2 dX5_actsAsBits_42
  | succ n1 ih =>
    skip
    refine lv_iload_n hx hb dX5_actsAsBits_4 rfl (lv_at hl 0 rfl) ?_
    refine lv_aload_n hx hb dX5_actsAsBits_5 rfl (lv_at hl 2 rfl) ?_
    refine va_get (D := (dC, dI)) (ci := 5) (v := .ref d) (C := RX5) (T := TX5) (N := 11) hx hb hts hin5 hown hK hP 0 rfl rfl 1 (by decide) hw0 (fun _ h9 => h9) rfl dX5_actsAsBits_6 ?_
    refine va_get (D := (dC, dI)) (ci := 4) (v := .int dac) (C := RX4) (T := TX4) (N := 6) hx hb hts hin4 hown hK hP 3 rfl rfl 4 (by decide) hw1 (fun _ h9 => h9) rfl dX5_actsAsBits_9 ?_
    refine lv_icmp_ge (tgt := 41) hx hb dX5_actsAsBits_12 (by decide) (fun c5 => by exfalso; have t5 : dac.toInt ≤ y2.toInt := (tle c5); omega) (fun c5 => ?_)
    refine lv_iload_n hx hb dX5_actsAsBits_15 rfl (lv_at hl 0 rfl) ?_
    refine lv_bipush (v := 30) hx hb dX5_actsAsBits_16 (by decide) ?_
    refine lv_icmp_ge (tgt := 41) hx hb dX5_actsAsBits_18 (by decide) (fun c6 => ?_) (fun c6 => ?_)
    · have t6 : (30 : Int) ≤ y2.toInt := (tle c6)
      refine lv_iload_n hx hb dX5_actsAsBits_41 rfl (lv_at hl 1 rfl) ?_
      have hP9 := mx_subP (wc := [(f, .inr (5, [.ref k, .ref d, .ref j, .ref fl, .ref fh, .ref ff, .ref fa, .ref fm, .int fct, .int frb, .int fsl])), (ff, .inl (cI, 60, .inl fff)), (fa, .inl (cI, 60, .inl ffa)), (d, .inr (4, [.ref ds, .int dsz, .ref dk, .ref dw, .int dac, .int dwr]))]) hP [0, 1, 2, 3] rfl
      have hD9 := hD.sub (ws' := [(f, .inr (5, [.ref k, .ref d, .ref j, .ref fl, .ref fh, .ref ff, .ref fa, .ref fm, .int fct, .int frb, .int fsl])), (ff, .inl (cI, 60, .inl fff)), (fa, .inl (cI, 60, .inl ffa)), (d, .inr (4, [.ref ds, .int dsz, .ref dk, .ref dw, .int dac, .int dwr]))]) [0, 1, 2, 3] (by decide) rfl
      exact W.iret (v := y1) hx hb hr (fun t ht hW => ⟨⟨y1, (), rfl, trivial, by rw [ht]; exact hP9, hD9⟩, hS.F ht⟩) hS.2.2 dX5_actsAsBits_42
    · have t6 : y2.toInt < (30 : Int) := (tnle c6)
      refine lv_aload_n hx hb dX5_actsAsBits_21 rfl (lv_at hl 2 rfl) ?_
      refine lv_iload_n hx hb dX5_actsAsBits_22 rfl (lv_at hl 0 rfl) ?_
      refine mx_i (wr := [(d, .inr (4, [.ref ds, .int dsz, .ref dk, .ref dw, .int dac, .int dwr]))]) (va_runV (As := [.int y2]) (rest := []) ⟨hx, hb, hml, hown, hts⟩ (c_X5_fitting l dC dI cI cZ cK tS aK aV f y2 k d j fl fh ff fa fm fct frb fsl fff ffa H.size h_ffa (by first | omega | decide | assumption | trivial)) (cwV 1 hts (gw_v (fun _ h9 => List.mem_cons_of_mem _ h9) wm_763 wm_764 wm_765 wm_30 wm_766) rfl rfl rfl (by decide +kernel) ⟨Nat.le_of_ble_eq_true rfl, Nat.le_of_ble_eq_true rfl⟩) (mx_preV (C := RX5) (T := TX5) (N := 11) (ci := 5) hKx hP hD hS hA [0, 1, 2] (by decide) rfl rfl rfl) rfl rfl hl.1 rfl (lv_room (Nat.le_of_ble_eq_true rfl)) dX5_actsAsBits_23 ⟨Nat.le_of_ble_eq_true rfl, Nat.le_of_ble_eq_true rfl⟩) hP hD hS hA [0, 1, 2] [3] rfl rfl (by decide) (by decide) (fun r7 u7 H locs hq7 hP hD hS => ?_)
      replace hP : va_P (dC, dI) vwCl [(d, .inr (4, [.ref ds, .int dsz, .ref dk, .ref dw, .int dac, .int dwr])), (f, .inr (5, [.ref k, .ref d, .ref j, .ref fl, .ref fh, .ref ff, .ref fa, .ref fm, .int fct, .int frb, .int fsl])), (ff, .inl (cI, 60, .inl fff)), (fa, .inl (cI, 60, .inl ffa))] H := hP
      replace hD : va_D A [(d, .inr (4, [.ref ds, .int dsz, .ref dk, .ref dw, .int dac, .int dwr])), (f, .inr (5, [.ref k, .ref d, .ref j, .ref fl, .ref fh, .ref ff, .ref fa, .ref fm, .int fct, .int frb, .int fsl])), (ff, .inl (cI, 60, .inl fff)), (fa, .inl (cI, 60, .inl ffa))] := hD
      refine lv_if_le (tgt := 35) hx hb dX5_actsAsBits_26 (by decide) (fun c8 => ?_) (fun c8 => ?_)
      · have t8 : r7.toInt ≤ (0 : Int) := (tle c8)
        obtain ⟨x9, e9⟩ : ∃ y : Int32, y = y2 + Int32.ofInt 1 := ⟨_, rfl⟩
        refine lv_iinc (v := x9) (lv' := [(2, .int x9), (1, .int y1), (0, .ref f)]) hx hb dX5_actsAsBits_35 hl (k := 0) rfl e9.symm (by decide) rfl (fun ls hl => ?_)
        have f9 : x9.toInt = y2.toInt + 1 := by rw [e9]; exact tinc (by decide) (by have t8 := tb y2; omega) (by have t8 := tb y2; omega)
        refine lv_goto (tgt := 4) hx hb dX5_actsAsBits_38 (by decide) ?_
        exact ih (H := H) (locs := locs) (ls := ls) (y1 := y1) (y2 := x9) hS (by omega)  (show lv_has ls 3 [(2, .int x9), (1, .int y1), (0, .ref f)] from lv_sub hl [0, 1, 2] rfl) (mx_subP (wc := [(f, .inr (5, [.ref k, .ref d, .ref j, .ref fl, .ref fh, .ref ff, .ref fa, .ref fm, .int fct, .int frb, .int fsl])), (ff, .inl (cI, 60, .inl fff)), (fa, .inl (cI, 60, .inl ffa)), (d, .inr (4, [.ref ds, .int dsz, .ref dk, .ref dw, .int dac, .int dwr]))]) hP [1, 2, 3, 0] rfl) (by omega)
      · have t8 : (0 : Int) < r7.toInt := (tnle c8)
        refine lv_iload_n hx hb dX5_actsAsBits_29 rfl (lv_at hl 1 rfl) ?_
        refine lv_iconst (v := 1) hx hb dX5_actsAsBits_30 (by decide) ?_
        refine lv_iload_n hx hb dX5_actsAsBits_31 rfl (lv_at hl 0 rfl) ?_
        refine lv_ishl hx hb dX5_actsAsBits_32 ?_
        refine lv_topi (fun x10 e10 => ?_)
        refine lv_ior hx hb dX5_actsAsBits_33 ?_
        refine lv_topi (fun x11 e11 => ?_)
        refine lv_istore_n (lv' := [(1, .int x11), (2, .int y2), (0, .ref f)]) hx hb dX5_actsAsBits_34 rfl hl (by decide) rfl (fun ls hl => ?_)
        obtain ⟨x12, e12⟩ : ∃ y : Int32, y = y2 + Int32.ofInt 1 := ⟨_, rfl⟩
        refine lv_iinc (v := x12) (lv' := [(2, .int x12), (1, .int x11), (0, .ref f)]) hx hb dX5_actsAsBits_35 hl (k := 1) rfl e12.symm (by decide) rfl (fun ls hl => ?_)
        have f12 : x12.toInt = y2.toInt + 1 := by rw [e12]; exact tinc (by decide) (by have t8 := tb y2; omega) (by have t8 := tb y2; omega)
        refine lv_goto (tgt := 4) hx hb dX5_actsAsBits_38 (by decide) ?_
        exact ih (H := H) (locs := locs) (ls := ls) (y1 := x11) (y2 := x12) hS (by omega)  (show lv_has ls 3 [(2, .int x12), (1, .int x11), (0, .ref f)] from lv_sub hl [0, 1, 2] rfl) (mx_subP (wc := [(f, .inr (5, [.ref k, .ref d, .ref j, .ref fl, .ref fh, .ref ff, .ref fa, .ref fm, .int fct, .int frb, .int fsl])), (ff, .inl (cI, 60, .inl fff)), (fa, .inl (cI, 60, .inl ffa)), (d, .inr (4, [.ref ds, .int dsz, .ref dk, .ref dw, .int dac, .int dwr]))]) hP [1, 2, 3, 0] rfl) (by omega)
