set_option maxHeartbeats 4000000 in
set_option maxRecDepth 100000 in
theorem c_X5_boundByActs (l : Launch) (dC : Nat → ClassId) (dI : Nat → Nat → Nat) (cI cZ cK : ClassId) (tS : Nat) (aK aV : Nat → Nat) (f : Nat) (k : Nat) (d : Nat) (j : Nat) (fl : Nat) (fh : Nat) (ff : Nat) (fa : Nat) (fm : Nat) (fct : Int32) (frb : Int32) (fsl : Int32) (ffl : Nat → Int32) (ffh : Nat → Int32) (ds : Nat) (dsz : Int32) (dk : Nat) (dw : Nat) (dac : Int32) (dwr : Int32) (dfk : Nat → Int32) (jd : Nat) (jb : Nat) (jw : Nat) (jl : Nat) (jbad : Int32) (jwhy : Int32) (jleft : Int32) (jday : Int32) (jwarmDay : Int32) (jbagDays : Int32) (jburnt : Int32) (jboiled : Int32) (jfb : Nat → Int32) (sz : Nat) (h_dac : 0 ≤ dac.toInt ∧ dac.toInt ≤ 60) : Cv l yX5_boundByActs (wq yX5_boundByActs cX5_boundByActs 5 none) ({ frames := 1, cells := 0, slots := 0, locals := 21 }) dC dI cI cZ cK tS aK aV [.ref f] sz [(f, .inr (5, [.ref k, .ref d, .ref j, .ref fl, .ref fh, .ref ff, .ref fa, .ref fm, .int fct, .int frb, .int fsl])), (fl, .inl (cI, 61, .inl ffl)), (fh, .inl (cI, 61, .inl ffh)), (d, .inr (4, [.ref ds, .int dsz, .ref dk, .ref dw, .int dac, .int dwr])), (dk, .inl (cI, 60, .inl dfk)), (j, .inr (1, [.ref k, .ref d, .ref jd, .ref jb, .ref jw, .ref jl, .int jbad, .int jwhy, .int jleft, .int jday, .int jwarmDay, .int jbagDays, .int jburnt, .int jboiled])), (jb, .inl (cI, 60, .inl jfb))] (fun (u : (Nat → Nat → Int32) × (Nat → Int32) × (Nat → Int64)) => True) (fun u => [(f, .inr (5, [.ref k, .ref d, .ref j, .ref fl, .ref fh, .ref ff, .ref fa, .ref fm, .int fct, .int frb, .int fsl])), (fl, .inl (cI, 61, .inl (u.1 1))), (fh, .inl (cI, 61, .inl (u.1 0))), (d, .inr (4, [.ref ds, .int dsz, .ref dk, .ref dw, .int dac, .int dwr])), (dk, .inl (cI, 60, .inl dfk)), (j, .inr (1, [.ref k, .ref d, .ref jd, .ref jb, .ref jw, .ref jl, .int jbad, .int jwhy, .int jleft, .int jday, .int jwarmDay, .int jbagDays, .int jburnt, .int jboiled])), (jb, .inl (cI, 60, .inl jfb))]) := by
  refine Met.ofW (cc := cX5_boundByActs) (maxL := 5) (ret := none) (by decide) rfl ?_
  intro p e s m args below meth c s₁ B hml hv
  obtain ⟨rfl, hsz, hP, hKx, hD0⟩ := hv
  have hx := B.exec
  have hb := B.bytes
  have hr := B.returns
  have hts := atoms_spec (ws := wq yX5_boundByActs cX5_boundByActs 5 none) B.pre
  have hown : s.vm.findClass RX5 = some m.cls := findClass_of_methodNamed B.named
  have hlocks := B.notSynchronized
  subst hsz
  have hD := hD0.self (sz := s.heap.size)
  generalize hAe : va_A [(f, .inr (5, [.ref k, .ref d, .ref j, .ref fl, .ref fh, .ref ff, .ref fa, .ref fm, .int fct, .int frb, .int fsl])), (fl, .inl (cI, 61, .inl ffl)), (fh, .inl (cI, 61, .inl ffh)), (d, .inr (4, [.ref ds, .int dsz, .ref dk, .ref dw, .int dac, .int dwr])), (dk, .inl (cI, 60, .inl dfk)), (j, .inr (1, [.ref k, .ref d, .ref jd, .ref jb, .ref jw, .ref jl, .int jbad, .int jwhy, .int jleft, .int jday, .int jwarmDay, .int jbagDays, .int jburnt, .int jboiled])), (jb, .inl (cI, 60, .inl jfb))] s.heap.size = A at hD hKx ⊢
  have hA : ∀ q : Nat, s.heap.size ≤ q → A q := fun q h => by rw [← hAe]; exact Or.inr h
  have hS : va_S A s.heap s.heap [] := va_S.rf
  have hP : va_P (dC, dI) vwCl [(f, .inr (5, [.ref k, .ref d, .ref j, .ref fl, .ref fh, .ref ff, .ref fa, .ref fm, .int fct, .int frb, .int fsl])), (fl, .inl (cI, 61, .inl ffl)), (fh, .inl (cI, 61, .inl ffh)), (d, .inr (4, [.ref ds, .int dsz, .ref dk, .ref dw, .int dac, .int dwr])), (dk, .inl (cI, 60, .inl dfk)), (j, .inr (1, [.ref k, .ref d, .ref jd, .ref jb, .ref jw, .ref jl, .int jbad, .int jwhy, .int jleft, .int jday, .int jwarmDay, .int jbagDays, .int jburnt, .int jboiled])), (jb, .inl (cI, 60, .inl jfb))] s.heap := hP
  have hl := lv_entry ([.ref f]) (n := 5) (Nat.le_of_ble_eq_true rfl)
  rw [lg_entry_eq]
  generalize (lg_sl ([.ref f]) ++ List.replicate (5 - (lg_sl ([.ref f])).length) Slot.unset).toArray = ls at hl ⊢
  have hl : lv_has ls 5 [(0, .ref f)] := hl
  have hK := hKx.1
  have hin5 := fun w9 h9 => List.mem_cons_of_mem (Cond.code yX5_boundByActs cX5_boundByActs 5 none) (inlX5 w9 h9)
  have hin4 := fun w9 h9 => List.mem_cons_of_mem (Cond.code yX5_boundByActs cX5_boundByActs 5 none) (inlX4 w9 h9)
  have hin1 := fun w9 h9 => List.mem_cons_of_mem (Cond.code yX5_boundByActs cX5_boundByActs 5 none) (inlX1 w9 h9)
  have hw0 := hts (.fieldLink RX5 31 "OneCan$Search" "pad" "LOneCan$Pad;") (List.mem_cons_of_mem _ wm_93)
  have hw1 := hts (.fieldLink RX5 54 "OneCan$Pad" "acts" "I") (List.mem_cons_of_mem _ wm_738)
  have hw2 := hts (.fieldLink RX5 9 "OneCan$Search" "low" "[I") (List.mem_cons_of_mem _ wm_87)
  have hw3 := hts (.fieldLink RX5 35 "OneCan$Search" "course" "LOneCan$Course;") (List.mem_cons_of_mem _ wm_94)
  have hw4 := hts (.fieldLink RX5 104 "OneCan$Course" "burns" "[I") (List.mem_cons_of_mem _ wm_757)
  have hw5 := hts (.fieldLink RX5 15 "OneCan$Search" "high" "[I") (List.mem_cons_of_mem _ wm_88)
  have hw6 := hts (.fieldLink RX5 107 "OneCan$Pad" "kinds" "[I") (List.mem_cons_of_mem _ wm_758)
  have hw7 := hts (.methodLink RX5 70 Lib.Math.max.name) (List.mem_cons_of_mem _ wm_740)
  have hw8 := hts (.static Lib.Math.max.name) (List.mem_cons_of_mem _ wm_271)
  have hw9 := hts (.initialized "java/lang/Math") (List.mem_cons_of_mem _ wm_272)
  have hw10 := hts (.code Lib.Math.max.name Lib.Math.max.code 2 (some .int)) (List.mem_cons_of_mem _ wm_273)
  have hw11 := hts (.methodLink RX5 73 Lib.Math.min.name) (List.mem_cons_of_mem _ wm_741)
  have hw12 := hts (.static Lib.Math.min.name) (List.mem_cons_of_mem _ wm_275)
  have hw13 := hts (.code Lib.Math.min.name Lib.Math.min.code 2 (some .int)) (List.mem_cons_of_mem _ wm_276)
  refine lv_aload_n hx hb dX5_boundByActs_0 rfl (lv_at hl 0 rfl) ?_
  refine va_get (D := (dC, dI)) (ci := 5) (v := .ref d) (C := RX5) (T := TX5) (N := 11) hx hb hts hin5 hown hK hP 0 rfl rfl 1 (by decide) hw0 (fun _ h9 => h9) rfl dX5_boundByActs_1 ?_
  refine va_get (D := (dC, dI)) (ci := 4) (v := .int dac) (C := RX4) (T := TX4) (N := 6) hx hb hts hin4 hown hK hP 3 rfl rfl 4 (by decide) hw1 (fun _ h9 => h9) rfl dX5_boundByActs_4 ?_
  refine lv_iconst (v := 1) hx hb dX5_boundByActs_7 (by decide) ?_
  refine lv_isub hx hb dX5_boundByActs_8 ?_
  refine lv_topi (fun x1 e1 => ?_)
  have f1 : x1.toInt = dac.toInt - (1 : Int) := by rw [e1]; exact tsub (by have t8 := tb dac; have z8 : (1 : Int32).toInt = 1 := rfl; omega) (by have t8 := tb dac; have z8 : (1 : Int32).toInt = 1 := rfl; omega)
  refine lv_istore_n (lv' := [(1, .int x1), (0, .ref f)]) hx hb dX5_boundByActs_9 rfl hl (by decide) rfl (fun ls hl => ?_)
  have hl0 := hl
  clear hl
  obtain ⟨H, hHe⟩ : ∃ H : Heap, H = s.heap := ⟨_, rfl⟩
  obtain ⟨locs, hlo⟩ : ∃ l : List Loc, l = [] := ⟨_, rfl⟩
  replace hP : va_P (dC, dI) vwCl [(f, .inr (5, [.ref k, .ref d, .ref j, .ref fl, .ref fh, .ref ff, .ref fa, .ref fm, .int fct, .int frb, .int fsl])), (fl, .inl (cI, 61, .inl ffl)), (fh, .inl (cI, 61, .inl ffh)), (d, .inr (4, [.ref ds, .int dsz, .ref dk, .ref dw, .int dac, .int dwr])), (dk, .inl (cI, 60, .inl dfk)), (j, .inr (1, [.ref k, .ref d, .ref jd, .ref jb, .ref jw, .ref jl, .int jbad, .int jwhy, .int jleft, .int jday, .int jwarmDay, .int jbagDays, .int jburnt, .int jboiled])), (jb, .inl (cI, 60, .inl jfb))] H := by rw [hHe]; exact hP
  replace hS : va_S A s.heap H locs := by rw [hHe, hlo]; exact hS
  rw [← hHe, ← hlo]
  clear hHe hlo
  have hP0 := hP
  clear hP
  have hD0 := hD
  clear hD
  obtain ⟨y1, yfl, yfh, ex, hl, hP, hD⟩ : ∃ (y1 : Int32) (yfl yfh : Nat → Int32), (-1 ≤ y1.toInt ∧ y1.toInt ≤ dac.toInt - 1) ∧ lv_has ls 5 [(1, .int y1), (0, .ref f)] ∧ va_P (dC, dI) vwCl [(f, .inr (5, [.ref k, .ref d, .ref j, .ref fl, .ref fh, .ref ff, .ref fa, .ref fm, .int fct, .int frb, .int fsl])), (fl, .inl (cI, 61, .inl yfl)), (fh, .inl (cI, 61, .inl yfh)), (d, .inr (4, [.ref ds, .int dsz, .ref dk, .ref dw, .int dac, .int dwr])), (dk, .inl (cI, 60, .inl dfk)), (j, .inr (1, [.ref k, .ref d, .ref jd, .ref jb, .ref jw, .ref jl, .int jbad, .int jwhy, .int jleft, .int jday, .int jwarmDay, .int jbagDays, .int jburnt, .int jboiled])), (jb, .inl (cI, 60, .inl jfb))] H ∧ va_D A [(f, .inr (5, [.ref k, .ref d, .ref j, .ref fl, .ref fh, .ref ff, .ref fa, .ref fm, .int fct, .int frb, .int fsl])), (fl, .inl (cI, 61, .inl yfl)), (fh, .inl (cI, 61, .inl yfh)), (d, .inr (4, [.ref ds, .int dsz, .ref dk, .ref dw, .int dac, .int dwr])), (dk, .inl (cI, 60, .inl dfk)), (j, .inr (1, [.ref k, .ref d, .ref jd, .ref jb, .ref jw, .ref jl, .int jbad, .int jwhy, .int jleft, .int jday, .int jwarmDay, .int jbagDays, .int jburnt, .int jboiled])), (jb, .inl (cI, 60, .inl jfb))] := ⟨x1, ffl, ffh, by omega, hl0, hP0, hD0⟩
  clear hl0 hP0 hD0
  obtain ⟨n2, hn⟩ : ∃ n : Nat, (n : Int) = y1.toInt + 1 := ⟨(y1.toInt + 1).toNat, by omega⟩
  induction n2 generalizing y1 yfl yfh ls H locs with
  | zero =>
    skip
    refine lv_iload_n hx hb dX5_boundByActs_10 rfl (lv_at hl 0 rfl) ?_
    refine lv_if_lt (tgt := 152) hx hb dX5_boundByActs_11 (by decide) (fun c3 => ?_) (fun c3 => by exfalso; have t3 : (0 : Int) ≤ y1.toInt := (tnlt c3); omega)
    have hP9 := mx_subP (wc := [(f, .inr (5, [.ref k, .ref d, .ref j, .ref fl, .ref fh, .ref ff, .ref fa, .ref fm, .int fct, .int frb, .int fsl])), (fl, .inl (cI, 61, .inl yfl)), (fh, .inl (cI, 61, .inl yfh)), (d, .inr (4, [.ref ds, .int dsz, .ref dk, .ref dw, .int dac, .int dwr])), (dk, .inl (cI, 60, .inl dfk)), (j, .inr (1, [.ref k, .ref d, .ref jd, .ref jb, .ref jw, .ref jl, .int jbad, .int jwhy, .int jleft, .int jday, .int jwarmDay, .int jbagDays, .int jburnt, .int jboiled])), (jb, .inl (cI, 60, .inl jfb))]) hP [0, 1, 2, 3, 4, 5, 6] rfl
    have hD9 := hD.sub (ws' := [(f, .inr (5, [.ref k, .ref d, .ref j, .ref fl, .ref fh, .ref ff, .ref fa, .ref fm, .int fct, .int frb, .int fsl])), (fl, .inl (cI, 61, .inl yfl)), (fh, .inl (cI, 61, .inl yfh)), (d, .inr (4, [.ref ds, .int dsz, .ref dk, .ref dw, .int dac, .int dwr])), (dk, .inl (cI, 60, .inl dfk)), (j, .inr (1, [.ref k, .ref d, .ref jd, .ref jb, .ref jw, .ref jl, .int jbad, .int jwhy, .int jleft, .int jday, .int jwarmDay, .int jbagDays, .int jburnt, .int jboiled])), (jb, .inl (cI, 60, .inl jfb))]) [0, 1, 2, 3, 4, 5, 6] (by decide) rfl
    exact W.vret hx hb hr (fun t ht hW => ⟨⟨((fun u9 => ([yfh, yfl] : List (Nat → Int32)).getD u9 (fun _ => 0)), (fun u9 => ([] : List Int32).getD u9 0), (fun u9 => ([] : List Int64).getD u9 0)), rfl, trivial, by rw [ht]; exact hP9, hD9⟩, hS.F ht⟩) hS.2.2 dX5_boundByActs_152
  | succ n2 ih =>
    skip
    refine lv_iload_n hx hb dX5_boundByActs_10 rfl (lv_at hl 0 rfl) ?_
    refine lv_if_lt (tgt := 152) hx hb dX5_boundByActs_11 (by decide) (fun c4 => by exfalso; have t4 : y1.toInt < (0 : Int) := (tlt c4); omega) (fun c4 => ?_)
    refine lv_aload_n hx hb dX5_boundByActs_14 rfl (lv_at hl 1 rfl) ?_
    refine va_get (D := (dC, dI)) (ci := 5) (v := .ref fl) (C := RX5) (T := TX5) (N := 11) hx hb hts hin5 hown hK hP 0 rfl rfl 3 (by decide) hw2 (fun _ h9 => h9) rfl dX5_boundByActs_15 ?_
    refine lv_iload_n hx hb dX5_boundByActs_18 rfl (lv_at hl 0 rfl) ?_
    refine lv_iconst (v := 1) hx hb dX5_boundByActs_19 (by decide) ?_
    refine lv_iadd hx hb dX5_boundByActs_20 ?_
    refine lv_topi (fun x5 e5 => ?_)
    have f5 : x5.toInt = y1.toInt + (1 : Int) := by rw [e5]; exact tadd (by have t8 := tb y1; have z8 : (1 : Int32).toInt = 1 := rfl; omega) (by have t8 := tb y1; have z8 : (1 : Int32).toInt = 1 := rfl; omega)
    refine va_iald hx hb hK hP 1 0 rfl rfl (vin (by omega) (by omega)) dX5_boundByActs_21 ?_
    refine lv_topi (fun x6 e6 => ?_)
    refine lv_aload_n hx hb dX5_boundByActs_22 rfl (lv_at hl 1 rfl) ?_
    refine va_get (D := (dC, dI)) (ci := 5) (v := .ref j) (C := RX5) (T := TX5) (N := 11) hx hb hts hin5 hown hK hP 0 rfl rfl 2 (by decide) hw3 (fun _ h9 => h9) rfl dX5_boundByActs_23 ?_
    refine va_get (D := (dC, dI)) (ci := 1) (v := .ref jb) (C := RX1) (T := TX1) (N := 14) hx hb hts hin1 hown hK hP 5 rfl rfl 3 (by decide) hw4 (fun _ h9 => h9) rfl dX5_boundByActs_26 ?_
    refine lv_iload_n hx hb dX5_boundByActs_29 rfl (lv_at hl 0 rfl) ?_
    refine va_iald hx hb hK hP 6 0 rfl rfl (vin (by omega) (by omega)) dX5_boundByActs_30 ?_
    refine lv_topi (fun x7 e7 => ?_)
    refine lv_iadd hx hb dX5_boundByActs_31 ?_
    refine lv_topi (fun x8 e8 => ?_)
    refine lv_istore_n (lv' := [(2, .int x8), (1, .int y1), (0, .ref f)]) hx hb dX5_boundByActs_32 rfl hl (by decide) rfl (fun ls hl => ?_)
    refine lv_aload_n hx hb dX5_boundByActs_33 rfl (lv_at hl 2 rfl) ?_
    refine va_get (D := (dC, dI)) (ci := 5) (v := .ref fh) (C := RX5) (T := TX5) (N := 11) hx hb hts hin5 hown hK hP 0 rfl rfl 4 (by decide) hw5 (fun _ h9 => h9) rfl dX5_boundByActs_34 ?_
    refine lv_iload_n hx hb dX5_boundByActs_37 rfl (lv_at hl 1 rfl) ?_
    refine lv_iconst (v := 1) hx hb dX5_boundByActs_38 (by decide) ?_
    refine lv_iadd hx hb dX5_boundByActs_39 ?_
    refine lv_topi (fun x9 e9 => ?_)
    have f9 : x9.toInt = y1.toInt + (1 : Int) := by rw [e9]; exact tadd (by have t8 := tb y1; have z8 : (1 : Int32).toInt = 1 := rfl; omega) (by have t8 := tb y1; have z8 : (1 : Int32).toInt = 1 := rfl; omega)
    refine va_iald hx hb hK hP 2 0 rfl rfl (vin (by omega) (by omega)) dX5_boundByActs_40 ?_
    refine lv_topi (fun x10 e10 => ?_)
    refine lv_aload_n hx hb dX5_boundByActs_41 rfl (lv_at hl 2 rfl) ?_
    refine va_get (D := (dC, dI)) (ci := 5) (v := .ref j) (C := RX5) (T := TX5) (N := 11) hx hb hts hin5 hown hK hP 0 rfl rfl 2 (by decide) hw3 (fun _ h9 => h9) rfl dX5_boundByActs_42 ?_
    refine va_get (D := (dC, dI)) (ci := 1) (v := .ref jb) (C := RX1) (T := TX1) (N := 14) hx hb hts hin1 hown hK hP 5 rfl rfl 3 (by decide) hw4 (fun _ h9 => h9) rfl dX5_boundByActs_45 ?_
    refine lv_iload_n hx hb dX5_boundByActs_48 rfl (lv_at hl 1 rfl) ?_
    refine va_iald hx hb hK hP 6 0 rfl rfl (vin (by omega) (by omega)) dX5_boundByActs_49 ?_
    refine lv_topi (fun x11 e11 => ?_)
    refine lv_iadd hx hb dX5_boundByActs_50 ?_
    refine lv_topi (fun x12 e12 => ?_)
    refine lv_istore_n (lv' := [(3, .int x12), (2, .int x8), (1, .int y1), (0, .ref f)]) hx hb dX5_boundByActs_51 rfl hl (by decide) rfl (fun ls hl => ?_)
    refine lv_aload_n hx hb dX5_boundByActs_52 rfl (lv_at hl 3 rfl) ?_
    refine va_get (D := (dC, dI)) (ci := 5) (v := .ref d) (C := RX5) (T := TX5) (N := 11) hx hb hts hin5 hown hK hP 0 rfl rfl 1 (by decide) hw0 (fun _ h9 => h9) rfl dX5_boundByActs_53 ?_
    refine va_get (D := (dC, dI)) (ci := 4) (v := .ref dk) (C := RX4) (T := TX4) (N := 6) hx hb hts hin4 hown hK hP 3 rfl rfl 2 (by decide) hw6 (fun _ h9 => h9) rfl dX5_boundByActs_56 ?_
    refine lv_iload_n hx hb dX5_boundByActs_59 rfl (lv_at hl 2 rfl) ?_
    refine va_iald hx hb hK hP 4 0 rfl rfl (vin (by omega) (by omega)) dX5_boundByActs_60 ?_
    refine lv_topi (fun x13 e13 => ?_)
    refine lv_bipush (v := 8) hx hb dX5_boundByActs_61 (by decide) ?_
    refine lv_icmp_ne (tgt := 114) hx hb dX5_boundByActs_63 (by decide) (fun c14 => ?_) (fun c14 => ?_)
    · have t14 : x13.toInt ≠ (8 : Int) := (tne c14)
      refine lv_aload_n hx hb dX5_boundByActs_114 rfl (lv_at hl 3 rfl) ?_
      refine va_get (D := (dC, dI)) (ci := 5) (v := .ref fl) (C := RX5) (T := TX5) (N := 11) hx hb hts hin5 hown hK hP 0 rfl rfl 3 (by decide) hw2 (fun _ h9 => h9) rfl dX5_boundByActs_115 ?_
      refine lv_iload_n hx hb dX5_boundByActs_118 rfl (lv_at hl 2 rfl) ?_
      refine lv_aload_n hx hb dX5_boundByActs_119 rfl (lv_at hl 3 rfl) ?_
      refine va_get (D := (dC, dI)) (ci := 5) (v := .ref fl) (C := RX5) (T := TX5) (N := 11) hx hb hts hin5 hown hK hP 0 rfl rfl 3 (by decide) hw2 (fun _ h9 => h9) rfl dX5_boundByActs_120 ?_
      refine lv_iload_n hx hb dX5_boundByActs_123 rfl (lv_at hl 2 rfl) ?_
      refine va_iald hx hb hK hP 1 0 rfl rfl (vin (by omega) (by omega)) dX5_boundByActs_124 ?_
      refine lv_topi (fun x15 e15 => ?_)
      refine lv_iload_n hx hb dX5_boundByActs_125 rfl (lv_at hl 1 rfl) ?_
      refine va_mmax hx hb (hml.trans hl.1.symm) hown hw7 hw8 hw9 hw10 (Nat.le_of_ble_eq_true rfl) (Nat.le_of_ble_eq_true rfl) (Nat.le_of_ble_eq_true rfl) (Nat.le_of_ble_eq_true rfl) dX5_boundByActs_126 ?_
      refine lv_topi (fun x16 e16 => ?_)
      have f16 : x16.toInt ≥ x15.toInt ∧ x16.toInt ≥ x8.toInt ∧ (x16.toInt = x15.toInt ∨ x16.toInt = x8.toInt) := by rw [e16]; exact mmmax_t
      refine va_iast hx hb hK hP hD hS 1 0 rfl rfl (vin (by omega) (by omega)) dX5_boundByActs_129 (fun H locs hP hD hS => ?_)
      replace hP : va_P (dC, dI) vwCl [(f, .inr (5, [.ref k, .ref d, .ref j, .ref fl, .ref fh, .ref ff, .ref fa, .ref fm, .int fct, .int frb, .int fsl])), (fl, .inl (cI, 61, .inl (upd yfl y1.toNatClampNeg x16))), (fh, .inl (cI, 61, .inl yfh)), (d, .inr (4, [.ref ds, .int dsz, .ref dk, .ref dw, .int dac, .int dwr])), (dk, .inl (cI, 60, .inl dfk)), (j, .inr (1, [.ref k, .ref d, .ref jd, .ref jb, .ref jw, .ref jl, .int jbad, .int jwhy, .int jleft, .int jday, .int jwarmDay, .int jbagDays, .int jburnt, .int jboiled])), (jb, .inl (cI, 60, .inl jfb))] H := hP
      replace hD : va_D A [(f, .inr (5, [.ref k, .ref d, .ref j, .ref fl, .ref fh, .ref ff, .ref fa, .ref fm, .int fct, .int frb, .int fsl])), (fl, .inl (cI, 61, .inl (upd yfl y1.toNatClampNeg x16))), (fh, .inl (cI, 61, .inl yfh)), (d, .inr (4, [.ref ds, .int dsz, .ref dk, .ref dw, .int dac, .int dwr])), (dk, .inl (cI, 60, .inl dfk)), (j, .inr (1, [.ref k, .ref d, .ref jd, .ref jb, .ref jw, .ref jl, .int jbad, .int jwhy, .int jleft, .int jday, .int jwarmDay, .int jbagDays, .int jburnt, .int jboiled])), (jb, .inl (cI, 60, .inl jfb))] := hD
      refine lv_aload_n hx hb dX5_boundByActs_130 rfl (lv_at hl 3 rfl) ?_
      refine va_get (D := (dC, dI)) (ci := 5) (v := .ref fh) (C := RX5) (T := TX5) (N := 11) hx hb hts hin5 hown hK hP 0 rfl rfl 4 (by decide) hw5 (fun _ h9 => h9) rfl dX5_boundByActs_131 ?_
      refine lv_iload_n hx hb dX5_boundByActs_134 rfl (lv_at hl 2 rfl) ?_
      refine lv_aload_n hx hb dX5_boundByActs_135 rfl (lv_at hl 3 rfl) ?_
      refine va_get (D := (dC, dI)) (ci := 5) (v := .ref fh) (C := RX5) (T := TX5) (N := 11) hx hb hts hin5 hown hK hP 0 rfl rfl 4 (by decide) hw5 (fun _ h9 => h9) rfl dX5_boundByActs_136 ?_
      refine lv_iload_n hx hb dX5_boundByActs_139 rfl (lv_at hl 2 rfl) ?_
      refine va_iald hx hb hK hP 2 0 rfl rfl (vin (by omega) (by omega)) dX5_boundByActs_140 ?_
      refine lv_topi (fun x17 e17 => ?_)
      refine lv_iload_n hx hb dX5_boundByActs_141 rfl (lv_at hl 0 rfl) ?_
      refine va_mmin hx hb (hml.trans hl.1.symm) hown hw11 hw12 hw9 hw13 (Nat.le_of_ble_eq_true rfl) (Nat.le_of_ble_eq_true rfl) (Nat.le_of_ble_eq_true rfl) (Nat.le_of_ble_eq_true rfl) dX5_boundByActs_142 ?_
      refine lv_topi (fun x18 e18 => ?_)
      have f18 : x18.toInt ≤ x17.toInt ∧ x18.toInt ≤ x12.toInt ∧ (x18.toInt = x17.toInt ∨ x18.toInt = x12.toInt) := by rw [e18]; exact mmmin_t
      refine va_iast hx hb hK hP hD hS 2 0 rfl rfl (vin (by omega) (by omega)) dX5_boundByActs_145 (fun H locs hP hD hS => ?_)
      replace hP : va_P (dC, dI) vwCl [(f, .inr (5, [.ref k, .ref d, .ref j, .ref fl, .ref fh, .ref ff, .ref fa, .ref fm, .int fct, .int frb, .int fsl])), (fl, .inl (cI, 61, .inl (upd yfl y1.toNatClampNeg x16))), (fh, .inl (cI, 61, .inl (upd yfh y1.toNatClampNeg x18))), (d, .inr (4, [.ref ds, .int dsz, .ref dk, .ref dw, .int dac, .int dwr])), (dk, .inl (cI, 60, .inl dfk)), (j, .inr (1, [.ref k, .ref d, .ref jd, .ref jb, .ref jw, .ref jl, .int jbad, .int jwhy, .int jleft, .int jday, .int jwarmDay, .int jbagDays, .int jburnt, .int jboiled])), (jb, .inl (cI, 60, .inl jfb))] H := hP
      replace hD : va_D A [(f, .inr (5, [.ref k, .ref d, .ref j, .ref fl, .ref fh, .ref ff, .ref fa, .ref fm, .int fct, .int frb, .int fsl])), (fl, .inl (cI, 61, .inl (upd yfl y1.toNatClampNeg x16))), (fh, .inl (cI, 61, .inl (upd yfh y1.toNatClampNeg x18))), (d, .inr (4, [.ref ds, .int dsz, .ref dk, .ref dw, .int dac, .int dwr])), (dk, .inl (cI, 60, .inl dfk)), (j, .inr (1, [.ref k, .ref d, .ref jd, .ref jb, .ref jw, .ref jl, .int jbad, .int jwhy, .int jleft, .int jday, .int jwarmDay, .int jbagDays, .int jburnt, .int jboiled])), (jb, .inl (cI, 60, .inl jfb))] := hD
      obtain ⟨x19, e19⟩ : ∃ y : Int32, y = y1 + Int32.ofInt (-1) := ⟨_, rfl⟩
      refine lv_iinc (v := x19) (lv' := [(1, .int x19), (3, .int x12), (2, .int x8), (0, .ref f)]) hx hb dX5_boundByActs_146 hl (k := 2) rfl e19.symm (by decide) rfl (fun ls hl => ?_)
      have f19 : x19.toInt = y1.toInt + (-1) := by rw [e19]; exact tinc (by decide) (by have t8 := tb y1; omega) (by have t8 := tb y1; omega)
      refine lv_goto (tgt := 10) hx hb dX5_boundByActs_149 (by decide) ?_
      exact ih (H := H) (locs := locs) (ls := ls) (y1 := x19) (yfl := (upd yfl y1.toNatClampNeg x16)) (yfh := (upd yfh y1.toNatClampNeg x18)) hS (by omega)  (show lv_has ls 5 [(1, .int x19), (0, .ref f)] from lv_sub hl [0, 3] rfl) (mx_subP (wc := [(f, .inr (5, [.ref k, .ref d, .ref j, .ref fl, .ref fh, .ref ff, .ref fa, .ref fm, .int fct, .int frb, .int fsl])), (fl, .inl (cI, 61, .inl (upd yfl y1.toNatClampNeg x16))), (fh, .inl (cI, 61, .inl (upd yfh y1.toNatClampNeg x18))), (d, .inr (4, [.ref ds, .int dsz, .ref dk, .ref dw, .int dac, .int dwr])), (dk, .inl (cI, 60, .inl dfk)), (j, .inr (1, [.ref k, .ref d, .ref jd, .ref jb, .ref jw, .ref jl, .int jbad, .int jwhy, .int jleft, .int jday, .int jwarmDay, .int jbagDays, .int jburnt, .int jboiled])), (jb, .inl (cI, 60, .inl jfb))]) hP [0, 1, 2, 3, 4, 5, 6] rfl) (hD.sub (ws' := [(f, .inr (5, [.ref k, .ref d, .ref j, .ref fl, .ref fh, .ref ff, .ref fa, .ref fm, .int fct, .int frb, .int fsl])), (fl, .inl (cI, 61, .inl (upd yfl y1.toNatClampNeg x16))), (fh, .inl (cI, 61, .inl (upd yfh y1.toNatClampNeg x18))), (d, .inr (4, [.ref ds, .int dsz, .ref dk, .ref dw, .int dac, .int dwr])), (dk, .inl (cI, 60, .inl dfk)), (j, .inr (1, [.ref k, .ref d, .ref jd, .ref jb, .ref jw, .ref jl, .int jbad, .int jwhy, .int jleft, .int jday, .int jwarmDay, .int jbagDays, .int jburnt, .int jboiled])), (jb, .inl (cI, 60, .inl jfb))]) [0, 1, 2, 3, 4, 5, 6] (by decide) rfl) (by omega)
    · have t14 : x13.toInt = (8 : Int) := (teq c14)
      refine lv_iload_n hx hb dX5_boundByActs_66 rfl (lv_at hl 0 rfl) ?_
      refine lv_sipush (v := 4000) hx hb dX5_boundByActs_67 (by decide) ?_
      refine lv_icmp_lt (tgt := 84) hx hb dX5_boundByActs_70 (by decide) (fun c20 => ?_) (fun c20 => ?_)
      · have t20 : x12.toInt < (4000 : Int) := (tlt c20)
        refine lv_iconst (v := 0) hx hb dX5_boundByActs_84 (by decide) ?_
        refine lv_istore (lv' := [(4, .int 0), (3, .int x12), (2, .int x8), (1, .int y1), (0, .ref f)]) hx hb dX5_boundByActs_85 hl (by decide) rfl (fun ls hl => ?_)
        refine lv_iconst (v := 0) hx hb dX5_boundByActs_87 (by decide) ?_
        refine lv_iload_n hx hb dX5_boundByActs_88 rfl (lv_at hl 2 rfl) ?_
        refine lv_sipush (v := 1000) hx hb dX5_boundByActs_89 (by decide) ?_
        refine lv_isub hx hb dX5_boundByActs_92 ?_
        refine lv_topi (fun x21 e21 => ?_)
        refine va_mmax hx hb (hml.trans hl.1.symm) hown hw7 hw8 hw9 hw10 (Nat.le_of_ble_eq_true rfl) (Nat.le_of_ble_eq_true rfl) (Nat.le_of_ble_eq_true rfl) (Nat.le_of_ble_eq_true rfl) dX5_boundByActs_93 ?_
        refine lv_topi (fun x22 e22 => ?_)
        have f22 : x22.toInt ≥ (0 : Int) ∧ x22.toInt ≥ x21.toInt ∧ (x22.toInt = (0 : Int) ∨ x22.toInt = x21.toInt) := by rw [e22]; exact mmmax_t
        refine lv_istore_n (lv' := [(2, .int x22), (4, .int 0), (3, .int x12), (1, .int y1), (0, .ref f)]) hx hb dX5_boundByActs_96 rfl hl (by decide) rfl (fun ls hl => ?_)
        refine lv_iload hx hb dX5_boundByActs_97 (lv_at hl 1 rfl) ?_
        refine lv_if_eq (tgt := 108) hx hb dX5_boundByActs_99 (by decide) (fun c23 => ?_) (fun c23 => absurd c23 (by decide))
        refine lv_iload_n hx hb dX5_boundByActs_108 rfl (lv_at hl 2 rfl) ?_
        refine lv_sipush (v := 1000) hx hb dX5_boundByActs_109 (by decide) ?_
        refine lv_isub hx hb dX5_boundByActs_112 ?_
        refine lv_topi (fun x24 e24 => ?_)
        refine lv_istore_n (lv' := [(3, .int x24), (2, .int x22), (4, .int 0), (1, .int y1), (0, .ref f)]) hx hb dX5_boundByActs_113 rfl hl (by decide) rfl (fun ls hl => ?_)
        refine lv_aload_n hx hb dX5_boundByActs_114 rfl (lv_at hl 4 rfl) ?_
        refine va_get (D := (dC, dI)) (ci := 5) (v := .ref fl) (C := RX5) (T := TX5) (N := 11) hx hb hts hin5 hown hK hP 0 rfl rfl 3 (by decide) hw2 (fun _ h9 => h9) rfl dX5_boundByActs_115 ?_
        refine lv_iload_n hx hb dX5_boundByActs_118 rfl (lv_at hl 3 rfl) ?_
        refine lv_aload_n hx hb dX5_boundByActs_119 rfl (lv_at hl 4 rfl) ?_
        refine va_get (D := (dC, dI)) (ci := 5) (v := .ref fl) (C := RX5) (T := TX5) (N := 11) hx hb hts hin5 hown hK hP 0 rfl rfl 3 (by decide) hw2 (fun _ h9 => h9) rfl dX5_boundByActs_120 ?_
        refine lv_iload_n hx hb dX5_boundByActs_123 rfl (lv_at hl 3 rfl) ?_
        refine va_iald hx hb hK hP 1 0 rfl rfl (vin (by omega) (by omega)) dX5_boundByActs_124 ?_
        refine lv_topi (fun x25 e25 => ?_)
        refine lv_iload_n hx hb dX5_boundByActs_125 rfl (lv_at hl 1 rfl) ?_
        refine va_mmax hx hb (hml.trans hl.1.symm) hown hw7 hw8 hw9 hw10 (Nat.le_of_ble_eq_true rfl) (Nat.le_of_ble_eq_true rfl) (Nat.le_of_ble_eq_true rfl) (Nat.le_of_ble_eq_true rfl) dX5_boundByActs_126 ?_
        refine lv_topi (fun x26 e26 => ?_)
        have f26 : x26.toInt ≥ x25.toInt ∧ x26.toInt ≥ x22.toInt ∧ (x26.toInt = x25.toInt ∨ x26.toInt = x22.toInt) := by rw [e26]; exact mmmax_t
        refine va_iast hx hb hK hP hD hS 1 0 rfl rfl (vin (by omega) (by omega)) dX5_boundByActs_129 (fun H locs hP hD hS => ?_)
        replace hP : va_P (dC, dI) vwCl [(f, .inr (5, [.ref k, .ref d, .ref j, .ref fl, .ref fh, .ref ff, .ref fa, .ref fm, .int fct, .int frb, .int fsl])), (fl, .inl (cI, 61, .inl (upd yfl y1.toNatClampNeg x26))), (fh, .inl (cI, 61, .inl yfh)), (d, .inr (4, [.ref ds, .int dsz, .ref dk, .ref dw, .int dac, .int dwr])), (dk, .inl (cI, 60, .inl dfk)), (j, .inr (1, [.ref k, .ref d, .ref jd, .ref jb, .ref jw, .ref jl, .int jbad, .int jwhy, .int jleft, .int jday, .int jwarmDay, .int jbagDays, .int jburnt, .int jboiled])), (jb, .inl (cI, 60, .inl jfb))] H := hP
        replace hD : va_D A [(f, .inr (5, [.ref k, .ref d, .ref j, .ref fl, .ref fh, .ref ff, .ref fa, .ref fm, .int fct, .int frb, .int fsl])), (fl, .inl (cI, 61, .inl (upd yfl y1.toNatClampNeg x26))), (fh, .inl (cI, 61, .inl yfh)), (d, .inr (4, [.ref ds, .int dsz, .ref dk, .ref dw, .int dac, .int dwr])), (dk, .inl (cI, 60, .inl dfk)), (j, .inr (1, [.ref k, .ref d, .ref jd, .ref jb, .ref jw, .ref jl, .int jbad, .int jwhy, .int jleft, .int jday, .int jwarmDay, .int jbagDays, .int jburnt, .int jboiled])), (jb, .inl (cI, 60, .inl jfb))] := hD
        refine lv_aload_n hx hb dX5_boundByActs_130 rfl (lv_at hl 4 rfl) ?_
        refine va_get (D := (dC, dI)) (ci := 5) (v := .ref fh) (C := RX5) (T := TX5) (N := 11) hx hb hts hin5 hown hK hP 0 rfl rfl 4 (by decide) hw5 (fun _ h9 => h9) rfl dX5_boundByActs_131 ?_
        refine lv_iload_n hx hb dX5_boundByActs_134 rfl (lv_at hl 3 rfl) ?_
        refine lv_aload_n hx hb dX5_boundByActs_135 rfl (lv_at hl 4 rfl) ?_
        refine va_get (D := (dC, dI)) (ci := 5) (v := .ref fh) (C := RX5) (T := TX5) (N := 11) hx hb hts hin5 hown hK hP 0 rfl rfl 4 (by decide) hw5 (fun _ h9 => h9) rfl dX5_boundByActs_136 ?_
        refine lv_iload_n hx hb dX5_boundByActs_139 rfl (lv_at hl 3 rfl) ?_
        refine va_iald hx hb hK hP 2 0 rfl rfl (vin (by omega) (by omega)) dX5_boundByActs_140 ?_
        refine lv_topi (fun x27 e27 => ?_)
        refine lv_iload_n hx hb dX5_boundByActs_141 rfl (lv_at hl 0 rfl) ?_
        refine va_mmin hx hb (hml.trans hl.1.symm) hown hw11 hw12 hw9 hw13 (Nat.le_of_ble_eq_true rfl) (Nat.le_of_ble_eq_true rfl) (Nat.le_of_ble_eq_true rfl) (Nat.le_of_ble_eq_true rfl) dX5_boundByActs_142 ?_
        refine lv_topi (fun x28 e28 => ?_)
        have f28 : x28.toInt ≤ x27.toInt ∧ x28.toInt ≤ x24.toInt ∧ (x28.toInt = x27.toInt ∨ x28.toInt = x24.toInt) := by rw [e28]; exact mmmin_t
        refine va_iast hx hb hK hP hD hS 2 0 rfl rfl (vin (by omega) (by omega)) dX5_boundByActs_145 (fun H locs hP hD hS => ?_)
        replace hP : va_P (dC, dI) vwCl [(f, .inr (5, [.ref k, .ref d, .ref j, .ref fl, .ref fh, .ref ff, .ref fa, .ref fm, .int fct, .int frb, .int fsl])), (fl, .inl (cI, 61, .inl (upd yfl y1.toNatClampNeg x26))), (fh, .inl (cI, 61, .inl (upd yfh y1.toNatClampNeg x28))), (d, .inr (4, [.ref ds, .int dsz, .ref dk, .ref dw, .int dac, .int dwr])), (dk, .inl (cI, 60, .inl dfk)), (j, .inr (1, [.ref k, .ref d, .ref jd, .ref jb, .ref jw, .ref jl, .int jbad, .int jwhy, .int jleft, .int jday, .int jwarmDay, .int jbagDays, .int jburnt, .int jboiled])), (jb, .inl (cI, 60, .inl jfb))] H := hP
        replace hD : va_D A [(f, .inr (5, [.ref k, .ref d, .ref j, .ref fl, .ref fh, .ref ff, .ref fa, .ref fm, .int fct, .int frb, .int fsl])), (fl, .inl (cI, 61, .inl (upd yfl y1.toNatClampNeg x26))), (fh, .inl (cI, 61, .inl (upd yfh y1.toNatClampNeg x28))), (d, .inr (4, [.ref ds, .int dsz, .ref dk, .ref dw, .int dac, .int dwr])), (dk, .inl (cI, 60, .inl dfk)), (j, .inr (1, [.ref k, .ref d, .ref jd, .ref jb, .ref jw, .ref jl, .int jbad, .int jwhy, .int jleft, .int jday, .int jwarmDay, .int jbagDays, .int jburnt, .int jboiled])), (jb, .inl (cI, 60, .inl jfb))] := hD
        obtain ⟨x29, e29⟩ : ∃ y : Int32, y = y1 + Int32.ofInt (-1) := ⟨_, rfl⟩
        refine lv_iinc (v := x29) (lv' := [(1, .int x29), (3, .int x24), (2, .int x22), (4, .int 0), (0, .ref f)]) hx hb dX5_boundByActs_146 hl (k := 3) rfl e29.symm (by decide) rfl (fun ls hl => ?_)
        have f29 : x29.toInt = y1.toInt + (-1) := by rw [e29]; exact tinc (by decide) (by have t8 := tb y1; omega) (by have t8 := tb y1; omega)
        refine lv_goto (tgt := 10) hx hb dX5_boundByActs_149 (by decide) ?_
        exact ih (H := H) (locs := locs) (ls := ls) (y1 := x29) (yfl := (upd yfl y1.toNatClampNeg x26)) (yfh := (upd yfh y1.toNatClampNeg x28)) hS (by omega)  (show lv_has ls 5 [(1, .int x29), (0, .ref f)] from lv_sub hl [0, 4] rfl) (mx_subP (wc := [(f, .inr (5, [.ref k, .ref d, .ref j, .ref fl, .ref fh, .ref ff, .ref fa, .ref fm, .int fct, .int frb, .int fsl])), (fl, .inl (cI, 61, .inl (upd yfl y1.toNatClampNeg x26))), (fh, .inl (cI, 61, .inl (upd yfh y1.toNatClampNeg x28))), (d, .inr (4, [.ref ds, .int dsz, .ref dk, .ref dw, .int dac, .int dwr])), (dk, .inl (cI, 60, .inl dfk)), (j, .inr (1, [.ref k, .ref d, .ref jd, .ref jb, .ref jw, .ref jl, .int jbad, .int jwhy, .int jleft, .int jday, .int jwarmDay, .int jbagDays, .int jburnt, .int jboiled])), (jb, .inl (cI, 60, .inl jfb))]) hP [0, 1, 2, 3, 4, 5, 6] rfl) (hD.sub (ws' := [(f, .inr (5, [.ref k, .ref d, .ref j, .ref fl, .ref fh, .ref ff, .ref fa, .ref fm, .int fct, .int frb, .int fsl])), (fl, .inl (cI, 61, .inl (upd yfl y1.toNatClampNeg x26))), (fh, .inl (cI, 61, .inl (upd yfh y1.toNatClampNeg x28))), (d, .inr (4, [.ref ds, .int dsz, .ref dk, .ref dw, .int dac, .int dwr])), (dk, .inl (cI, 60, .inl dfk)), (j, .inr (1, [.ref k, .ref d, .ref jd, .ref jb, .ref jw, .ref jl, .int jbad, .int jwhy, .int jleft, .int jday, .int jwarmDay, .int jbagDays, .int jburnt, .int jboiled])), (jb, .inl (cI, 60, .inl jfb))]) [0, 1, 2, 3, 4, 5, 6] (by decide) rfl) (by omega)
      · have t20 : (4000 : Int) ≤ x12.toInt := (tnlt c20)
        refine lv_iload_n hx hb dX5_boundByActs_73 rfl (lv_at hl 1 rfl) ?_
        refine lv_sipush (v := 4000) hx hb dX5_boundByActs_74 (by decide) ?_
        refine lv_icmp_gt (tgt := 84) hx hb dX5_boundByActs_77 (by decide) (fun c30 => ?_) (fun c30 => ?_)
        · have t30 : (4000 : Int) < x8.toInt := (tlt c30)
          refine lv_iconst (v := 0) hx hb dX5_boundByActs_84 (by decide) ?_
          refine lv_istore (lv' := [(4, .int 0), (3, .int x12), (2, .int x8), (1, .int y1), (0, .ref f)]) hx hb dX5_boundByActs_85 hl (by decide) rfl (fun ls hl => ?_)
          refine lv_iconst (v := 0) hx hb dX5_boundByActs_87 (by decide) ?_
          refine lv_iload_n hx hb dX5_boundByActs_88 rfl (lv_at hl 2 rfl) ?_
          refine lv_sipush (v := 1000) hx hb dX5_boundByActs_89 (by decide) ?_
          refine lv_isub hx hb dX5_boundByActs_92 ?_
          refine lv_topi (fun x31 e31 => ?_)
          have f31 : x31.toInt = x8.toInt - (1000 : Int) := by rw [e31]; exact tsub (by have t8 := tb x8; have z8 : (1000 : Int32).toInt = 1000 := rfl; omega) (by have t8 := tb x8; have z8 : (1000 : Int32).toInt = 1000 := rfl; omega)
          refine va_mmax hx hb (hml.trans hl.1.symm) hown hw7 hw8 hw9 hw10 (Nat.le_of_ble_eq_true rfl) (Nat.le_of_ble_eq_true rfl) (Nat.le_of_ble_eq_true rfl) (Nat.le_of_ble_eq_true rfl) dX5_boundByActs_93 ?_
          refine lv_topi (fun x32 e32 => ?_)
          have f32 : x32.toInt ≥ (0 : Int) ∧ x32.toInt ≥ x31.toInt ∧ (x32.toInt = (0 : Int) ∨ x32.toInt = x31.toInt) := by rw [e32]; exact mmmax_t
          refine lv_istore_n (lv' := [(2, .int x32), (4, .int 0), (3, .int x12), (1, .int y1), (0, .ref f)]) hx hb dX5_boundByActs_96 rfl hl (by decide) rfl (fun ls hl => ?_)
          refine lv_iload hx hb dX5_boundByActs_97 (lv_at hl 1 rfl) ?_
          refine lv_if_eq (tgt := 108) hx hb dX5_boundByActs_99 (by decide) (fun c33 => ?_) (fun c33 => absurd c33 (by decide))
          refine lv_iload_n hx hb dX5_boundByActs_108 rfl (lv_at hl 2 rfl) ?_
          refine lv_sipush (v := 1000) hx hb dX5_boundByActs_109 (by decide) ?_
          refine lv_isub hx hb dX5_boundByActs_112 ?_
          refine lv_topi (fun x34 e34 => ?_)
          have f34 : x34.toInt = x12.toInt - (1000 : Int) := by rw [e34]; exact tsub (by have t8 := tb x12; have z8 : (1000 : Int32).toInt = 1000 := rfl; omega) (by have t8 := tb x12; have z8 : (1000 : Int32).toInt = 1000 := rfl; omega)
          refine lv_istore_n (lv' := [(3, .int x34), (2, .int x32), (4, .int 0), (1, .int y1), (0, .ref f)]) hx hb dX5_boundByActs_113 rfl hl (by decide) rfl (fun ls hl => ?_)
          refine lv_aload_n hx hb dX5_boundByActs_114 rfl (lv_at hl 4 rfl) ?_
          refine va_get (D := (dC, dI)) (ci := 5) (v := .ref fl) (C := RX5) (T := TX5) (N := 11) hx hb hts hin5 hown hK hP 0 rfl rfl 3 (by decide) hw2 (fun _ h9 => h9) rfl dX5_boundByActs_115 ?_
          refine lv_iload_n hx hb dX5_boundByActs_118 rfl (lv_at hl 3 rfl) ?_
          refine lv_aload_n hx hb dX5_boundByActs_119 rfl (lv_at hl 4 rfl) ?_
          refine va_get (D := (dC, dI)) (ci := 5) (v := .ref fl) (C := RX5) (T := TX5) (N := 11) hx hb hts hin5 hown hK hP 0 rfl rfl 3 (by decide) hw2 (fun _ h9 => h9) rfl dX5_boundByActs_120 ?_
          refine lv_iload_n hx hb dX5_boundByActs_123 rfl (lv_at hl 3 rfl) ?_
          refine va_iald hx hb hK hP 1 0 rfl rfl (vin (by omega) (by omega)) dX5_boundByActs_124 ?_
          refine lv_topi (fun x35 e35 => ?_)
          refine lv_iload_n hx hb dX5_boundByActs_125 rfl (lv_at hl 1 rfl) ?_
          refine va_mmax hx hb (hml.trans hl.1.symm) hown hw7 hw8 hw9 hw10 (Nat.le_of_ble_eq_true rfl) (Nat.le_of_ble_eq_true rfl) (Nat.le_of_ble_eq_true rfl) (Nat.le_of_ble_eq_true rfl) dX5_boundByActs_126 ?_
          refine lv_topi (fun x36 e36 => ?_)
          have f36 : x36.toInt ≥ x35.toInt ∧ x36.toInt ≥ x32.toInt ∧ (x36.toInt = x35.toInt ∨ x36.toInt = x32.toInt) := by rw [e36]; exact mmmax_t
          refine va_iast hx hb hK hP hD hS 1 0 rfl rfl (vin (by omega) (by omega)) dX5_boundByActs_129 (fun H locs hP hD hS => ?_)
          replace hP : va_P (dC, dI) vwCl [(f, .inr (5, [.ref k, .ref d, .ref j, .ref fl, .ref fh, .ref ff, .ref fa, .ref fm, .int fct, .int frb, .int fsl])), (fl, .inl (cI, 61, .inl (upd yfl y1.toNatClampNeg x36))), (fh, .inl (cI, 61, .inl yfh)), (d, .inr (4, [.ref ds, .int dsz, .ref dk, .ref dw, .int dac, .int dwr])), (dk, .inl (cI, 60, .inl dfk)), (j, .inr (1, [.ref k, .ref d, .ref jd, .ref jb, .ref jw, .ref jl, .int jbad, .int jwhy, .int jleft, .int jday, .int jwarmDay, .int jbagDays, .int jburnt, .int jboiled])), (jb, .inl (cI, 60, .inl jfb))] H := hP
          replace hD : va_D A [(f, .inr (5, [.ref k, .ref d, .ref j, .ref fl, .ref fh, .ref ff, .ref fa, .ref fm, .int fct, .int frb, .int fsl])), (fl, .inl (cI, 61, .inl (upd yfl y1.toNatClampNeg x36))), (fh, .inl (cI, 61, .inl yfh)), (d, .inr (4, [.ref ds, .int dsz, .ref dk, .ref dw, .int dac, .int dwr])), (dk, .inl (cI, 60, .inl dfk)), (j, .inr (1, [.ref k, .ref d, .ref jd, .ref jb, .ref jw, .ref jl, .int jbad, .int jwhy, .int jleft, .int jday, .int jwarmDay, .int jbagDays, .int jburnt, .int jboiled])), (jb, .inl (cI, 60, .inl jfb))] := hD
          refine lv_aload_n hx hb dX5_boundByActs_130 rfl (lv_at hl 4 rfl) ?_
          refine va_get (D := (dC, dI)) (ci := 5) (v := .ref fh) (C := RX5) (T := TX5) (N := 11) hx hb hts hin5 hown hK hP 0 rfl rfl 4 (by decide) hw5 (fun _ h9 => h9) rfl dX5_boundByActs_131 ?_
          refine lv_iload_n hx hb dX5_boundByActs_134 rfl (lv_at hl 3 rfl) ?_
          refine lv_aload_n hx hb dX5_boundByActs_135 rfl (lv_at hl 4 rfl) ?_
          refine va_get (D := (dC, dI)) (ci := 5) (v := .ref fh) (C := RX5) (T := TX5) (N := 11) hx hb hts hin5 hown hK hP 0 rfl rfl 4 (by decide) hw5 (fun _ h9 => h9) rfl dX5_boundByActs_136 ?_
          refine lv_iload_n hx hb dX5_boundByActs_139 rfl (lv_at hl 3 rfl) ?_
          refine va_iald hx hb hK hP 2 0 rfl rfl (vin (by omega) (by omega)) dX5_boundByActs_140 ?_
          refine lv_topi (fun x37 e37 => ?_)
          refine lv_iload_n hx hb dX5_boundByActs_141 rfl (lv_at hl 0 rfl) ?_
          refine va_mmin hx hb (hml.trans hl.1.symm) hown hw11 hw12 hw9 hw13 (Nat.le_of_ble_eq_true rfl) (Nat.le_of_ble_eq_true rfl) (Nat.le_of_ble_eq_true rfl) (Nat.le_of_ble_eq_true rfl) dX5_boundByActs_142 ?_
          refine lv_topi (fun x38 e38 => ?_)
          have f38 : x38.toInt ≤ x37.toInt ∧ x38.toInt ≤ x34.toInt ∧ (x38.toInt = x37.toInt ∨ x38.toInt = x34.toInt) := by rw [e38]; exact mmmin_t
          refine va_iast hx hb hK hP hD hS 2 0 rfl rfl (vin (by omega) (by omega)) dX5_boundByActs_145 (fun H locs hP hD hS => ?_)
          replace hP : va_P (dC, dI) vwCl [(f, .inr (5, [.ref k, .ref d, .ref j, .ref fl, .ref fh, .ref ff, .ref fa, .ref fm, .int fct, .int frb, .int fsl])), (fl, .inl (cI, 61, .inl (upd yfl y1.toNatClampNeg x36))), (fh, .inl (cI, 61, .inl (upd yfh y1.toNatClampNeg x38))), (d, .inr (4, [.ref ds, .int dsz, .ref dk, .ref dw, .int dac, .int dwr])), (dk, .inl (cI, 60, .inl dfk)), (j, .inr (1, [.ref k, .ref d, .ref jd, .ref jb, .ref jw, .ref jl, .int jbad, .int jwhy, .int jleft, .int jday, .int jwarmDay, .int jbagDays, .int jburnt, .int jboiled])), (jb, .inl (cI, 60, .inl jfb))] H := hP
          replace hD : va_D A [(f, .inr (5, [.ref k, .ref d, .ref j, .ref fl, .ref fh, .ref ff, .ref fa, .ref fm, .int fct, .int frb, .int fsl])), (fl, .inl (cI, 61, .inl (upd yfl y1.toNatClampNeg x36))), (fh, .inl (cI, 61, .inl (upd yfh y1.toNatClampNeg x38))), (d, .inr (4, [.ref ds, .int dsz, .ref dk, .ref dw, .int dac, .int dwr])), (dk, .inl (cI, 60, .inl dfk)), (j, .inr (1, [.ref k, .ref d, .ref jd, .ref jb, .ref jw, .ref jl, .int jbad, .int jwhy, .int jleft, .int jday, .int jwarmDay, .int jbagDays, .int jburnt, .int jboiled])), (jb, .inl (cI, 60, .inl jfb))] := hD
          obtain ⟨x39, e39⟩ : ∃ y : Int32, y = y1 + Int32.ofInt (-1) := ⟨_, rfl⟩
          refine lv_iinc (v := x39) (lv' := [(1, .int x39), (3, .int x34), (2, .int x32), (4, .int 0), (0, .ref f)]) hx hb dX5_boundByActs_146 hl (k := 3) rfl e39.symm (by decide) rfl (fun ls hl => ?_)
          have f39 : x39.toInt = y1.toInt + (-1) := by rw [e39]; exact tinc (by decide) (by have t8 := tb y1; omega) (by have t8 := tb y1; omega)
          refine lv_goto (tgt := 10) hx hb dX5_boundByActs_149 (by decide) ?_
          exact ih (H := H) (locs := locs) (ls := ls) (y1 := x39) (yfl := (upd yfl y1.toNatClampNeg x36)) (yfh := (upd yfh y1.toNatClampNeg x38)) hS (by omega)  (show lv_has ls 5 [(1, .int x39), (0, .ref f)] from lv_sub hl [0, 4] rfl) (mx_subP (wc := [(f, .inr (5, [.ref k, .ref d, .ref j, .ref fl, .ref fh, .ref ff, .ref fa, .ref fm, .int fct, .int frb, .int fsl])), (fl, .inl (cI, 61, .inl (upd yfl y1.toNatClampNeg x36))), (fh, .inl (cI, 61, .inl (upd yfh y1.toNatClampNeg x38))), (d, .inr (4, [.ref ds, .int dsz, .ref dk, .ref dw, .int dac, .int dwr])), (dk, .inl (cI, 60, .inl dfk)), (j, .inr (1, [.ref k, .ref d, .ref jd, .ref jb, .ref jw, .ref jl, .int jbad, .int jwhy, .int jleft, .int jday, .int jwarmDay, .int jbagDays, .int jburnt, .int jboiled])), (jb, .inl (cI, 60, .inl jfb))]) hP [0, 1, 2, 3, 4, 5, 6] rfl) (hD.sub (ws' := [(f, .inr (5, [.ref k, .ref d, .ref j, .ref fl, .ref fh, .ref ff, .ref fa, .ref fm, .int fct, .int frb, .int fsl])), (fl, .inl (cI, 61, .inl (upd yfl y1.toNatClampNeg x36))), (fh, .inl (cI, 61, .inl (upd yfh y1.toNatClampNeg x38))), (d, .inr (4, [.ref ds, .int dsz, .ref dk, .ref dw, .int dac, .int dwr])), (dk, .inl (cI, 60, .inl dfk)), (j, .inr (1, [.ref k, .ref d, .ref jd, .ref jb, .ref jw, .ref jl, .int jbad, .int jwhy, .int jleft, .int jday, .int jwarmDay, .int jbagDays, .int jburnt, .int jboiled])), (jb, .inl (cI, 60, .inl jfb))]) [0, 1, 2, 3, 4, 5, 6] (by decide) rfl) (by omega)
        · have t30 : x8.toInt ≤ (4000 : Int) := (tnlt c30)
          refine lv_iconst (v := 1) hx hb dX5_boundByActs_80 (by decide) ?_
          refine lv_goto (tgt := 85) hx hb dX5_boundByActs_81 (by decide) ?_
          refine lv_istore (lv' := [(4, .int 1), (3, .int x12), (2, .int x8), (1, .int y1), (0, .ref f)]) hx hb dX5_boundByActs_85 hl (by decide) rfl (fun ls hl => ?_)
          refine lv_iconst (v := 0) hx hb dX5_boundByActs_87 (by decide) ?_
          refine lv_iload_n hx hb dX5_boundByActs_88 rfl (lv_at hl 2 rfl) ?_
          refine lv_sipush (v := 1000) hx hb dX5_boundByActs_89 (by decide) ?_
          refine lv_isub hx hb dX5_boundByActs_92 ?_
          refine lv_topi (fun x40 e40 => ?_)
          refine va_mmax hx hb (hml.trans hl.1.symm) hown hw7 hw8 hw9 hw10 (Nat.le_of_ble_eq_true rfl) (Nat.le_of_ble_eq_true rfl) (Nat.le_of_ble_eq_true rfl) (Nat.le_of_ble_eq_true rfl) dX5_boundByActs_93 ?_
          refine lv_topi (fun x41 e41 => ?_)
          have f41 : x41.toInt ≥ (0 : Int) ∧ x41.toInt ≥ x40.toInt ∧ (x41.toInt = (0 : Int) ∨ x41.toInt = x40.toInt) := by rw [e41]; exact mmmax_t
          refine lv_istore_n (lv' := [(2, .int x41), (4, .int 1), (3, .int x12), (1, .int y1), (0, .ref f)]) hx hb dX5_boundByActs_96 rfl hl (by decide) rfl (fun ls hl => ?_)
          refine lv_iload hx hb dX5_boundByActs_97 (lv_at hl 1 rfl) ?_
          refine lv_if_eq (tgt := 108) hx hb dX5_boundByActs_99 (by decide) (fun c42 => absurd c42 (by decide)) (fun c42 => ?_)
          refine lv_sipush (v := 4000) hx hb dX5_boundByActs_102 (by decide) ?_
          refine lv_goto (tgt := 113) hx hb dX5_boundByActs_105 (by decide) ?_
          refine lv_istore_n (lv' := [(3, .int 4000), (2, .int x41), (4, .int 1), (1, .int y1), (0, .ref f)]) hx hb dX5_boundByActs_113 rfl hl (by decide) rfl (fun ls hl => ?_)
          refine lv_aload_n hx hb dX5_boundByActs_114 rfl (lv_at hl 4 rfl) ?_
          refine va_get (D := (dC, dI)) (ci := 5) (v := .ref fl) (C := RX5) (T := TX5) (N := 11) hx hb hts hin5 hown hK hP 0 rfl rfl 3 (by decide) hw2 (fun _ h9 => h9) rfl dX5_boundByActs_115 ?_
          refine lv_iload_n hx hb dX5_boundByActs_118 rfl (lv_at hl 3 rfl) ?_
          refine lv_aload_n hx hb dX5_boundByActs_119 rfl (lv_at hl 4 rfl) ?_
          refine va_get (D := (dC, dI)) (ci := 5) (v := .ref fl) (C := RX5) (T := TX5) (N := 11) hx hb hts hin5 hown hK hP 0 rfl rfl 3 (by decide) hw2 (fun _ h9 => h9) rfl dX5_boundByActs_120 ?_
          refine lv_iload_n hx hb dX5_boundByActs_123 rfl (lv_at hl 3 rfl) ?_
          refine va_iald hx hb hK hP 1 0 rfl rfl (vin (by omega) (by omega)) dX5_boundByActs_124 ?_
          refine lv_topi (fun x43 e43 => ?_)
          refine lv_iload_n hx hb dX5_boundByActs_125 rfl (lv_at hl 1 rfl) ?_
          refine va_mmax hx hb (hml.trans hl.1.symm) hown hw7 hw8 hw9 hw10 (Nat.le_of_ble_eq_true rfl) (Nat.le_of_ble_eq_true rfl) (Nat.le_of_ble_eq_true rfl) (Nat.le_of_ble_eq_true rfl) dX5_boundByActs_126 ?_
          refine lv_topi (fun x44 e44 => ?_)
          have f44 : x44.toInt ≥ x43.toInt ∧ x44.toInt ≥ x41.toInt ∧ (x44.toInt = x43.toInt ∨ x44.toInt = x41.toInt) := by rw [e44]; exact mmmax_t
          refine va_iast hx hb hK hP hD hS 1 0 rfl rfl (vin (by omega) (by omega)) dX5_boundByActs_129 (fun H locs hP hD hS => ?_)
          replace hP : va_P (dC, dI) vwCl [(f, .inr (5, [.ref k, .ref d, .ref j, .ref fl, .ref fh, .ref ff, .ref fa, .ref fm, .int fct, .int frb, .int fsl])), (fl, .inl (cI, 61, .inl (upd yfl y1.toNatClampNeg x44))), (fh, .inl (cI, 61, .inl yfh)), (d, .inr (4, [.ref ds, .int dsz, .ref dk, .ref dw, .int dac, .int dwr])), (dk, .inl (cI, 60, .inl dfk)), (j, .inr (1, [.ref k, .ref d, .ref jd, .ref jb, .ref jw, .ref jl, .int jbad, .int jwhy, .int jleft, .int jday, .int jwarmDay, .int jbagDays, .int jburnt, .int jboiled])), (jb, .inl (cI, 60, .inl jfb))] H := hP
          replace hD : va_D A [(f, .inr (5, [.ref k, .ref d, .ref j, .ref fl, .ref fh, .ref ff, .ref fa, .ref fm, .int fct, .int frb, .int fsl])), (fl, .inl (cI, 61, .inl (upd yfl y1.toNatClampNeg x44))), (fh, .inl (cI, 61, .inl yfh)), (d, .inr (4, [.ref ds, .int dsz, .ref dk, .ref dw, .int dac, .int dwr])), (dk, .inl (cI, 60, .inl dfk)), (j, .inr (1, [.ref k, .ref d, .ref jd, .ref jb, .ref jw, .ref jl, .int jbad, .int jwhy, .int jleft, .int jday, .int jwarmDay, .int jbagDays, .int jburnt, .int jboiled])), (jb, .inl (cI, 60, .inl jfb))] := hD
          refine lv_aload_n hx hb dX5_boundByActs_130 rfl (lv_at hl 4 rfl) ?_
          refine va_get (D := (dC, dI)) (ci := 5) (v := .ref fh) (C := RX5) (T := TX5) (N := 11) hx hb hts hin5 hown hK hP 0 rfl rfl 4 (by decide) hw5 (fun _ h9 => h9) rfl dX5_boundByActs_131 ?_
          refine lv_iload_n hx hb dX5_boundByActs_134 rfl (lv_at hl 3 rfl) ?_
          refine lv_aload_n hx hb dX5_boundByActs_135 rfl (lv_at hl 4 rfl) ?_
          refine va_get (D := (dC, dI)) (ci := 5) (v := .ref fh) (C := RX5) (T := TX5) (N := 11) hx hb hts hin5 hown hK hP 0 rfl rfl 4 (by decide) hw5 (fun _ h9 => h9) rfl dX5_boundByActs_136 ?_
          refine lv_iload_n hx hb dX5_boundByActs_139 rfl (lv_at hl 3 rfl) ?_
          refine va_iald hx hb hK hP 2 0 rfl rfl (vin (by omega) (by omega)) dX5_boundByActs_140 ?_
          refine lv_topi (fun x45 e45 => ?_)
          refine lv_iload_n hx hb dX5_boundByActs_141 rfl (lv_at hl 0 rfl) ?_
          refine va_mmin hx hb (hml.trans hl.1.symm) hown hw11 hw12 hw9 hw13 (Nat.le_of_ble_eq_true rfl) (Nat.le_of_ble_eq_true rfl) (Nat.le_of_ble_eq_true rfl) (Nat.le_of_ble_eq_true rfl) dX5_boundByActs_142 ?_
          refine lv_topi (fun x46 e46 => ?_)
          have f46 : x46.toInt ≤ x45.toInt ∧ x46.toInt ≤ (4000 : Int) ∧ (x46.toInt = x45.toInt ∨ x46.toInt = (4000 : Int)) := by rw [e46]; exact mmmin_t
          refine va_iast hx hb hK hP hD hS 2 0 rfl rfl (vin (by omega) (by omega)) dX5_boundByActs_145 (fun H locs hP hD hS => ?_)
          replace hP : va_P (dC, dI) vwCl [(f, .inr (5, [.ref k, .ref d, .ref j, .ref fl, .ref fh, .ref ff, .ref fa, .ref fm, .int fct, .int frb, .int fsl])), (fl, .inl (cI, 61, .inl (upd yfl y1.toNatClampNeg x44))), (fh, .inl (cI, 61, .inl (upd yfh y1.toNatClampNeg x46))), (d, .inr (4, [.ref ds, .int dsz, .ref dk, .ref dw, .int dac, .int dwr])), (dk, .inl (cI, 60, .inl dfk)), (j, .inr (1, [.ref k, .ref d, .ref jd, .ref jb, .ref jw, .ref jl, .int jbad, .int jwhy, .int jleft, .int jday, .int jwarmDay, .int jbagDays, .int jburnt, .int jboiled])), (jb, .inl (cI, 60, .inl jfb))] H := hP
          replace hD : va_D A [(f, .inr (5, [.ref k, .ref d, .ref j, .ref fl, .ref fh, .ref ff, .ref fa, .ref fm, .int fct, .int frb, .int fsl])), (fl, .inl (cI, 61, .inl (upd yfl y1.toNatClampNeg x44))), (fh, .inl (cI, 61, .inl (upd yfh y1.toNatClampNeg x46))), (d, .inr (4, [.ref ds, .int dsz, .ref dk, .ref dw, .int dac, .int dwr])), (dk, .inl (cI, 60, .inl dfk)), (j, .inr (1, [.ref k, .ref d, .ref jd, .ref jb, .ref jw, .ref jl, .int jbad, .int jwhy, .int jleft, .int jday, .int jwarmDay, .int jbagDays, .int jburnt, .int jboiled])), (jb, .inl (cI, 60, .inl jfb))] := hD
          obtain ⟨x47, e47⟩ : ∃ y : Int32, y = y1 + Int32.ofInt (-1) := ⟨_, rfl⟩
          refine lv_iinc (v := x47) (lv' := [(1, .int x47), (3, .int 4000), (2, .int x41), (4, .int 1), (0, .ref f)]) hx hb dX5_boundByActs_146 hl (k := 3) rfl e47.symm (by decide) rfl (fun ls hl => ?_)
          have f47 : x47.toInt = y1.toInt + (-1) := by rw [e47]; exact tinc (by decide) (by have t8 := tb y1; omega) (by have t8 := tb y1; omega)
          refine lv_goto (tgt := 10) hx hb dX5_boundByActs_149 (by decide) ?_
          exact ih (H := H) (locs := locs) (ls := ls) (y1 := x47) (yfl := (upd yfl y1.toNatClampNeg x44)) (yfh := (upd yfh y1.toNatClampNeg x46)) hS (by omega)  (show lv_has ls 5 [(1, .int x47), (0, .ref f)] from lv_sub hl [0, 4] rfl) (mx_subP (wc := [(f, .inr (5, [.ref k, .ref d, .ref j, .ref fl, .ref fh, .ref ff, .ref fa, .ref fm, .int fct, .int frb, .int fsl])), (fl, .inl (cI, 61, .inl (upd yfl y1.toNatClampNeg x44))), (fh, .inl (cI, 61, .inl (upd yfh y1.toNatClampNeg x46))), (d, .inr (4, [.ref ds, .int dsz, .ref dk, .ref dw, .int dac, .int dwr])), (dk, .inl (cI, 60, .inl dfk)), (j, .inr (1, [.ref k, .ref d, .ref jd, .ref jb, .ref jw, .ref jl, .int jbad, .int jwhy, .int jleft, .int jday, .int jwarmDay, .int jbagDays, .int jburnt, .int jboiled])), (jb, .inl (cI, 60, .inl jfb))]) hP [0, 1, 2, 3, 4, 5, 6] rfl) (hD.sub (ws' := [(f, .inr (5, [.ref k, .ref d, .ref j, .ref fl, .ref fh, .ref ff, .ref fa, .ref fm, .int fct, .int frb, .int fsl])), (fl, .inl (cI, 61, .inl (upd yfl y1.toNatClampNeg x44))), (fh, .inl (cI, 61, .inl (upd yfh y1.toNatClampNeg x46))), (d, .inr (4, [.ref ds, .int dsz, .ref dk, .ref dw, .int dac, .int dwr])), (dk, .inl (cI, 60, .inl dfk)), (j, .inr (1, [.ref k, .ref d, .ref jd, .ref jb, .ref jw, .ref jl, .int jbad, .int jwhy, .int jleft, .int jday, .int jwarmDay, .int jbagDays, .int jburnt, .int jboiled])), (jb, .inl (cI, 60, .inl jfb))]) [0, 1, 2, 3, 4, 5, 6] (by decide) rfl) (by omega)
