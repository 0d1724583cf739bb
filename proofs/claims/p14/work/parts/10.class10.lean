set_option maxHeartbeats 4000000 in
set_option maxRecDepth 100000 in
theorem c_X3_bestFrom_3 (l : Launch) (dC : Nat → ClassId) (dI : Nat → Nat → Nat) (cI cZ cK : ClassId) (tS : Nat) (aK aV : Nat → Nat) (i1 : Int32) (op : Nat) (oq : Nat) (ov : Nat) (ofp : Nat → Int32) (ofq : Nat → Int32) (ofv : Nat → Int32) (sz : Nat) (h_ofp : rg ofp 6 0 9) : Ci l yX3_bestFrom (wq yX3_bestFrom cX3_bestFrom 8 (some .int)) ({ frames := 3, cells := 0, slots := 0, locals := 81 }) dC dI cI cZ cK tS aK aV [.int 3, .int i1, .ref op, .ref oq, .ref ov] sz [(op, .inl (cI, 6, .inl ofp)), (oq, .inl (cI, 6, .inl ofq)), (ov, .inl (cI, 6, .inl ofv))] (fun (r : Int32) (u : Unit) => True) (fun _ => [(op, .inl (cI, 6, .inl ofp)), (oq, .inl (cI, 6, .inl ofq)), (ov, .inl (cI, 6, .inl ofv))]) := by
  refine Met.ofW (cc := cX3_bestFrom) (maxL := 8) (ret := (some .int)) (by decide) rfl ?_
  intro p e s m args below meth c s₁ B hml hv
  obtain ⟨rfl, hsz, hP, hKx, hD0⟩ := hv
  have hx := B.exec
  have hb := B.bytes
  have hr := B.returns
  have hts := atoms_spec (ws := wq yX3_bestFrom cX3_bestFrom 8 (some .int)) B.pre
  have hown : s.vm.findClass RX3 = some m.cls := findClass_of_methodNamed B.named
  have hlocks := B.notSynchronized
  subst hsz
  have hD := hD0.self (sz := s.heap.size)
  generalize hAe : va_A [(op, .inl (cI, 6, .inl ofp)), (oq, .inl (cI, 6, .inl ofq)), (ov, .inl (cI, 6, .inl ofv))] s.heap.size = A at hD hKx ⊢
  have hA : ∀ q : Nat, s.heap.size ≤ q → A q := fun q h => by rw [← hAe]; exact Or.inr h
  have hS : va_S A s.heap s.heap [] := va_S.rf
  have hP : va_P (dC, dI) vwCl [(op, .inl (cI, 6, .inl ofp)), (oq, .inl (cI, 6, .inl ofq)), (ov, .inl (cI, 6, .inl ofv))] s.heap := hP
  have hl := lv_entry ([.int 3, .int i1, .ref op, .ref oq, .ref ov]) (n := 8) (Nat.le_of_ble_eq_true rfl)
  rw [lg_entry_eq]
  generalize (lg_sl ([.int 3, .int i1, .ref op, .ref oq, .ref ov]) ++ List.replicate (8 - (lg_sl ([.int 3, .int i1, .ref op, .ref oq, .ref ov])).length) Slot.unset).toArray = ls at hl ⊢
  have hl : lv_has ls 8 [(0, .int 3), (1, .int i1), (2, .ref op), (3, .ref oq), (4, .ref ov)] := hl
  have hK := hKx.1
  have hw0 := hts (.methodLink RX3 52 Lib.Math.max.name) (List.mem_cons_of_mem _ wm_598)
  have hw1 := hts (.static Lib.Math.max.name) (List.mem_cons_of_mem _ wm_271)
  have hw2 := hts (.initialized "java/lang/Math") (List.mem_cons_of_mem _ wm_272)
  have hw3 := hts (.code Lib.Math.max.name Lib.Math.max.code 2 (some .int)) (List.mem_cons_of_mem _ wm_273)
  refine lv_iload_n hx hb dX3_bestFrom_0 rfl (lv_at hl 0 rfl) ?_
  refine lv_bipush (v := 6) hx hb dX3_bestFrom_1 (by decide) ?_
  refine lv_icmp_lt (tgt := 8) hx hb dX3_bestFrom_3 (by decide) (fun c1 => ?_) (fun c1 => absurd c1 (by decide))
  refine lv_iconst (v := 0) hx hb dX3_bestFrom_8 (by decide) ?_
  refine lv_istore (lv' := [(5, .int 0), (0, .int 3), (1, .int i1), (2, .ref op), (3, .ref oq), (4, .ref ov)]) hx hb dX3_bestFrom_9 hl (by decide) rfl (fun ls hl => ?_)
  refine lv_iconst (v := 0) hx hb dX3_bestFrom_11 (by decide) ?_
  refine lv_istore (lv' := [(6, .int 0), (5, .int 0), (0, .int 3), (1, .int i1), (2, .ref op), (3, .ref oq), (4, .ref ov)]) hx hb dX3_bestFrom_12 hl (by decide) rfl (fun ls hl => ?_)
  have z3 : (0 : Int32).toInt = 0 := rfl
  have z4 : (0 : Int32).toInt = 0 := rfl
  have hl0 := hl
  clear hl
  obtain ⟨H, hHe⟩ : ∃ H : Heap, H = s.heap := ⟨_, rfl⟩
  obtain ⟨locs, hlo⟩ : ∃ l : List Loc, l = [] := ⟨_, rfl⟩
  replace hP : va_P (dC, dI) vwCl [(op, .inl (cI, 6, .inl ofp)), (oq, .inl (cI, 6, .inl ofq)), (ov, .inl (cI, 6, .inl ofv))] H := by rw [hHe]; exact hP
  replace hS : va_S A s.heap H locs := by rw [hHe, hlo]; exact hS
  rw [← hHe, ← hlo]
  clear hHe hlo
  have hP0 := hP
  clear hP
  have hD0 := hD
  clear hD
  obtain ⟨y5, y6, ex, hl, hP, hD⟩ : ∃ (y5 y6 : Int32), (0 ≤ y6.toInt ∧ y6.toInt ≤ 10) ∧ lv_has ls 8 [(6, .int y6), (5, .int y5), (0, .int 3), (1, .int i1), (2, .ref op), (3, .ref oq), (4, .ref ov)] ∧ va_P (dC, dI) vwCl [(op, .inl (cI, 6, .inl ofp)), (oq, .inl (cI, 6, .inl ofq)), (ov, .inl (cI, 6, .inl ofv))] H ∧ va_D A [(op, .inl (cI, 6, .inl ofp)), (oq, .inl (cI, 6, .inl ofq)), (ov, .inl (cI, 6, .inl ofv))] := ⟨0, 0, by omega, hl0, hP0, hD0⟩
  clear hl0 hP0 hD0
  obtain ⟨n2, hn⟩ : ∃ n : Nat, (n : Int) = 10 - y6.toInt := ⟨(10 - y6.toInt).toNat, by omega⟩
  induction n2 generalizing y5 y6 ls H locs with
  | zero =>
    skip
    refine lv_iload hx hb dX3_bestFrom_14 (lv_at hl 0 rfl) ?_
    refine lv_aload_n hx hb dX3_bestFrom_16 rfl (lv_at hl 4 rfl) ?_
    refine lv_iload_n hx hb dX3_bestFrom_17 rfl (lv_at hl 2 rfl) ?_
    refine va_iald hx hb hK hP 0 0 rfl rfl (vin (by decide) (by decide)) dX3_bestFrom_18 ?_
    refine lv_topi (fun x5 e5 => ?_)
    have g5 : 0 ≤ x5.toInt ∧ x5.toInt ≤ 9 := by rw [e5]; exact h_ofp _ (by decide)
    refine lv_icmp_gt (tgt := 75) hx hb dX3_bestFrom_19 (by decide) (fun c6 => ?_) (fun c6 => by exfalso; have t6 : y6.toInt ≤ x5.toInt := (tnlt c6); omega)
    refine lv_iload hx hb dX3_bestFrom_75 (lv_at hl 1 rfl) ?_
    have hP9 := mx_subP (wc := [(op, .inl (cI, 6, .inl ofp)), (oq, .inl (cI, 6, .inl ofq)), (ov, .inl (cI, 6, .inl ofv))]) hP [0, 1, 2] rfl
    have hD9 := hD.sub (ws' := [(op, .inl (cI, 6, .inl ofp)), (oq, .inl (cI, 6, .inl ofq)), (ov, .inl (cI, 6, .inl ofv))]) [0, 1, 2] (by decide) rfl
    exact W.iret (v := y5) hx hb hr (fun t ht hW => ⟨⟨y5, (), rfl, trivial, by rw [ht]; exact hP9, hD9⟩, hS.F ht⟩) hS.2.2 dX3_bestFrom_77
  | succ n2 ih =>
    skip
    refine lv_iload hx hb dX3_bestFrom_14 (lv_at hl 0 rfl) ?_
    refine lv_aload_n hx hb dX3_bestFrom_16 rfl (lv_at hl 4 rfl) ?_
    refine lv_iload_n hx hb dX3_bestFrom_17 rfl (lv_at hl 2 rfl) ?_
    refine va_iald hx hb hK hP 0 0 rfl rfl (vin (by decide) (by decide)) dX3_bestFrom_18 ?_
    refine lv_topi (fun x7 e7 => ?_)
    have g7 : 0 ≤ x7.toInt ∧ x7.toInt ≤ 9 := by rw [e7]; exact h_ofp _ (by decide)
    refine lv_icmp_gt (tgt := 75) hx hb dX3_bestFrom_19 (by decide) (fun c8 => ?_) (fun c8 => ?_)
    · have t8 : x7.toInt < y6.toInt := (tlt c8)
      refine lv_iload hx hb dX3_bestFrom_75 (lv_at hl 1 rfl) ?_
      have hP9 := mx_subP (wc := [(op, .inl (cI, 6, .inl ofp)), (oq, .inl (cI, 6, .inl ofq)), (ov, .inl (cI, 6, .inl ofv))]) hP [0, 1, 2] rfl
      have hD9 := hD.sub (ws' := [(op, .inl (cI, 6, .inl ofp)), (oq, .inl (cI, 6, .inl ofq)), (ov, .inl (cI, 6, .inl ofv))]) [0, 1, 2] (by decide) rfl
      exact W.iret (v := y5) hx hb hr (fun t ht hW => ⟨⟨y5, (), rfl, trivial, by rw [ht]; exact hP9, hD9⟩, hS.F ht⟩) hS.2.2 dX3_bestFrom_77
    · have t8 : y6.toInt ≤ x7.toInt := (tnlt c8)
      refine lv_iload hx hb dX3_bestFrom_22 (lv_at hl 0 rfl) ?_
      refine lv_aload_n hx hb dX3_bestFrom_24 rfl (lv_at hl 5 rfl) ?_
      refine lv_iload_n hx hb dX3_bestFrom_25 rfl (lv_at hl 2 rfl) ?_
      refine va_iald hx hb hK hP 1 0 rfl rfl (vin (by decide) (by decide)) dX3_bestFrom_26 ?_
      refine lv_topi (fun x9 e9 => ?_)
      refine lv_imul hx hb dX3_bestFrom_27 ?_
      refine lv_topi (fun x10 e10 => ?_)
      refine lv_iload_n hx hb dX3_bestFrom_28 rfl (lv_at hl 3 rfl) ?_
      refine lv_icmp_gt (tgt := 75) hx hb dX3_bestFrom_29 (by decide) (fun c11 => ?_) (fun c11 => ?_)
      · have t11 : i1.toInt < x10.toInt := (tlt c11)
        refine lv_iload hx hb dX3_bestFrom_75 (lv_at hl 1 rfl) ?_
        have hP9 := mx_subP (wc := [(op, .inl (cI, 6, .inl ofp)), (oq, .inl (cI, 6, .inl ofq)), (ov, .inl (cI, 6, .inl ofv))]) hP [0, 1, 2] rfl
        have hD9 := hD.sub (ws' := [(op, .inl (cI, 6, .inl ofp)), (oq, .inl (cI, 6, .inl ofq)), (ov, .inl (cI, 6, .inl ofv))]) [0, 1, 2] (by decide) rfl
        exact W.iret (v := y5) hx hb hr (fun t ht hW => ⟨⟨y5, (), rfl, trivial, by rw [ht]; exact hP9, hD9⟩, hS.F ht⟩) hS.2.2 dX3_bestFrom_77
      · have t11 : x10.toInt ≤ i1.toInt := (tnlt c11)
        refine lv_iload_n hx hb dX3_bestFrom_32 rfl (lv_at hl 2 rfl) ?_
        refine lv_iconst (v := 1) hx hb dX3_bestFrom_33 (by decide) ?_
        refine lv_iadd hx hb dX3_bestFrom_34 ?_
        refine lv_topi (fun x12 e12 => ?_)
        obtain rfl : x12 = 4 := e12.trans (by decide)
        refine lv_iload_n hx hb dX3_bestFrom_35 rfl (lv_at hl 3 rfl) ?_
        refine lv_iload hx hb dX3_bestFrom_36 (lv_at hl 0 rfl) ?_
        refine lv_aload_n hx hb dX3_bestFrom_38 rfl (lv_at hl 5 rfl) ?_
        refine lv_iload_n hx hb dX3_bestFrom_39 rfl (lv_at hl 2 rfl) ?_
        refine va_iald hx hb hK hP 1 0 rfl rfl (vin (by decide) (by decide)) dX3_bestFrom_40 ?_
        refine lv_topi (fun x13 e13 => ?_)
        refine lv_imul hx hb dX3_bestFrom_41 ?_
        refine lv_topi (fun x14 e14 => ?_)
        refine lv_isub hx hb dX3_bestFrom_42 ?_
        refine lv_topi (fun x15 e15 => ?_)
        refine lv_aload_n hx hb dX3_bestFrom_43 rfl (lv_at hl 4 rfl) ?_
        refine lv_aload_n hx hb dX3_bestFrom_44 rfl (lv_at hl 5 rfl) ?_
        refine lv_aload hx hb dX3_bestFrom_45 (lv_at hl 6 rfl) ?_
        refine mx_i (wr := []) (va_runS (As := [.int 4, .int x15, .ref op, .ref oq, .ref ov]) (rest := []) ⟨hx, hb, hml, hown, hts⟩ (c_X3_bestFrom_4 l dC dI cI cZ cK tS aK aV x15 op oq ov ofp ofq ofv H.size h_ofp) (va_cwS 5 hts (gw_s (fun _ h9 => List.mem_cons_of_mem _ h9) wm_630 wm_631 wm_26 wm_632) rfl rfl rfl (by decide +kernel) ⟨Nat.le_of_ble_eq_true rfl, Nat.le_of_ble_eq_true rfl⟩) (mx_preS hKx hP hD hS hA [0, 1, 2] (by decide) rfl) rfl rfl hl.1 rfl (lv_room (Nat.le_of_ble_eq_true rfl)) dX3_bestFrom_47 ⟨Nat.le_of_ble_eq_true rfl, Nat.le_of_ble_eq_true rfl⟩) hP hD hS hA [0, 1, 2] [] rfl rfl (by decide) (by decide) (fun r16 u16 H locs hq16 hP hD hS => ?_)
        replace hP : va_P (dC, dI) vwCl [(op, .inl (cI, 6, .inl ofp)), (oq, .inl (cI, 6, .inl ofq)), (ov, .inl (cI, 6, .inl ofv))] H := hP
        replace hD : va_D A [(op, .inl (cI, 6, .inl ofp)), (oq, .inl (cI, 6, .inl ofq)), (ov, .inl (cI, 6, .inl ofv))] := hD
        refine lv_istore (lv' := [(7, .int r16), (6, .int y6), (5, .int y5), (0, .int 3), (1, .int i1), (2, .ref op), (3, .ref oq), (4, .ref ov)]) hx hb dX3_bestFrom_50 hl (by decide) rfl (fun ls hl => ?_)
        refine lv_iload hx hb dX3_bestFrom_52 (lv_at hl 2 rfl) ?_
        refine lv_iload hx hb dX3_bestFrom_54 (lv_at hl 1 rfl) ?_
        refine lv_aload hx hb dX3_bestFrom_56 (lv_at hl 7 rfl) ?_
        refine lv_iload_n hx hb dX3_bestFrom_58 rfl (lv_at hl 3 rfl) ?_
        refine va_iald hx hb hK hP 2 0 rfl rfl (vin (by decide) (by decide)) dX3_bestFrom_59 ?_
        refine lv_topi (fun x17 e17 => ?_)
        refine lv_imul hx hb dX3_bestFrom_60 ?_
        refine lv_topi (fun x18 e18 => ?_)
        refine lv_iload hx hb dX3_bestFrom_61 (lv_at hl 0 rfl) ?_
        refine lv_iadd hx hb dX3_bestFrom_63 ?_
        refine lv_topi (fun x19 e19 => ?_)
        refine va_mmax hx hb (hml.trans hl.1.symm) hown hw0 hw1 hw2 hw3 (Nat.le_of_ble_eq_true rfl) (Nat.le_of_ble_eq_true rfl) (Nat.le_of_ble_eq_true rfl) (Nat.le_of_ble_eq_true rfl) dX3_bestFrom_64 ?_
        refine lv_topi (fun x20 e20 => ?_)
        have f20 : x20.toInt ≥ y5.toInt ∧ x20.toInt ≥ x19.toInt ∧ (x20.toInt = y5.toInt ∨ x20.toInt = x19.toInt) := by rw [e20]; exact mmmax_t
        refine lv_istore (lv' := [(5, .int x20), (7, .int r16), (6, .int y6), (0, .int 3), (1, .int i1), (2, .ref op), (3, .ref oq), (4, .ref ov)]) hx hb dX3_bestFrom_67 hl (by decide) rfl (fun ls hl => ?_)
        obtain ⟨x21, e21⟩ : ∃ y : Int32, y = y6 + Int32.ofInt 1 := ⟨_, rfl⟩
        refine lv_iinc (v := x21) (lv' := [(6, .int x21), (5, .int x20), (7, .int r16), (0, .int 3), (1, .int i1), (2, .ref op), (3, .ref oq), (4, .ref ov)]) hx hb dX3_bestFrom_69 hl (k := 2) rfl e21.symm (by decide) rfl (fun ls hl => ?_)
        have f21 : x21.toInt = y6.toInt + 1 := by rw [e21]; exact tinc (by decide) (by have t8 := tb y6; omega) (by have t8 := tb y6; omega)
        refine lv_goto (tgt := 14) hx hb dX3_bestFrom_72 (by decide) ?_
        exact ih (H := H) (locs := locs) (ls := ls) (y5 := x20) (y6 := x21) hS (by omega)  (show lv_has ls 8 [(6, .int x21), (5, .int x20), (0, .int 3), (1, .int i1), (2, .ref op), (3, .ref oq), (4, .ref ov)] from lv_sub hl [0, 1, 3, 4, 5, 6, 7] rfl) (mx_subP (wc := [(op, .inl (cI, 6, .inl ofp)), (oq, .inl (cI, 6, .inl ofq)), (ov, .inl (cI, 6, .inl ofv))]) hP [0, 1, 2] rfl) (by omega)
set_option maxHeartbeats 4000000 in
set_option maxRecDepth 100000 in
theorem c_X3_bestFrom_2 (l : Launch) (dC : Nat → ClassId) (dI : Nat → Nat → Nat) (cI cZ cK : ClassId) (tS : Nat) (aK aV : Nat → Nat) (i1 : Int32) (op : Nat) (oq : Nat) (ov : Nat) (ofp : Nat → Int32) (ofq : Nat → Int32) (ofv : Nat → Int32) (sz : Nat) (h_ofp : rg ofp 6 0 9) : Ci l yX3_bestFrom (wq yX3_bestFrom cX3_bestFrom 8 (some .int)) ({ frames := 4, cells := 0, slots := 0, locals := 108 }) dC dI cI cZ cK tS aK aV [.int 2, .int i1, .ref op, .ref oq, .ref ov] sz [(op, .inl (cI, 6, .inl ofp)), (oq, .inl (cI, 6, .inl ofq)), (ov, .inl (cI, 6, .inl ofv))] (fun (r : Int32) (u : Unit) => True) (fun _ => [(op, .inl (cI, 6, .inl ofp)), (oq, .inl (cI, 6, .inl ofq)), (ov, .inl (cI, 6, .inl ofv))]) := by
  refine Met.ofW (cc := cX3_bestFrom) (maxL := 8) (ret := (some .int)) (by decide) rfl ?_
  intro p e s m args below meth c s₁ B hml hv
  obtain ⟨rfl, hsz, hP, hKx, hD0⟩ := hv
  have hx := B.exec
  have hb := B.bytes
  have hr := B.returns
  have hts := atoms_spec (ws := wq yX3_bestFrom cX3_bestFrom 8 (some .int)) B.pre
  have hown : s.vm.findClass RX3 = some m.cls := findClass_of_methodNamed B.named
  have hlocks := B.notSynchronized
  subst hsz
  have hD := hD0.self (sz := s.heap.size)
  generalize hAe : va_A [(op, .inl (cI, 6, .inl ofp)), (oq, .inl (cI, 6, .inl ofq)), (ov, .inl (cI, 6, .inl ofv))] s.heap.size = A at hD hKx ⊢
  have hA : ∀ q : Nat, s.heap.size ≤ q → A q := fun q h => by rw [← hAe]; exact Or.inr h
  have hS : va_S A s.heap s.heap [] := va_S.rf
  have hP : va_P (dC, dI) vwCl [(op, .inl (cI, 6, .inl ofp)), (oq, .inl (cI, 6, .inl ofq)), (ov, .inl (cI, 6, .inl ofv))] s.heap := hP
  have hl := lv_entry ([.int 2, .int i1, .ref op, .ref oq, .ref ov]) (n := 8) (Nat.le_of_ble_eq_true rfl)
  rw [lg_entry_eq]
  generalize (lg_sl ([.int 2, .int i1, .ref op, .ref oq, .ref ov]) ++ List.replicate (8 - (lg_sl ([.int 2, .int i1, .ref op, .ref oq, .ref ov])).length) Slot.unset).toArray = ls at hl ⊢
  have hl : lv_has ls 8 [(0, .int 2), (1, .int i1), (2, .ref op), (3, .ref oq), (4, .ref ov)] := hl
  have hK := hKx.1
  have hw0 := hts (.methodLink RX3 52 Lib.Math.max.name) (List.mem_cons_of_mem _ wm_598)
  have hw1 := hts (.static Lib.Math.max.name) (List.mem_cons_of_mem _ wm_271)
  have hw2 := hts (.initialized "java/lang/Math") (List.mem_cons_of_mem _ wm_272)
  have hw3 := hts (.code Lib.Math.max.name Lib.Math.max.code 2 (some .int)) (List.mem_cons_of_mem _ wm_273)
  refine lv_iload_n hx hb dX3_bestFrom_0 rfl (lv_at hl 0 rfl) ?_
  refine lv_bipush (v := 6) hx hb dX3_bestFrom_1 (by decide) ?_
  refine lv_icmp_lt (tgt := 8) hx hb dX3_bestFrom_3 (by decide) (fun c1 => ?_) (fun c1 => absurd c1 (by decide))
  refine lv_iconst (v := 0) hx hb dX3_bestFrom_8 (by decide) ?_
  refine lv_istore (lv' := [(5, .int 0), (0, .int 2), (1, .int i1), (2, .ref op), (3, .ref oq), (4, .ref ov)]) hx hb dX3_bestFrom_9 hl (by decide) rfl (fun ls hl => ?_)
  refine lv_iconst (v := 0) hx hb dX3_bestFrom_11 (by decide) ?_
  refine lv_istore (lv' := [(6, .int 0), (5, .int 0), (0, .int 2), (1, .int i1), (2, .ref op), (3, .ref oq), (4, .ref ov)]) hx hb dX3_bestFrom_12 hl (by decide) rfl (fun ls hl => ?_)
  have z3 : (0 : Int32).toInt = 0 := rfl
  have z4 : (0 : Int32).toInt = 0 := rfl
  have hl0 := hl
  clear hl
  obtain ⟨H, hHe⟩ : ∃ H : Heap, H = s.heap := ⟨_, rfl⟩
  obtain ⟨locs, hlo⟩ : ∃ l : List Loc, l = [] := ⟨_, rfl⟩
  replace hP : va_P (dC, dI) vwCl [(op, .inl (cI, 6, .inl ofp)), (oq, .inl (cI, 6, .inl ofq)), (ov, .inl (cI, 6, .inl ofv))] H := by rw [hHe]; exact hP
  replace hS : va_S A s.heap H locs := by rw [hHe, hlo]; exact hS
  rw [← hHe, ← hlo]
  clear hHe hlo
  have hP0 := hP
  clear hP
  have hD0 := hD
  clear hD
  obtain ⟨y5, y6, ex, hl, hP, hD⟩ : ∃ (y5 y6 : Int32), (0 ≤ y6.toInt ∧ y6.toInt ≤ 10) ∧ lv_has ls 8 [(6, .int y6), (5, .int y5), (0, .int 2), (1, .int i1), (2, .ref op), (3, .ref oq), (4, .ref ov)] ∧ va_P (dC, dI) vwCl [(op, .inl (cI, 6, .inl ofp)), (oq, .inl (cI, 6, .inl ofq)), (ov, .inl (cI, 6, .inl ofv))] H ∧ va_D A [(op, .inl (cI, 6, .inl ofp)), (oq, .inl (cI, 6, .inl ofq)), (ov, .inl (cI, 6, .inl ofv))] := ⟨0, 0, by omega, hl0, hP0, hD0⟩
  clear hl0 hP0 hD0
  obtain ⟨n2, hn⟩ : ∃ n : Nat, (n : Int) = 10 - y6.toInt := ⟨(10 - y6.toInt).toNat, by omega⟩
  induction n2 generalizing y5 y6 ls H locs with
  | zero =>
    skip
    refine lv_iload hx hb dX3_bestFrom_14 (lv_at hl 0 rfl) ?_
    refine lv_aload_n hx hb dX3_bestFrom_16 rfl (lv_at hl 4 rfl) ?_
    refine lv_iload_n hx hb dX3_bestFrom_17 rfl (lv_at hl 2 rfl) ?_
    refine va_iald hx hb hK hP 0 0 rfl rfl (vin (by decide) (by decide)) dX3_bestFrom_18 ?_
    refine lv_topi (fun x5 e5 => ?_)
    have g5 : 0 ≤ x5.toInt ∧ x5.toInt ≤ 9 := by rw [e5]; exact h_ofp _ (by decide)
    refine lv_icmp_gt (tgt := 75) hx hb dX3_bestFrom_19 (by decide) (fun c6 => ?_) (fun c6 => by exfalso; have t6 : y6.toInt ≤ x5.toInt := (tnlt c6); omega)
    refine lv_iload hx hb dX3_bestFrom_75 (lv_at hl 1 rfl) ?_
    have hP9 := mx_subP (wc := [(op, .inl (cI, 6, .inl ofp)), (oq, .inl (cI, 6, .inl ofq)), (ov, .inl (cI, 6, .inl ofv))]) hP [0, 1, 2] rfl
    have hD9 := hD.sub (ws' := [(op, .inl (cI, 6, .inl ofp)), (oq, .inl (cI, 6, .inl ofq)), (ov, .inl (cI, 6, .inl ofv))]) [0, 1, 2] (by decide) rfl
    exact W.iret (v := y5) hx hb hr (fun t ht hW => ⟨⟨y5, (), rfl, trivial, by rw [ht]; exact hP9, hD9⟩, hS.F ht⟩) hS.2.2 dX3_bestFrom_77
  | succ n2 ih =>
    skip
    refine lv_iload hx hb dX3_bestFrom_14 (lv_at hl 0 rfl) ?_
    refine lv_aload_n hx hb dX3_bestFrom_16 rfl (lv_at hl 4 rfl) ?_
    refine lv_iload_n hx hb dX3_bestFrom_17 rfl (lv_at hl 2 rfl) ?_
    refine va_iald hx hb hK hP 0 0 rfl rfl (vin (by decide) (by decide)) dX3_bestFrom_18 ?_
    refine lv_topi (fun x7 e7 => ?_)
    have g7 : 0 ≤ x7.toInt ∧ x7.toInt ≤ 9 := by rw [e7]; exact h_ofp _ (by decide)
    refine lv_icmp_gt (tgt := 75) hx hb dX3_bestFrom_19 (by decide) (fun c8 => ?_) (fun c8 => ?_)
    · have t8 : x7.toInt < y6.toInt := (tlt c8)
      refine lv_iload hx hb dX3_bestFrom_75 (lv_at hl 1 rfl) ?_
      have hP9 := mx_subP (wc := [(op, .inl (cI, 6, .inl ofp)), (oq, .inl (cI, 6, .inl ofq)), (ov, .inl (cI, 6, .inl ofv))]) hP [0, 1, 2] rfl
      have hD9 := hD.sub (ws' := [(op, .inl (cI, 6, .inl ofp)), (oq, .inl (cI, 6, .inl ofq)), (ov, .inl (cI, 6, .inl ofv))]) [0, 1, 2] (by decide) rfl
      exact W.iret (v := y5) hx hb hr (fun t ht hW => ⟨⟨y5, (), rfl, trivial, by rw [ht]; exact hP9, hD9⟩, hS.F ht⟩) hS.2.2 dX3_bestFrom_77
    · have t8 : y6.toInt ≤ x7.toInt := (tnlt c8)
      refine lv_iload hx hb dX3_bestFrom_22 (lv_at hl 0 rfl) ?_
      refine lv_aload_n hx hb dX3_bestFrom_24 rfl (lv_at hl 5 rfl) ?_
      refine lv_iload_n hx hb dX3_bestFrom_25 rfl (lv_at hl 2 rfl) ?_
      refine va_iald hx hb hK hP 1 0 rfl rfl (vin (by decide) (by decide)) dX3_bestFrom_26 ?_
      refine lv_topi (fun x9 e9 => ?_)
      refine lv_imul hx hb dX3_bestFrom_27 ?_
      refine lv_topi (fun x10 e10 => ?_)
      refine lv_iload_n hx hb dX3_bestFrom_28 rfl (lv_at hl 3 rfl) ?_
      refine lv_icmp_gt (tgt := 75) hx hb dX3_bestFrom_29 (by decide) (fun c11 => ?_) (fun c11 => ?_)
      · have t11 : i1.toInt < x10.toInt := (tlt c11)
        refine lv_iload hx hb dX3_bestFrom_75 (lv_at hl 1 rfl) ?_
        have hP9 := mx_subP (wc := [(op, .inl (cI, 6, .inl ofp)), (oq, .inl (cI, 6, .inl ofq)), (ov, .inl (cI, 6, .inl ofv))]) hP [0, 1, 2] rfl
        have hD9 := hD.sub (ws' := [(op, .inl (cI, 6, .inl ofp)), (oq, .inl (cI, 6, .inl ofq)), (ov, .inl (cI, 6, .inl ofv))]) [0, 1, 2] (by decide) rfl
        exact W.iret (v := y5) hx hb hr (fun t ht hW => ⟨⟨y5, (), rfl, trivial, by rw [ht]; exact hP9, hD9⟩, hS.F ht⟩) hS.2.2 dX3_bestFrom_77
      · have t11 : x10.toInt ≤ i1.toInt := (tnlt c11)
        refine lv_iload_n hx hb dX3_bestFrom_32 rfl (lv_at hl 2 rfl) ?_
        refine lv_iconst (v := 1) hx hb dX3_bestFrom_33 (by decide) ?_
        refine lv_iadd hx hb dX3_bestFrom_34 ?_
        refine lv_topi (fun x12 e12 => ?_)
        obtain rfl : x12 = 3 := e12.trans (by decide)
        refine lv_iload_n hx hb dX3_bestFrom_35 rfl (lv_at hl 3 rfl) ?_
        refine lv_iload hx hb dX3_bestFrom_36 (lv_at hl 0 rfl) ?_
        refine lv_aload_n hx hb dX3_bestFrom_38 rfl (lv_at hl 5 rfl) ?_
        refine lv_iload_n hx hb dX3_bestFrom_39 rfl (lv_at hl 2 rfl) ?_
        refine va_iald hx hb hK hP 1 0 rfl rfl (vin (by decide) (by decide)) dX3_bestFrom_40 ?_
        refine lv_topi (fun x13 e13 => ?_)
        refine lv_imul hx hb dX3_bestFrom_41 ?_
        refine lv_topi (fun x14 e14 => ?_)
        refine lv_isub hx hb dX3_bestFrom_42 ?_
        refine lv_topi (fun x15 e15 => ?_)
        refine lv_aload_n hx hb dX3_bestFrom_43 rfl (lv_at hl 4 rfl) ?_
        refine lv_aload_n hx hb dX3_bestFrom_44 rfl (lv_at hl 5 rfl) ?_
        refine lv_aload hx hb dX3_bestFrom_45 (lv_at hl 6 rfl) ?_
        refine mx_i (wr := []) (va_runS (As := [.int 3, .int x15, .ref op, .ref oq, .ref ov]) (rest := []) ⟨hx, hb, hml, hown, hts⟩ (c_X3_bestFrom_3 l dC dI cI cZ cK tS aK aV x15 op oq ov ofp ofq ofv H.size h_ofp) (va_cwS 5 hts (gw_s (fun _ h9 => List.mem_cons_of_mem _ h9) wm_630 wm_631 wm_26 wm_632) rfl rfl rfl (by decide +kernel) ⟨Nat.le_of_ble_eq_true rfl, Nat.le_of_ble_eq_true rfl⟩) (mx_preS hKx hP hD hS hA [0, 1, 2] (by decide) rfl) rfl rfl hl.1 rfl (lv_room (Nat.le_of_ble_eq_true rfl)) dX3_bestFrom_47 ⟨Nat.le_of_ble_eq_true rfl, Nat.le_of_ble_eq_true rfl⟩) hP hD hS hA [0, 1, 2] [] rfl rfl (by decide) (by decide) (fun r16 u16 H locs hq16 hP hD hS => ?_)
        replace hP : va_P (dC, dI) vwCl [(op, .inl (cI, 6, .inl ofp)), (oq, .inl (cI, 6, .inl ofq)), (ov, .inl (cI, 6, .inl ofv))] H := hP
        replace hD : va_D A [(op, .inl (cI, 6, .inl ofp)), (oq, .inl (cI, 6, .inl ofq)), (ov, .inl (cI, 6, .inl ofv))] := hD
        refine lv_istore (lv' := [(7, .int r16), (6, .int y6), (5, .int y5), (0, .int 2), (1, .int i1), (2, .ref op), (3, .ref oq), (4, .ref ov)]) hx hb dX3_bestFrom_50 hl (by decide) rfl (fun ls hl => ?_)
        refine lv_iload hx hb dX3_bestFrom_52 (lv_at hl 2 rfl) ?_
        refine lv_iload hx hb dX3_bestFrom_54 (lv_at hl 1 rfl) ?_
        refine lv_aload hx hb dX3_bestFrom_56 (lv_at hl 7 rfl) ?_
        refine lv_iload_n hx hb dX3_bestFrom_58 rfl (lv_at hl 3 rfl) ?_
        refine va_iald hx hb hK hP 2 0 rfl rfl (vin (by decide) (by decide)) dX3_bestFrom_59 ?_
        refine lv_topi (fun x17 e17 => ?_)
        refine lv_imul hx hb dX3_bestFrom_60 ?_
        refine lv_topi (fun x18 e18 => ?_)
        refine lv_iload hx hb dX3_bestFrom_61 (lv_at hl 0 rfl) ?_
        refine lv_iadd hx hb dX3_bestFrom_63 ?_
        refine lv_topi (fun x19 e19 => ?_)
        refine va_mmax hx hb (hml.trans hl.1.symm) hown hw0 hw1 hw2 hw3 (Nat.le_of_ble_eq_true rfl) (Nat.le_of_ble_eq_true rfl) (Nat.le_of_ble_eq_true rfl) (Nat.le_of_ble_eq_true rfl) dX3_bestFrom_64 ?_
        refine lv_topi (fun x20 e20 => ?_)
        have f20 : x20.toInt ≥ y5.toInt ∧ x20.toInt ≥ x19.toInt ∧ (x20.toInt = y5.toInt ∨ x20.toInt = x19.toInt) := by rw [e20]; exact mmmax_t
        refine lv_istore (lv' := [(5, .int x20), (7, .int r16), (6, .int y6), (0, .int 2), (1, .int i1), (2, .ref op), (3, .ref oq), (4, .ref ov)]) hx hb dX3_bestFrom_67 hl (by decide) rfl (fun ls hl => ?_)
        obtain ⟨x21, e21⟩ : ∃ y : Int32, y = y6 + Int32.ofInt 1 := ⟨_, rfl⟩
        refine lv_iinc (v := x21) (lv' := [(6, .int x21), (5, .int x20), (7, .int r16), (0, .int 2), (1, .int i1), (2, .ref op), (3, .ref oq), (4, .ref ov)]) hx hb dX3_bestFrom_69 hl (k := 2) rfl e21.symm (by decide) rfl (fun ls hl => ?_)
        have f21 : x21.toInt = y6.toInt + 1 := by rw [e21]; exact tinc (by decide) (by have t8 := tb y6; omega) (by have t8 := tb y6; omega)
        refine lv_goto (tgt := 14) hx hb dX3_bestFrom_72 (by decide) ?_
        exact ih (H := H) (locs := locs) (ls := ls) (y5 := x20) (y6 := x21) hS (by omega)  (show lv_has ls 8 [(6, .int x21), (5, .int x20), (0, .int 2), (1, .int i1), (2, .ref op), (3, .ref oq), (4, .ref ov)] from lv_sub hl [0, 1, 3, 4, 5, 6, 7] rfl) (mx_subP (wc := [(op, .inl (cI, 6, .inl ofp)), (oq, .inl (cI, 6, .inl ofq)), (ov, .inl (cI, 6, .inl ofv))]) hP [0, 1, 2] rfl) (by omega)
set_option maxHeartbeats 4000000 in
set_option maxRecDepth 100000 in
theorem c_X3_bestFrom_1 (l : Launch) (dC : Nat → ClassId) (dI : Nat → Nat → Nat) (cI cZ cK : ClassId) (tS : Nat) (aK aV : Nat → Nat) (i1 : Int32) (op : Nat) (oq : Nat) (ov : Nat) (ofp : Nat → Int32) (ofq : Nat → Int32) (ofv : Nat → Int32) (sz : Nat) (h_ofp : rg ofp 6 0 9) : Ci l yX3_bestFrom (wq yX3_bestFrom cX3_bestFrom 8 (some .int)) ({ frames := 5, cells := 0, slots := 0, locals := 135 }) dC dI cI cZ cK tS aK aV [.int 1, .int i1, .ref op, .ref oq, .ref ov] sz [(op, .inl (cI, 6, .inl ofp)), (oq, .inl (cI, 6, .inl ofq)), (ov, .inl (cI, 6, .inl ofv))] (fun (r : Int32) (u : Unit) => True) (fun _ => [(op, .inl (cI, 6, .inl ofp)), (oq, .inl (cI, 6, .inl ofq)), (ov, .inl (cI, 6, .inl ofv))]) := by
  refine Met.ofW (cc := cX3_bestFrom) (maxL := 8) (ret := (some .int)) (by decide) rfl ?_
  intro p e s m args below meth c s₁ B hml hv
  obtain ⟨rfl, hsz, hP, hKx, hD0⟩ := hv
  have hx := B.exec
  have hb := B.bytes
  have hr := B.returns
  have hts := atoms_spec (ws := wq yX3_bestFrom cX3_bestFrom 8 (some .int)) B.pre
  have hown : s.vm.findClass RX3 = some m.cls := findClass_of_methodNamed B.named
  have hlocks := B.notSynchronized
  subst hsz
  have hD := hD0.self (sz := s.heap.size)
  generalize hAe : va_A [(op, .inl (cI, 6, .inl ofp)), (oq, .inl (cI, 6, .inl ofq)), (ov, .inl (cI, 6, .inl ofv))] s.heap.size = A at hD hKx ⊢
  have hA : ∀ q : Nat, s.heap.size ≤ q → A q := fun q h => by rw [← hAe]; exact Or.inr h
  have hS : va_S A s.heap s.heap [] := va_S.rf
  have hP : va_P (dC, dI) vwCl [(op, .inl (cI, 6, .inl ofp)), (oq, .inl (cI, 6, .inl ofq)), (ov, .inl (cI, 6, .inl ofv))] s.heap := hP
  have hl := lv_entry ([.int 1, .int i1, .ref op, .ref oq, .ref ov]) (n := 8) (Nat.le_of_ble_eq_true rfl)
  rw [lg_entry_eq]
  generalize (lg_sl ([.int 1, .int i1, .ref op, .ref oq, .ref ov]) ++ List.replicate (8 - (lg_sl ([.int 1, .int i1, .ref op, .ref oq, .ref ov])).length) Slot.unset).toArray = ls at hl ⊢
  have hl : lv_has ls 8 [(0, .int 1), (1, .int i1), (2, .ref op), (3, .ref oq), (4, .ref ov)] := hl
  have hK := hKx.1
  have hw0 := hts (.methodLink RX3 52 Lib.Math.max.name) (List.mem_cons_of_mem _ wm_598)
  have hw1 := hts (.static Lib.Math.max.name) (List.mem_cons_of_mem _ wm_271)
  have hw2 := hts (.initialized "java/lang/Math") (List.mem_cons_of_mem _ wm_272)
  have hw3 := hts (.code Lib.Math.max.name Lib.Math.max.code 2 (some .int)) (List.mem_cons_of_mem _ wm_273)
  refine lv_iload_n hx hb dX3_bestFrom_0 rfl (lv_at hl 0 rfl) ?_
  refine lv_bipush (v := 6) hx hb dX3_bestFrom_1 (by decide) ?_
  refine lv_icmp_lt (tgt := 8) hx hb dX3_bestFrom_3 (by decide) (fun c1 => ?_) (fun c1 => absurd c1 (by decide))
  refine lv_iconst (v := 0) hx hb dX3_bestFrom_8 (by decide) ?_
  refine lv_istore (lv' := [(5, .int 0), (0, .int 1), (1, .int i1), (2, .ref op), (3, .ref oq), (4, .ref ov)]) hx hb dX3_bestFrom_9 hl (by decide) rfl (fun ls hl => ?_)
  refine lv_iconst (v := 0) hx hb dX3_bestFrom_11 (by decide) ?_
  refine lv_istore (lv' := [(6, .int 0), (5, .int 0), (0, .int 1), (1, .int i1), (2, .ref op), (3, .ref oq), (4, .ref ov)]) hx hb dX3_bestFrom_12 hl (by decide) rfl (fun ls hl => ?_)
  have z3 : (0 : Int32).toInt = 0 := rfl
  have z4 : (0 : Int32).toInt = 0 := rfl
  have hl0 := hl
  clear hl
  obtain ⟨H, hHe⟩ : ∃ H : Heap, H = s.heap := ⟨_, rfl⟩
  obtain ⟨locs, hlo⟩ : ∃ l : List Loc, l = [] := ⟨_, rfl⟩
  replace hP : va_P (dC, dI) vwCl [(op, .inl (cI, 6, .inl ofp)), (oq, .inl (cI, 6, .inl ofq)), (ov, .inl (cI, 6, .inl ofv))] H := by rw [hHe]; exact hP
  replace hS : va_S A s.heap H locs := by rw [hHe, hlo]; exact hS
  rw [← hHe, ← hlo]
  clear hHe hlo
  have hP0 := hP
  clear hP
  have hD0 := hD
  clear hD
  obtain ⟨y5, y6, ex, hl, hP, hD⟩ : ∃ (y5 y6 : Int32), (0 ≤ y6.toInt ∧ y6.toInt ≤ 10) ∧ lv_has ls 8 [(6, .int y6), (5, .int y5), (0, .int 1), (1, .int i1), (2, .ref op), (3, .ref oq), (4, .ref ov)] ∧ va_P (dC, dI) vwCl [(op, .inl (cI, 6, .inl ofp)), (oq, .inl (cI, 6, .inl ofq)), (ov, .inl (cI, 6, .inl ofv))] H ∧ va_D A [(op, .inl (cI, 6, .inl ofp)), (oq, .inl (cI, 6, .inl ofq)), (ov, .inl (cI, 6, .inl ofv))] := ⟨0, 0, by omega, hl0, hP0, hD0⟩
  clear hl0 hP0 hD0
  obtain ⟨n2, hn⟩ : ∃ n : Nat, (n : Int) = 10 - y6.toInt := ⟨(10 - y6.toInt).toNat, by omega⟩
  induction n2 generalizing y5 y6 ls H locs with
  | zero =>
    skip
    refine lv_iload hx hb dX3_bestFrom_14 (lv_at hl 0 rfl) ?_
    refine lv_aload_n hx hb dX3_bestFrom_16 rfl (lv_at hl 4 rfl) ?_
    refine lv_iload_n hx hb dX3_bestFrom_17 rfl (lv_at hl 2 rfl) ?_
    refine va_iald hx hb hK hP 0 0 rfl rfl (vin (by decide) (by decide)) dX3_bestFrom_18 ?_
    refine lv_topi (fun x5 e5 => ?_)
    have g5 : 0 ≤ x5.toInt ∧ x5.toInt ≤ 9 := by rw [e5]; exact h_ofp _ (by decide)
    refine lv_icmp_gt (tgt := 75) hx hb dX3_bestFrom_19 (by decide) (fun c6 => ?_) (fun c6 => by exfalso; have t6 : y6.toInt ≤ x5.toInt := (tnlt c6); omega)
    refine lv_iload hx hb dX3_bestFrom_75 (lv_at hl 1 rfl) ?_
    have hP9 := mx_subP (wc := [(op, .inl (cI, 6, .inl ofp)), (oq, .inl (cI, 6, .inl ofq)), (ov, .inl (cI, 6, .inl ofv))]) hP [0, 1, 2] rfl
    have hD9 := hD.sub (ws' := [(op, .inl (cI, 6, .inl ofp)), (oq, .inl (cI, 6, .inl ofq)), (ov, .inl (cI, 6, .inl ofv))]) [0, 1, 2] (by decide) rfl
    exact W.iret (v := y5) hx hb hr (fun t ht hW => ⟨⟨y5, (), rfl, trivial, by rw [ht]; exact hP9, hD9⟩, hS.F ht⟩) hS.2.2 dX3_bestFrom_77
  | succ n2 ih =>
    skip
    refine lv_iload hx hb dX3_bestFrom_14 (lv_at hl 0 rfl) ?_
    refine lv_aload_n hx hb dX3_bestFrom_16 rfl (lv_at hl 4 rfl) ?_
    refine lv_iload_n hx hb dX3_bestFrom_17 rfl (lv_at hl 2 rfl) ?_
    refine va_iald hx hb hK hP 0 0 rfl rfl (vin (by decide) (by decide)) dX3_bestFrom_18 ?_
    refine lv_topi (fun x7 e7 => ?_)
    have g7 : 0 ≤ x7.toInt ∧ x7.toInt ≤ 9 := by rw [e7]; exact h_ofp _ (by decide)
    refine lv_icmp_gt (tgt := 75) hx hb dX3_bestFrom_19 (by decide) (fun c8 => ?_) (fun c8 => ?_)
    · have t8 : x7.toInt < y6.toInt := (tlt c8)
      refine lv_iload hx hb dX3_bestFrom_75 (lv_at hl 1 rfl) ?_
      have hP9 := mx_subP (wc := [(op, .inl (cI, 6, .inl ofp)), (oq, .inl (cI, 6, .inl ofq)), (ov, .inl (cI, 6, .inl ofv))]) hP [0, 1, 2] rfl
      have hD9 := hD.sub (ws' := [(op, .inl (cI, 6, .inl ofp)), (oq, .inl (cI, 6, .inl ofq)), (ov, .inl (cI, 6, .inl ofv))]) [0, 1, 2] (by decide) rfl
      exact W.iret (v := y5) hx hb hr (fun t ht hW => ⟨⟨y5, (), rfl, trivial, by rw [ht]; exact hP9, hD9⟩, hS.F ht⟩) hS.2.2 dX3_bestFrom_77
    · have t8 : y6.toInt ≤ x7.toInt := (tnlt c8)
      refine lv_iload hx hb dX3_bestFrom_22 (lv_at hl 0 rfl) ?_
      refine lv_aload_n hx hb dX3_bestFrom_24 rfl (lv_at hl 5 rfl) ?_
      refine lv_iload_n hx hb dX3_bestFrom_25 rfl (lv_at hl 2 rfl) ?_
      refine va_iald hx hb hK hP 1 0 rfl rfl (vin (by decide) (by decide)) dX3_bestFrom_26 ?_
      refine lv_topi (fun x9 e9 => ?_)
      refine lv_imul hx hb dX3_bestFrom_27 ?_
      refine lv_topi (fun x10 e10 => ?_)
      refine lv_iload_n hx hb dX3_bestFrom_28 rfl (lv_at hl 3 rfl) ?_
      refine lv_icmp_gt (tgt := 75) hx hb dX3_bestFrom_29 (by decide) (fun c11 => ?_) (fun c11 => ?_)
      · have t11 : i1.toInt < x10.toInt := (tlt c11)
        refine lv_iload hx hb dX3_bestFrom_75 (lv_at hl 1 rfl) ?_
        have hP9 := mx_subP (wc := [(op, .inl (cI, 6, .inl ofp)), (oq, .inl (cI, 6, .inl ofq)), (ov, .inl (cI, 6, .inl ofv))]) hP [0, 1, 2] rfl
        have hD9 := hD.sub (ws' := [(op, .inl (cI, 6, .inl ofp)), (oq, .inl (cI, 6, .inl ofq)), (ov, .inl (cI, 6, .inl ofv))]) [0, 1, 2] (by decide) rfl
        exact W.iret (v := y5) hx hb hr (fun t ht hW => ⟨⟨y5, (), rfl, trivial, by rw [ht]; exact hP9, hD9⟩, hS.F ht⟩) hS.2.2 dX3_bestFrom_77
      · have t11 : x10.toInt ≤ i1.toInt := (tnlt c11)
        refine lv_iload_n hx hb dX3_bestFrom_32 rfl (lv_at hl 2 rfl) ?_
        refine lv_iconst (v := 1) hx hb dX3_bestFrom_33 (by decide) ?_
        refine lv_iadd hx hb dX3_bestFrom_34 ?_
        refine lv_topi (fun x12 e12 => ?_)
        obtain rfl : x12 = 2 := e12.trans (by decide)
        refine lv_iload_n hx hb dX3_bestFrom_35 rfl (lv_at hl 3 rfl) ?_
        refine lv_iload hx hb dX3_bestFrom_36 (lv_at hl 0 rfl) ?_
        refine lv_aload_n hx hb dX3_bestFrom_38 rfl (lv_at hl 5 rfl) ?_
        refine lv_iload_n hx hb dX3_bestFrom_39 rfl (lv_at hl 2 rfl) ?_
        refine va_iald hx hb hK hP 1 0 rfl rfl (vin (by decide) (by decide)) dX3_bestFrom_40 ?_
        refine lv_topi (fun x13 e13 => ?_)
        refine lv_imul hx hb dX3_bestFrom_41 ?_
        refine lv_topi (fun x14 e14 => ?_)
        refine lv_isub hx hb dX3_bestFrom_42 ?_
        refine lv_topi (fun x15 e15 => ?_)
        refine lv_aload_n hx hb dX3_bestFrom_43 rfl (lv_at hl 4 rfl) ?_
        refine lv_aload_n hx hb dX3_bestFrom_44 rfl (lv_at hl 5 rfl) ?_
        refine lv_aload hx hb dX3_bestFrom_45 (lv_at hl 6 rfl) ?_
        refine mx_i (wr := []) (va_runS (As := [.int 2, .int x15, .ref op, .ref oq, .ref ov]) (rest := []) ⟨hx, hb, hml, hown, hts⟩ (c_X3_bestFrom_2 l dC dI cI cZ cK tS aK aV x15 op oq ov ofp ofq ofv H.size h_ofp) (va_cwS 5 hts (gw_s (fun _ h9 => List.mem_cons_of_mem _ h9) wm_630 wm_631 wm_26 wm_632) rfl rfl rfl (by decide +kernel) ⟨Nat.le_of_ble_eq_true rfl, Nat.le_of_ble_eq_true rfl⟩) (mx_preS hKx hP hD hS hA [0, 1, 2] (by decide) rfl) rfl rfl hl.1 rfl (lv_room (Nat.le_of_ble_eq_true rfl)) dX3_bestFrom_47 ⟨Nat.le_of_ble_eq_true rfl, Nat.le_of_ble_eq_true rfl⟩) hP hD hS hA [0, 1, 2] [] rfl rfl (by decide) (by decide) (fun r16 u16 H locs hq16 hP hD hS => ?_)
        replace hP : va_P (dC, dI) vwCl [(op, .inl (cI, 6, .inl ofp)), (oq, .inl (cI, 6, .inl ofq)), (ov, .inl (cI, 6, .inl ofv))] H := hP
        replace hD : va_D A [(op, .inl (cI, 6, .inl ofp)), (oq, .inl (cI, 6, .inl ofq)), (ov, .inl (cI, 6, .inl ofv))] := hD
        refine lv_istore (lv' := [(7, .int r16), (6, .int y6), (5, .int y5), (0, .int 1), (1, .int i1), (2, .ref op), (3, .ref oq), (4, .ref ov)]) hx hb dX3_bestFrom_50 hl (by decide) rfl (fun ls hl => ?_)
        refine lv_iload hx hb dX3_bestFrom_52 (lv_at hl 2 rfl) ?_
        refine lv_iload hx hb dX3_bestFrom_54 (lv_at hl 1 rfl) ?_
        refine lv_aload hx hb dX3_bestFrom_56 (lv_at hl 7 rfl) ?_
        refine lv_iload_n hx hb dX3_bestFrom_58 rfl (lv_at hl 3 rfl) ?_
        refine va_iald hx hb hK hP 2 0 rfl rfl (vin (by decide) (by decide)) dX3_bestFrom_59 ?_
        refine lv_topi (fun x17 e17 => ?_)
        refine lv_imul hx hb dX3_bestFrom_60 ?_
        refine lv_topi (fun x18 e18 => ?_)
        refine lv_iload hx hb dX3_bestFrom_61 (lv_at hl 0 rfl) ?_
        refine lv_iadd hx hb dX3_bestFrom_63 ?_
        refine lv_topi (fun x19 e19 => ?_)
        refine va_mmax hx hb (hml.trans hl.1.symm) hown hw0 hw1 hw2 hw3 (Nat.le_of_ble_eq_true rfl) (Nat.le_of_ble_eq_true rfl) (Nat.le_of_ble_eq_true rfl) (Nat.le_of_ble_eq_true rfl) dX3_bestFrom_64 ?_
        refine lv_topi (fun x20 e20 => ?_)
        have f20 : x20.toInt ≥ y5.toInt ∧ x20.toInt ≥ x19.toInt ∧ (x20.toInt = y5.toInt ∨ x20.toInt = x19.toInt) := by rw [e20]; exact mmmax_t
        refine lv_istore (lv' := [(5, .int x20), (7, .int r16), (6, .int y6), (0, .int 1), (1, .int i1), (2, .ref op), (3, .ref oq), (4, .ref ov)]) hx hb dX3_bestFrom_67 hl (by decide) rfl (fun ls hl => ?_)
        obtain ⟨x21, e21⟩ : ∃ y : Int32, y = y6 + Int32.ofInt 1 := ⟨_, rfl⟩
        refine lv_iinc (v := x21) (lv' := [(6, .int x21), (5, .int x20), (7, .int r16), (0, .int 1), (1, .int i1), (2, .ref op), (3, .ref oq), (4, .ref ov)]) hx hb dX3_bestFrom_69 hl (k := 2) rfl e21.symm (by decide) rfl (fun ls hl => ?_)
        have f21 : x21.toInt = y6.toInt + 1 := by rw [e21]; exact tinc (by decide) (by have t8 := tb y6; omega) (by have t8 := tb y6; omega)
        refine lv_goto (tgt := 14) hx hb dX3_bestFrom_72 (by decide) ?_
        exact ih (H := H) (locs := locs) (ls := ls) (y5 := x20) (y6 := x21) hS (by omega)  (show lv_has ls 8 [(6, .int x21), (5, .int x20), (0, .int 1), (1, .int i1), (2, .ref op), (3, .ref oq), (4, .ref ov)] from lv_sub hl [0, 1, 3, 4, 5, 6, 7] rfl) (mx_subP (wc := [(op, .inl (cI, 6, .inl ofp)), (oq, .inl (cI, 6, .inl ofq)), (ov, .inl (cI, 6, .inl ofv))]) hP [0, 1, 2] rfl) (by omega)
set_option maxHeartbeats 4000000 in
set_option maxRecDepth 100000 in
theorem c_X3_bestFrom_0 (l : Launch) (dC : Nat → ClassId) (dI : Nat → Nat → Nat) (cI cZ cK : ClassId) (tS : Nat) (aK aV : Nat → Nat) (i1 : Int32) (op : Nat) (oq : Nat) (ov : Nat) (ofp : Nat → Int32) (ofq : Nat → Int32) (ofv : Nat → Int32) (sz : Nat) (h_ofp : rg ofp 6 0 9) : Ci l yX3_bestFrom (wq yX3_bestFrom cX3_bestFrom 8 (some .int)) ({ frames := 6, cells := 0, slots := 0, locals := 162 }) dC dI cI cZ cK tS aK aV [.int 0, .int i1, .ref op, .ref oq, .ref ov] sz [(op, .inl (cI, 6, .inl ofp)), (oq, .inl (cI, 6, .inl ofq)), (ov, .inl (cI, 6, .inl ofv))] (fun (r : Int32) (u : Unit) => True) (fun _ => [(op, .inl (cI, 6, .inl ofp)), (oq, .inl (cI, 6, .inl ofq)), (ov, .inl (cI, 6, .inl ofv))]) := by
  refine Met.ofW (cc := cX3_bestFrom) (maxL := 8) (ret := (some .int)) (by decide) rfl ?_
  intro p e s m args below meth c s₁ B hml hv
  obtain ⟨rfl, hsz, hP, hKx, hD0⟩ := hv
  have hx := B.exec
  have hb := B.bytes
  have hr := B.returns
  have hts := atoms_spec (ws := wq yX3_bestFrom cX3_bestFrom 8 (some .int)) B.pre
  have hown : s.vm.findClass RX3 = some m.cls := findClass_of_methodNamed B.named
  have hlocks := B.notSynchronized
  subst hsz
  have hD := hD0.self (sz := s.heap.size)
  generalize hAe : va_A [(op, .inl (cI, 6, .inl ofp)), (oq, .inl (cI, 6, .inl ofq)), (ov, .inl (cI, 6, .inl ofv))] s.heap.size = A at hD hKx ⊢
  have hA : ∀ q : Nat, s.heap.size ≤ q → A q := fun q h => by rw [← hAe]; exact Or.inr h
  have hS : va_S A s.heap s.heap [] := va_S.rf
  have hP : va_P (dC, dI) vwCl [(op, .inl (cI, 6, .inl ofp)), (oq, .inl (cI, 6, .inl ofq)), (ov, .inl (cI, 6, .inl ofv))] s.heap := hP
  have hl := lv_entry ([.int 0, .int i1, .ref op, .ref oq, .ref ov]) (n := 8) (Nat.le_of_ble_eq_true rfl)
  rw [lg_entry_eq]
  generalize (lg_sl ([.int 0, .int i1, .ref op, .ref oq, .ref ov]) ++ List.replicate (8 - (lg_sl ([.int 0, .int i1, .ref op, .ref oq, .ref ov])).length) Slot.unset).toArray = ls at hl ⊢
  have hl : lv_has ls 8 [(0, .int 0), (1, .int i1), (2, .ref op), (3, .ref oq), (4, .ref ov)] := hl
  have hK := hKx.1
  have hw0 := hts (.methodLink RX3 52 Lib.Math.max.name) (List.mem_cons_of_mem _ wm_598)
  have hw1 := hts (.static Lib.Math.max.name) (List.mem_cons_of_mem _ wm_271)
  have hw2 := hts (.initialized "java/lang/Math") (List.mem_cons_of_mem _ wm_272)
  have hw3 := hts (.code Lib.Math.max.name Lib.Math.max.code 2 (some .int)) (List.mem_cons_of_mem _ wm_273)
  refine lv_iload_n hx hb dX3_bestFrom_0 rfl (lv_at hl 0 rfl) ?_
  refine lv_bipush (v := 6) hx hb dX3_bestFrom_1 (by decide) ?_
  refine lv_icmp_lt (tgt := 8) hx hb dX3_bestFrom_3 (by decide) (fun c1 => ?_) (fun c1 => absurd c1 (by decide))
  refine lv_iconst (v := 0) hx hb dX3_bestFrom_8 (by decide) ?_
  refine lv_istore (lv' := [(5, .int 0), (0, .int 0), (1, .int i1), (2, .ref op), (3, .ref oq), (4, .ref ov)]) hx hb dX3_bestFrom_9 hl (by decide) rfl (fun ls hl => ?_)
  refine lv_iconst (v := 0) hx hb dX3_bestFrom_11 (by decide) ?_
  refine lv_istore (lv' := [(6, .int 0), (5, .int 0), (0, .int 0), (1, .int i1), (2, .ref op), (3, .ref oq), (4, .ref ov)]) hx hb dX3_bestFrom_12 hl (by decide) rfl (fun ls hl => ?_)
  have z3 : (0 : Int32).toInt = 0 := rfl
  have z4 : (0 : Int32).toInt = 0 := rfl
  have hl0 := hl
  clear hl
  obtain ⟨H, hHe⟩ : ∃ H : Heap, H = s.heap := ⟨_, rfl⟩
  obtain ⟨locs, hlo⟩ : ∃ l : List Loc, l = [] := ⟨_, rfl⟩
  replace hP : va_P (dC, dI) vwCl [(op, .inl (cI, 6, .inl ofp)), (oq, .inl (cI, 6, .inl ofq)), (ov, .inl (cI, 6, .inl ofv))] H := by rw [hHe]; exact hP
  replace hS : va_S A s.heap H locs := by rw [hHe, hlo]; exact hS
  rw [← hHe, ← hlo]
  clear hHe hlo
  have hP0 := hP
  clear hP
  have hD0 := hD
  clear hD
  obtain ⟨y5, y6, ex, hl, hP, hD⟩ : ∃ (y5 y6 : Int32), (0 ≤ y6.toInt ∧ y6.toInt ≤ 10) ∧ lv_has ls 8 [(6, .int y6), (5, .int y5), (0, .int 0), (1, .int i1), (2, .ref op), (3, .ref oq), (4, .ref ov)] ∧ va_P (dC, dI) vwCl [(op, .inl (cI, 6, .inl ofp)), (oq, .inl (cI, 6, .inl ofq)), (ov, .inl (cI, 6, .inl ofv))] H ∧ va_D A [(op, .inl (cI, 6, .inl ofp)), (oq, .inl (cI, 6, .inl ofq)), (ov, .inl (cI, 6, .inl ofv))] := ⟨0, 0, by omega, hl0, hP0, hD0⟩
  clear hl0 hP0 hD0
  obtain ⟨n2, hn⟩ : ∃ n : Nat, (n : Int) = 10 - y6.toInt := ⟨(10 - y6.toInt).toNat, by omega⟩
  induction n2 generalizing y5 y6 ls H locs with
  | zero =>
    skip
    refine lv_iload hx hb dX3_bestFrom_14 (lv_at hl 0 rfl) ?_
    refine lv_aload_n hx hb dX3_bestFrom_16 rfl (lv_at hl 4 rfl) ?_
    refine lv_iload_n hx hb dX3_bestFrom_17 rfl (lv_at hl 2 rfl) ?_
    refine va_iald hx hb hK hP 0 0 rfl rfl (vin (by decide) (by decide)) dX3_bestFrom_18 ?_
    refine lv_topi (fun x5 e5 => ?_)
    have g5 : 0 ≤ x5.toInt ∧ x5.toInt ≤ 9 := by rw [e5]; exact h_ofp _ (by decide)
    refine lv_icmp_gt (tgt := 75) hx hb dX3_bestFrom_19 (by decide) (fun c6 => ?_) (fun c6 => by exfalso; have t6 : y6.toInt ≤ x5.toInt := (tnlt c6); omega)
    refine lv_iload hx hb dX3_bestFrom_75 (lv_at hl 1 rfl) ?_
    have hP9 := mx_subP (wc := [(op, .inl (cI, 6, .inl ofp)), (oq, .inl (cI, 6, .inl ofq)), (ov, .inl (cI, 6, .inl ofv))]) hP [0, 1, 2] rfl
    have hD9 := hD.sub (ws' := [(op, .inl (cI, 6, .inl ofp)), (oq, .inl (cI, 6, .inl ofq)), (ov, .inl (cI, 6, .inl ofv))]) [0, 1, 2] (by decide) rfl
    exact W.iret (v := y5) hx hb hr (fun t ht hW => ⟨⟨y5, (), rfl, trivial, by rw [ht]; exact hP9, hD9⟩, hS.F ht⟩) hS.2.2 dX3_bestFrom_77
  | succ n2 ih =>
    skip
    refine lv_iload hx hb dX3_bestFrom_14 (lv_at hl 0 rfl) ?_
    refine lv_aload_n hx hb dX3_bestFrom_16 rfl (lv_at hl 4 rfl) ?_
    refine lv_iload_n hx hb dX3_bestFrom_17 rfl (lv_at hl 2 rfl) ?_
    refine va_iald hx hb hK hP 0 0 rfl rfl (vin (by decide) (by decide)) dX3_bestFrom_18 ?_
    refine lv_topi (fun x7 e7 => ?_)
    have g7 : 0 ≤ x7.toInt ∧ x7.toInt ≤ 9 := by rw [e7]; exact h_ofp _ (by decide)
    refine lv_icmp_gt (tgt := 75) hx hb dX3_bestFrom_19 (by decide) (fun c8 => ?_) (fun c8 => ?_)
    · have t8 : x7.toInt < y6.toInt := (tlt c8)
      refine lv_iload hx hb dX3_bestFrom_75 (lv_at hl 1 rfl) ?_
      have hP9 := mx_subP (wc := [(op, .inl (cI, 6, .inl ofp)), (oq, .inl (cI, 6, .inl ofq)), (ov, .inl (cI, 6, .inl ofv))]) hP [0, 1, 2] rfl
      have hD9 := hD.sub (ws' := [(op, .inl (cI, 6, .inl ofp)), (oq, .inl (cI, 6, .inl ofq)), (ov, .inl (cI, 6, .inl ofv))]) [0, 1, 2] (by decide) rfl
      exact W.iret (v := y5) hx hb hr (fun t ht hW => ⟨⟨y5, (), rfl, trivial, by rw [ht]; exact hP9, hD9⟩, hS.F ht⟩) hS.2.2 dX3_bestFrom_77
    · have t8 : y6.toInt ≤ x7.toInt := (tnlt c8)
      refine lv_iload hx hb dX3_bestFrom_22 (lv_at hl 0 rfl) ?_
      refine lv_aload_n hx hb dX3_bestFrom_24 rfl (lv_at hl 5 rfl) ?_
      refine lv_iload_n hx hb dX3_bestFrom_25 rfl (lv_at hl 2 rfl) ?_
      refine va_iald hx hb hK hP 1 0 rfl rfl (vin (by decide) (by decide)) dX3_bestFrom_26 ?_
      refine lv_topi (fun x9 e9 => ?_)
      refine lv_imul hx hb dX3_bestFrom_27 ?_
      refine lv_topi (fun x10 e10 => ?_)
      refine lv_iload_n hx hb dX3_bestFrom_28 rfl (lv_at hl 3 rfl) ?_
      refine lv_icmp_gt (tgt := 75) hx hb dX3_bestFrom_29 (by decide) (fun c11 => ?_) (fun c11 => ?_)
      · have t11 : i1.toInt < x10.toInt := (tlt c11)
        refine lv_iload hx hb dX3_bestFrom_75 (lv_at hl 1 rfl) ?_
        have hP9 := mx_subP (wc := [(op, .inl (cI, 6, .inl ofp)), (oq, .inl (cI, 6, .inl ofq)), (ov, .inl (cI, 6, .inl ofv))]) hP [0, 1, 2] rfl
        have hD9 := hD.sub (ws' := [(op, .inl (cI, 6, .inl ofp)), (oq, .inl (cI, 6, .inl ofq)), (ov, .inl (cI, 6, .inl ofv))]) [0, 1, 2] (by decide) rfl
        exact W.iret (v := y5) hx hb hr (fun t ht hW => ⟨⟨y5, (), rfl, trivial, by rw [ht]; exact hP9, hD9⟩, hS.F ht⟩) hS.2.2 dX3_bestFrom_77
      · have t11 : x10.toInt ≤ i1.toInt := (tnlt c11)
        refine lv_iload_n hx hb dX3_bestFrom_32 rfl (lv_at hl 2 rfl) ?_
        refine lv_iconst (v := 1) hx hb dX3_bestFrom_33 (by decide) ?_
        refine lv_iadd hx hb dX3_bestFrom_34 ?_
        refine lv_topi (fun x12 e12 => ?_)
        obtain rfl : x12 = 1 := e12.trans (by decide)
        refine lv_iload_n hx hb dX3_bestFrom_35 rfl (lv_at hl 3 rfl) ?_
        refine lv_iload hx hb dX3_bestFrom_36 (lv_at hl 0 rfl) ?_
        refine lv_aload_n hx hb dX3_bestFrom_38 rfl (lv_at hl 5 rfl) ?_
        refine lv_iload_n hx hb dX3_bestFrom_39 rfl (lv_at hl 2 rfl) ?_
        refine va_iald hx hb hK hP 1 0 rfl rfl (vin (by decide) (by decide)) dX3_bestFrom_40 ?_
        refine lv_topi (fun x13 e13 => ?_)
        refine lv_imul hx hb dX3_bestFrom_41 ?_
        refine lv_topi (fun x14 e14 => ?_)
        refine lv_isub hx hb dX3_bestFrom_42 ?_
        refine lv_topi (fun x15 e15 => ?_)
        refine lv_aload_n hx hb dX3_bestFrom_43 rfl (lv_at hl 4 rfl) ?_
        refine lv_aload_n hx hb dX3_bestFrom_44 rfl (lv_at hl 5 rfl) ?_
        refine lv_aload hx hb dX3_bestFrom_45 (lv_at hl 6 rfl) ?_
        refine mx_i (wr := []) (va_runS (As := [.int 1, .int x15, .ref op, .ref oq, .ref ov]) (rest := []) ⟨hx, hb, hml, hown, hts⟩ (c_X3_bestFrom_1 l dC dI cI cZ cK tS aK aV x15 op oq ov ofp ofq ofv H.size h_ofp) (va_cwS 5 hts (gw_s (fun _ h9 => List.mem_cons_of_mem _ h9) wm_630 wm_631 wm_26 wm_632) rfl rfl rfl (by decide +kernel) ⟨Nat.le_of_ble_eq_true rfl, Nat.le_of_ble_eq_true rfl⟩) (mx_preS hKx hP hD hS hA [0, 1, 2] (by decide) rfl) rfl rfl hl.1 rfl (lv_room (Nat.le_of_ble_eq_true rfl)) dX3_bestFrom_47 ⟨Nat.le_of_ble_eq_true rfl, Nat.le_of_ble_eq_true rfl⟩) hP hD hS hA [0, 1, 2] [] rfl rfl (by decide) (by decide) (fun r16 u16 H locs hq16 hP hD hS => ?_)
        replace hP : va_P (dC, dI) vwCl [(op, .inl (cI, 6, .inl ofp)), (oq, .inl (cI, 6, .inl ofq)), (ov, .inl (cI, 6, .inl ofv))] H := hP
        replace hD : va_D A [(op, .inl (cI, 6, .inl ofp)), (oq, .inl (cI, 6, .inl ofq)), (ov, .inl (cI, 6, .inl ofv))] := hD
        refine lv_istore (lv' := [(7, .int r16), (6, .int y6), (5, .int y5), (0, .int 0), (1, .int i1), (2, .ref op), (3, .ref oq), (4, .ref ov)]) hx hb dX3_bestFrom_50 hl (by decide) rfl (fun ls hl => ?_)
        refine lv_iload hx hb dX3_bestFrom_52 (lv_at hl 2 rfl) ?_
        refine lv_iload hx hb dX3_bestFrom_54 (lv_at hl 1 rfl) ?_
        refine lv_aload hx hb dX3_bestFrom_56 (lv_at hl 7 rfl) ?_
        refine lv_iload_n hx hb dX3_bestFrom_58 rfl (lv_at hl 3 rfl) ?_
        refine va_iald hx hb hK hP 2 0 rfl rfl (vin (by decide) (by decide)) dX3_bestFrom_59 ?_
        refine lv_topi (fun x17 e17 => ?_)
        refine lv_imul hx hb dX3_bestFrom_60 ?_
        refine lv_topi (fun x18 e18 => ?_)
        refine lv_iload hx hb dX3_bestFrom_61 (lv_at hl 0 rfl) ?_
        refine lv_iadd hx hb dX3_bestFrom_63 ?_
        refine lv_topi (fun x19 e19 => ?_)
        refine va_mmax hx hb (hml.trans hl.1.symm) hown hw0 hw1 hw2 hw3 (Nat.le_of_ble_eq_true rfl) (Nat.le_of_ble_eq_true rfl) (Nat.le_of_ble_eq_true rfl) (Nat.le_of_ble_eq_true rfl) dX3_bestFrom_64 ?_
        refine lv_topi (fun x20 e20 => ?_)
        have f20 : x20.toInt ≥ y5.toInt ∧ x20.toInt ≥ x19.toInt ∧ (x20.toInt = y5.toInt ∨ x20.toInt = x19.toInt) := by rw [e20]; exact mmmax_t
        refine lv_istore (lv' := [(5, .int x20), (7, .int r16), (6, .int y6), (0, .int 0), (1, .int i1), (2, .ref op), (3, .ref oq), (4, .ref ov)]) hx hb dX3_bestFrom_67 hl (by decide) rfl (fun ls hl => ?_)
        obtain ⟨x21, e21⟩ : ∃ y : Int32, y = y6 + Int32.ofInt 1 := ⟨_, rfl⟩
        refine lv_iinc (v := x21) (lv' := [(6, .int x21), (5, .int x20), (7, .int r16), (0, .int 0), (1, .int i1), (2, .ref op), (3, .ref oq), (4, .ref ov)]) hx hb dX3_bestFrom_69 hl (k := 2) rfl e21.symm (by decide) rfl (fun ls hl => ?_)
        have f21 : x21.toInt = y6.toInt + 1 := by rw [e21]; exact tinc (by decide) (by have t8 := tb y6; omega) (by have t8 := tb y6; omega)
        refine lv_goto (tgt := 14) hx hb dX3_bestFrom_72 (by decide) ?_
        exact ih (H := H) (locs := locs) (ls := ls) (y5 := x20) (y6 := x21) hS (by omega)  (show lv_has ls 8 [(6, .int x21), (5, .int x20), (0, .int 0), (1, .int i1), (2, .ref op), (3, .ref oq), (4, .ref ov)] from lv_sub hl [0, 1, 3, 4, 5, 6, 7] rfl) (mx_subP (wc := [(op, .inl (cI, 6, .inl ofp)), (oq, .inl (cI, 6, .inl ofq)), (ov, .inl (cI, 6, .inl ofv))]) hP [0, 1, 2] rfl) (by omega)
