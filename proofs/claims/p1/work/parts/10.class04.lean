set_option maxHeartbeats 4000000 in
set_option maxRecDepth 100000 in
theorem c_X3_bestFrom_6 (l : Launch) (dC : Nat → ClassId) (dI : Nat → Nat → Nat) (cI cZ cK : ClassId) (tS aK aV : Nat) (op : Nat) (oq : Nat) (ov : Nat) (fq : Nat → Int32) (fv : Nat → Int32) (sz : Nat) : Ci l yX3_bestFrom (wq yX3_bestFrom cX3_bestFrom 8 (some .int)) ({ frames := 0, cells := 0, slots := 0, locals := 0 }) dC dI cI cZ cK tS aK aV [.int 6, .int 800, .ref op, .ref oq, .ref ov] sz [(op, .inl (cI, 6, .inl (upd (upd (upd (upd (upd (upd (fun _ => 0) 5 0) 4 0) 3 0) 2 0) 1 0) 0 0))), (oq, .inl (cI, 6, .inl fq)), (ov, .inl (cI, 6, .inl fv))] (fun (r : Int32) (_ : Unit) => r = 0) (fun _ => [(op, .inl (cI, 6, .inl (upd (upd (upd (upd (upd (upd (fun _ => 0) 5 0) 4 0) 3 0) 2 0) 1 0) 0 0))), (oq, .inl (cI, 6, .inl fq)), (ov, .inl (cI, 6, .inl fv))]) := by
  refine Met.ofW (cc := cX3_bestFrom) (maxL := 8) (ret := (some .int)) (by decide) rfl ?_
  intro p e s m args below meth c s₁ B hml hv
  obtain ⟨rfl, hsz, hP, hKx, hD0⟩ := hv
  have hx := B.exec
  have hb := B.bytes
  have hr := B.returns
  have hts := atoms_spec (ws := wq yX3_bestFrom cX3_bestFrom 8 (some .int)) B.pre
  have hown : s.vm.findClass RX3 = some m.cls := findClass_of_methodNamed B.named
  have hlocks := B.notSynchronized
  subst hsz
  have hD := hD0.self (sz := s.heap.size)
  generalize hAe : va_A [(op, .inl (cI, 6, .inl (upd (upd (upd (upd (upd (upd (fun _ => 0) 5 0) 4 0) 3 0) 2 0) 1 0) 0 0))), (oq, .inl (cI, 6, .inl fq)), (ov, .inl (cI, 6, .inl fv))] s.heap.size = A at hD hKx ⊢
  have hA : ∀ q : Nat, s.heap.size ≤ q → A q := fun q h => by rw [← hAe]; exact Or.inr h
  have hS : va_S A s.heap s.heap [] := va_S.rf
  have hP : va_P (dC, dI) vwCl [(op, .inl (cI, 6, .inl (upd (upd (upd (upd (upd (upd (fun _ => 0) 5 0) 4 0) 3 0) 2 0) 1 0) 0 0))), (oq, .inl (cI, 6, .inl fq)), (ov, .inl (cI, 6, .inl fv))] s.heap := hP
  have hl := lv_entry ([.int 6, .int 800, .ref op, .ref oq, .ref ov]) (n := 8) (Nat.le_of_ble_eq_true rfl)
  rw [lg_entry_eq]
  generalize (lg_sl ([.int 6, .int 800, .ref op, .ref oq, .ref ov]) ++ List.replicate (8 - (lg_sl ([.int 6, .int 800, .ref op, .ref oq, .ref ov])).length) Slot.unset).toArray = ls at hl ⊢
  have hl : lv_has ls 8 [(0, .int 6), (1, .int 800), (2, .ref op), (3, .ref oq), (4, .ref ov)] := hl
  have hK := hKx.1
  refine lv_iload_n hx hb dX3_bestFrom_0 rfl (lv_at hl 0 rfl) ?_
  refine lv_bipush (v := 6) hx hb dX3_bestFrom_1 (by decide) ?_
  refine lv_icmp_lt (tgt := 8) hx hb dX3_bestFrom_3 (by decide) (fun c1 => absurd c1 (by decide)) (fun c1 => ?_)
  refine lv_iconst (v := 0) hx hb dX3_bestFrom_6 (by decide) ?_
  have hP9 := mx_subP (wc := [(op, .inl (cI, 6, .inl (upd (upd (upd (upd (upd (upd (fun _ => 0) 5 0) 4 0) 3 0) 2 0) 1 0) 0 0))), (oq, .inl (cI, 6, .inl fq)), (ov, .inl (cI, 6, .inl fv))]) hP [0, 1, 2] rfl
  have hD9 := hD.sub (ws' := [(op, .inl (cI, 6, .inl (upd (upd (upd (upd (upd (upd (fun _ => 0) 5 0) 4 0) 3 0) 2 0) 1 0) 0 0))), (oq, .inl (cI, 6, .inl fq)), (ov, .inl (cI, 6, .inl fv))]) [0, 1, 2] (by decide) rfl
  exact W.iret (v := 0) hx hb hr (fun t ht hW => ⟨⟨0, (), rfl, rfl, by rw [ht]; exact hP9, hD9⟩, hS.F ht⟩) hS.2.2 dX3_bestFrom_7
set_option maxHeartbeats 4000000 in
set_option maxRecDepth 100000 in
theorem c_X3_bestFrom_5 (l : Launch) (dC : Nat → ClassId) (dI : Nat → Nat → Nat) (cI cZ cK : ClassId) (tS aK aV : Nat) (op : Nat) (oq : Nat) (ov : Nat) (fq : Nat → Int32) (fv : Nat → Int32) (sz : Nat) : Ci l yX3_bestFrom (wq yX3_bestFrom cX3_bestFrom 8 (some .int)) ({ frames := 1, cells := 0, slots := 0, locals := 27 }) dC dI cI cZ cK tS aK aV [.int 5, .int 800, .ref op, .ref oq, .ref ov] sz [(op, .inl (cI, 6, .inl (upd (upd (upd (upd (upd (upd (fun _ => 0) 5 0) 4 0) 3 0) 2 0) 1 0) 0 0))), (oq, .inl (cI, 6, .inl fq)), (ov, .inl (cI, 6, .inl fv))] (fun (r : Int32) (_ : Unit) => r = 0) (fun _ => [(op, .inl (cI, 6, .inl (upd (upd (upd (upd (upd (upd (fun _ => 0) 5 0) 4 0) 3 0) 2 0) 1 0) 0 0))), (oq, .inl (cI, 6, .inl fq)), (ov, .inl (cI, 6, .inl fv))]) := by
  refine Met.ofW (cc := cX3_bestFrom) (maxL := 8) (ret := (some .int)) (by decide) rfl ?_
  intro p e s m args below meth c s₁ B hml hv
  obtain ⟨rfl, hsz, hP, hKx, hD0⟩ := hv
  have hx := B.exec
  have hb := B.bytes
  have hr := B.returns
  have hts := atoms_spec (ws := wq yX3_bestFrom cX3_bestFrom 8 (some .int)) B.pre
  have hown : s.vm.findClass RX3 = some m.cls := findClass_of_methodNamed B.named
  have hlocks := B.notSynchronized
  subst hsz
  have hD := hD0.self (sz := s.heap.size)
  generalize hAe : va_A [(op, .inl (cI, 6, .inl (upd (upd (upd (upd (upd (upd (fun _ => 0) 5 0) 4 0) 3 0) 2 0) 1 0) 0 0))), (oq, .inl (cI, 6, .inl fq)), (ov, .inl (cI, 6, .inl fv))] s.heap.size = A at hD hKx ⊢
  have hA : ∀ q : Nat, s.heap.size ≤ q → A q := fun q h => by rw [← hAe]; exact Or.inr h
  have hS : va_S A s.heap s.heap [] := va_S.rf
  have hP : va_P (dC, dI) vwCl [(op, .inl (cI, 6, .inl (upd (upd (upd (upd (upd (upd (fun _ => 0) 5 0) 4 0) 3 0) 2 0) 1 0) 0 0))), (oq, .inl (cI, 6, .inl fq)), (ov, .inl (cI, 6, .inl fv))] s.heap := hP
  have hl := lv_entry ([.int 5, .int 800, .ref op, .ref oq, .ref ov]) (n := 8) (Nat.le_of_ble_eq_true rfl)
  rw [lg_entry_eq]
  generalize (lg_sl ([.int 5, .int 800, .ref op, .ref oq, .ref ov]) ++ List.replicate (8 - (lg_sl ([.int 5, .int 800, .ref op, .ref oq, .ref ov])).length) Slot.unset).toArray = ls at hl ⊢
  have hl : lv_has ls 8 [(0, .int 5), (1, .int 800), (2, .ref op), (3, .ref oq), (4, .ref ov)] := hl
  have hK := hKx.1
  have hw0 := hts (.methodLink RX3 52 Lib.Math.max.name) (List.mem_cons_of_mem _ wm_164)
  have hw1 := hts (.static Lib.Math.max.name) (List.mem_cons_of_mem _ wm_165)
  have hw2 := hts (.initialized "java/lang/Math") (List.mem_cons_of_mem _ wm_15)
  have hw3 := hts (.code Lib.Math.max.name Lib.Math.max.code 2 (some .int)) (List.mem_cons_of_mem _ wm_166)
  refine lv_iload_n hx hb dX3_bestFrom_0 rfl (lv_at hl 0 rfl) ?_
  refine lv_bipush (v := 6) hx hb dX3_bestFrom_1 (by decide) ?_
  refine lv_icmp_lt (tgt := 8) hx hb dX3_bestFrom_3 (by decide) (fun c1 => ?_) (fun c1 => absurd c1 (by decide))
  refine lv_iconst (v := 0) hx hb dX3_bestFrom_8 (by decide) ?_
  refine lv_istore (lv' := [(5, .int 0), (0, .int 5), (1, .int 800), (2, .ref op), (3, .ref oq), (4, .ref ov)]) hx hb dX3_bestFrom_9 hl (by decide) rfl (fun ls hl => ?_)
  refine lv_iconst (v := 0) hx hb dX3_bestFrom_11 (by decide) ?_
  refine lv_istore (lv' := [(6, .int 0), (5, .int 0), (0, .int 5), (1, .int 800), (2, .ref op), (3, .ref oq), (4, .ref ov)]) hx hb dX3_bestFrom_12 hl (by decide) rfl (fun ls hl => ?_)
  refine lv_iload hx hb dX3_bestFrom_14 (lv_at hl 0 rfl) ?_
  refine lv_aload_n hx hb dX3_bestFrom_16 rfl (lv_at hl 4 rfl) ?_
  refine lv_iload_n hx hb dX3_bestFrom_17 rfl (lv_at hl 2 rfl) ?_
  refine va_iald hx hb hK hP 0 0 rfl rfl (vin (by decide) (by decide)) dX3_bestFrom_18 ?_
  refine lv_topi (fun x2 e2 => ?_)
  obtain rfl : x2 = 0 := e2.trans (by first | rfl | decide)
  refine lv_icmp_gt (tgt := 75) hx hb dX3_bestFrom_19 (by decide) (fun c3 => absurd c3 (by decide)) (fun c3 => ?_)
  refine lv_iload hx hb dX3_bestFrom_22 (lv_at hl 0 rfl) ?_
  refine lv_aload_n hx hb dX3_bestFrom_24 rfl (lv_at hl 5 rfl) ?_
  refine lv_iload_n hx hb dX3_bestFrom_25 rfl (lv_at hl 2 rfl) ?_
  refine va_iald hx hb hK hP 1 0 rfl rfl (vin (by decide) (by decide)) dX3_bestFrom_26 ?_
  refine lv_topi (fun x4 e4 => ?_)
  refine lv_imul hx hb dX3_bestFrom_27 ?_
  refine lv_topi (fun x5 e5 => ?_)
  obtain rfl : x5 = 0 := e5.trans (by simp)
  refine lv_iload_n hx hb dX3_bestFrom_28 rfl (lv_at hl 3 rfl) ?_
  refine lv_icmp_gt (tgt := 75) hx hb dX3_bestFrom_29 (by decide) (fun c6 => absurd c6 (by decide)) (fun c6 => ?_)
  refine lv_iload_n hx hb dX3_bestFrom_32 rfl (lv_at hl 2 rfl) ?_
  refine lv_iconst (v := 1) hx hb dX3_bestFrom_33 (by decide) ?_
  refine lv_iadd hx hb dX3_bestFrom_34 ?_
  refine lv_topi (fun x7 e7 => ?_)
  obtain rfl : x7 = 6 := e7.trans (by decide)
  refine lv_iload_n hx hb dX3_bestFrom_35 rfl (lv_at hl 3 rfl) ?_
  refine lv_iload hx hb dX3_bestFrom_36 (lv_at hl 0 rfl) ?_
  refine lv_aload_n hx hb dX3_bestFrom_38 rfl (lv_at hl 5 rfl) ?_
  refine lv_iload_n hx hb dX3_bestFrom_39 rfl (lv_at hl 2 rfl) ?_
  refine va_iald hx hb hK hP 1 0 rfl rfl (vin (by decide) (by decide)) dX3_bestFrom_40 ?_
  refine lv_topi (fun x8 e8 => ?_)
  refine lv_imul hx hb dX3_bestFrom_41 ?_
  refine lv_topi (fun x9 e9 => ?_)
  obtain rfl : x9 = 0 := e9.trans (by simp)
  refine lv_isub hx hb dX3_bestFrom_42 ?_
  refine lv_topi (fun x10 e10 => ?_)
  obtain rfl : x10 = 800 := e10.trans (by decide)
  refine lv_aload_n hx hb dX3_bestFrom_43 rfl (lv_at hl 4 rfl) ?_
  refine lv_aload_n hx hb dX3_bestFrom_44 rfl (lv_at hl 5 rfl) ?_
  refine lv_aload hx hb dX3_bestFrom_45 (lv_at hl 6 rfl) ?_
  refine mx_i (wr := []) (va_runS (As := [.int 6, .int 800, .ref op, .ref oq, .ref ov]) (rest := []) ⟨hx, hb, hml, hown, hts⟩ (c_X3_bestFrom_6 l dC dI cI cZ cK tS aK aV op oq ov fq fv s.heap.size) (va_cwS 5 hts (gw_s (fun _ h9 => List.mem_cons_of_mem _ h9) wm_161 wm_162 wm_146 wm_163) rfl rfl rfl (by decide +kernel) ⟨Nat.le_of_ble_eq_true rfl, Nat.le_of_ble_eq_true rfl⟩) (mx_preS hKx hP hD hS hA [0, 1, 2] (by decide) rfl) rfl rfl hl.1 rfl (lv_room (Nat.le_of_ble_eq_true rfl)) dX3_bestFrom_47 ⟨Nat.le_of_ble_eq_true rfl, Nat.le_of_ble_eq_true rfl⟩) hP hD hS hA [0, 1, 2] [] rfl rfl (by decide) (by decide) (fun r11 u11 H locs hq11 hP hD hS => ?_)
  replace hP : va_P (dC, dI) vwCl [(op, .inl (cI, 6, .inl (upd (upd (upd (upd (upd (upd (fun _ => 0) 5 0) 4 0) 3 0) 2 0) 1 0) 0 0))), (oq, .inl (cI, 6, .inl fq)), (ov, .inl (cI, 6, .inl fv))] H := hP
  replace hD : va_D A [(op, .inl (cI, 6, .inl (upd (upd (upd (upd (upd (upd (fun _ => 0) 5 0) 4 0) 3 0) 2 0) 1 0) 0 0))), (oq, .inl (cI, 6, .inl fq)), (ov, .inl (cI, 6, .inl fv))] := hD
  obtain rfl : r11 = 0 := hq11
  refine lv_istore (lv' := [(7, .int 0), (6, .int 0), (5, .int 0), (0, .int 5), (1, .int 800), (2, .ref op), (3, .ref oq), (4, .ref ov)]) hx hb dX3_bestFrom_50 hl (by decide) rfl (fun ls hl => ?_)
  refine lv_iload hx hb dX3_bestFrom_52 (lv_at hl 2 rfl) ?_
  refine lv_iload hx hb dX3_bestFrom_54 (lv_at hl 1 rfl) ?_
  refine lv_aload hx hb dX3_bestFrom_56 (lv_at hl 7 rfl) ?_
  refine lv_iload_n hx hb dX3_bestFrom_58 rfl (lv_at hl 3 rfl) ?_
  refine va_iald hx hb hK hP 2 0 rfl rfl (vin (by decide) (by decide)) dX3_bestFrom_59 ?_
  refine lv_topi (fun x12 e12 => ?_)
  refine lv_imul hx hb dX3_bestFrom_60 ?_
  refine lv_topi (fun x13 e13 => ?_)
  obtain rfl : x13 = 0 := e13.trans (by simp)
  refine lv_iload hx hb dX3_bestFrom_61 (lv_at hl 0 rfl) ?_
  refine lv_iadd hx hb dX3_bestFrom_63 ?_
  refine lv_topi (fun x14 e14 => ?_)
  obtain rfl : x14 = 0 := e14.trans (by decide)
  refine va_mmax hx hb (hml.trans hl.1.symm) hown hw0 hw1 hw2 hw3 (Nat.le_of_ble_eq_true rfl) (Nat.le_of_ble_eq_true rfl) (Nat.le_of_ble_eq_true rfl) (Nat.le_of_ble_eq_true rfl) dX3_bestFrom_64 ?_
  refine lv_topi (fun x15 e15 => ?_)
  obtain rfl : x15 = 0 := e15.trans (by decide)
  refine lv_istore (lv' := [(5, .int 0), (7, .int 0), (6, .int 0), (0, .int 5), (1, .int 800), (2, .ref op), (3, .ref oq), (4, .ref ov)]) hx hb dX3_bestFrom_67 hl (by decide) rfl (fun ls hl => ?_)
  refine lv_iinc (v := 1) (lv' := [(6, .int 1), (5, .int 0), (7, .int 0), (0, .int 5), (1, .int 800), (2, .ref op), (3, .ref oq), (4, .ref ov)]) hx hb dX3_bestFrom_69 hl (k := 2) rfl (by decide) (by decide) rfl (fun ls hl => ?_)
  refine lv_goto (tgt := 14) hx hb dX3_bestFrom_72 (by decide) ?_
  refine lv_iload hx hb dX3_bestFrom_14 (lv_at hl 0 rfl) ?_
  refine lv_aload_n hx hb dX3_bestFrom_16 rfl (lv_at hl 5 rfl) ?_
  refine lv_iload_n hx hb dX3_bestFrom_17 rfl (lv_at hl 3 rfl) ?_
  refine va_iald hx hb hK hP 0 0 rfl rfl (vin (by decide) (by decide)) dX3_bestFrom_18 ?_
  refine lv_topi (fun x16 e16 => ?_)
  obtain rfl : x16 = 0 := e16.trans (by first | rfl | decide)
  refine lv_icmp_gt (tgt := 75) hx hb dX3_bestFrom_19 (by decide) (fun c17 => ?_) (fun c17 => absurd c17 (by decide))
  refine lv_iload hx hb dX3_bestFrom_75 (lv_at hl 1 rfl) ?_
  have hP9 := mx_subP (wc := [(op, .inl (cI, 6, .inl (upd (upd (upd (upd (upd (upd (fun _ => 0) 5 0) 4 0) 3 0) 2 0) 1 0) 0 0))), (oq, .inl (cI, 6, .inl fq)), (ov, .inl (cI, 6, .inl fv))]) hP [0, 1, 2] rfl
  have hD9 := hD.sub (ws' := [(op, .inl (cI, 6, .inl (upd (upd (upd (upd (upd (upd (fun _ => 0) 5 0) 4 0) 3 0) 2 0) 1 0) 0 0))), (oq, .inl (cI, 6, .inl fq)), (ov, .inl (cI, 6, .inl fv))]) [0, 1, 2] (by decide) rfl
  exact W.iret (v := 0) hx hb hr (fun t ht hW => ⟨⟨0, (), rfl, rfl, by rw [ht]; exact hP9, hD9⟩, hS.F ht⟩) hS.2.2 dX3_bestFrom_77
set_option maxHeartbeats 4000000 in
set_option maxRecDepth 100000 in
theorem c_X3_bestFrom_4 (l : Launch) (dC : Nat → ClassId) (dI : Nat → Nat → Nat) (cI cZ cK : ClassId) (tS aK aV : Nat) (op : Nat) (oq : Nat) (ov : Nat) (fq : Nat → Int32) (fv : Nat → Int32) (sz : Nat) : Ci l yX3_bestFrom (wq yX3_bestFrom cX3_bestFrom 8 (some .int)) ({ frames := 2, cells := 0, slots := 0, locals := 54 }) dC dI cI cZ cK tS aK aV [.int 4, .int 800, .ref op, .ref oq, .ref ov] sz [(op, .inl (cI, 6, .inl (upd (upd (upd (upd (upd (upd (fun _ => 0) 5 0) 4 0) 3 0) 2 0) 1 0) 0 0))), (oq, .inl (cI, 6, .inl fq)), (ov, .inl (cI, 6, .inl fv))] (fun (r : Int32) (_ : Unit) => r = 0) (fun _ => [(op, .inl (cI, 6, .inl (upd (upd (upd (upd (upd (upd (fun _ => 0) 5 0) 4 0) 3 0) 2 0) 1 0) 0 0))), (oq, .inl (cI, 6, .inl fq)), (ov, .inl (cI, 6, .inl fv))]) := by
  refine Met.ofW (cc := cX3_bestFrom) (maxL := 8) (ret := (some .int)) (by decide) rfl ?_
  intro p e s m args below meth c s₁ B hml hv
  obtain ⟨rfl, hsz, hP, hKx, hD0⟩ := hv
  have hx := B.exec
  have hb := B.bytes
  have hr := B.returns
  have hts := atoms_spec (ws := wq yX3_bestFrom cX3_bestFrom 8 (some .int)) B.pre
  have hown : s.vm.findClass RX3 = some m.cls := findClass_of_methodNamed B.named
  have hlocks := B.notSynchronized
  subst hsz
  have hD := hD0.self (sz := s.heap.size)
  generalize hAe : va_A [(op, .inl (cI, 6, .inl (upd (upd (upd (upd (upd (upd (fun _ => 0) 5 0) 4 0) 3 0) 2 0) 1 0) 0 0))), (oq, .inl (cI, 6, .inl fq)), (ov, .inl (cI, 6, .inl fv))] s.heap.size = A at hD hKx ⊢
  have hA : ∀ q : Nat, s.heap.size ≤ q → A q := fun q h => by rw [← hAe]; exact Or.inr h
  have hS : va_S A s.heap s.heap [] := va_S.rf
  have hP : va_P (dC, dI) vwCl [(op, .inl (cI, 6, .inl (upd (upd (upd (upd (upd (upd (fun _ => 0) 5 0) 4 0) 3 0) 2 0) 1 0) 0 0))), (oq, .inl (cI, 6, .inl fq)), (ov, .inl (cI, 6, .inl fv))] s.heap := hP
  have hl := lv_entry ([.int 4, .int 800, .ref op, .ref oq, .ref ov]) (n := 8) (Nat.le_of_ble_eq_true rfl)
  rw [lg_entry_eq]
  generalize (lg_sl ([.int 4, .int 800, .ref op, .ref oq, .ref ov]) ++ List.replicate (8 - (lg_sl ([.int 4, .int 800, .ref op, .ref oq, .ref ov])).length) Slot.unset).toArray = ls at hl ⊢
  have hl : lv_has ls 8 [(0, .int 4), (1, .int 800), (2, .ref op), (3, .ref oq), (4, .ref ov)] := hl
  have hK := hKx.1
  have hw0 := hts (.methodLink RX3 52 Lib.Math.max.name) (List.mem_cons_of_mem _ wm_164)
  have hw1 := hts (.static Lib.Math.max.name) (List.mem_cons_of_mem _ wm_165)
  have hw2 := hts (.initialized "java/lang/Math") (List.mem_cons_of_mem _ wm_15)
  have hw3 := hts (.code Lib.Math.max.name Lib.Math.max.code 2 (some .int)) (List.mem_cons_of_mem _ wm_166)
  refine lv_iload_n hx hb dX3_bestFrom_0 rfl (lv_at hl 0 rfl) ?_
  refine lv_bipush (v := 6) hx hb dX3_bestFrom_1 (by decide) ?_
  refine lv_icmp_lt (tgt := 8) hx hb dX3_bestFrom_3 (by decide) (fun c1 => ?_) (fun c1 => absurd c1 (by decide))
  refine lv_iconst (v := 0) hx hb dX3_bestFrom_8 (by decide) ?_
  refine lv_istore (lv' := [(5, .int 0), (0, .int 4), (1, .int 800), (2, .ref op), (3, .ref oq), (4, .ref ov)]) hx hb dX3_bestFrom_9 hl (by decide) rfl (fun ls hl => ?_)
  refine lv_iconst (v := 0) hx hb dX3_bestFrom_11 (by decide) ?_
  refine lv_istore (lv' := [(6, .int 0), (5, .int 0), (0, .int 4), (1, .int 800), (2, .ref op), (3, .ref oq), (4, .ref ov)]) hx hb dX3_bestFrom_12 hl (by decide) rfl (fun ls hl => ?_)
  refine lv_iload hx hb dX3_bestFrom_14 (lv_at hl 0 rfl) ?_
  refine lv_aload_n hx hb dX3_bestFrom_16 rfl (lv_at hl 4 rfl) ?_
  refine lv_iload_n hx hb dX3_bestFrom_17 rfl (lv_at hl 2 rfl) ?_
  refine va_iald hx hb hK hP 0 0 rfl rfl (vin (by decide) (by decide)) dX3_bestFrom_18 ?_
  refine lv_topi (fun x2 e2 => ?_)
  obtain rfl : x2 = 0 := e2.trans (by first | rfl | decide)
  refine lv_icmp_gt (tgt := 75) hx hb dX3_bestFrom_19 (by decide) (fun c3 => absurd c3 (by decide)) (fun c3 => ?_)
  refine lv_iload hx hb dX3_bestFrom_22 (lv_at hl 0 rfl) ?_
  refine lv_aload_n hx hb dX3_bestFrom_24 rfl (lv_at hl 5 rfl) ?_
  refine lv_iload_n hx hb dX3_bestFrom_25 rfl (lv_at hl 2 rfl) ?_
  refine va_iald hx hb hK hP 1 0 rfl rfl (vin (by decide) (by decide)) dX3_bestFrom_26 ?_
  refine lv_topi (fun x4 e4 => ?_)
  refine lv_imul hx hb dX3_bestFrom_27 ?_
  refine lv_topi (fun x5 e5 => ?_)
  obtain rfl : x5 = 0 := e5.trans (by simp)
  refine lv_iload_n hx hb dX3_bestFrom_28 rfl (lv_at hl 3 rfl) ?_
  refine lv_icmp_gt (tgt := 75) hx hb dX3_bestFrom_29 (by decide) (fun c6 => absurd c6 (by decide)) (fun c6 => ?_)
  refine lv_iload_n hx hb dX3_bestFrom_32 rfl (lv_at hl 2 rfl) ?_
  refine lv_iconst (v := 1) hx hb dX3_bestFrom_33 (by decide) ?_
  refine lv_iadd hx hb dX3_bestFrom_34 ?_
  refine lv_topi (fun x7 e7 => ?_)
  obtain rfl : x7 = 5 := e7.trans (by decide)
  refine lv_iload_n hx hb dX3_bestFrom_35 rfl (lv_at hl 3 rfl) ?_
  refine lv_iload hx hb dX3_bestFrom_36 (lv_at hl 0 rfl) ?_
  refine lv_aload_n hx hb dX3_bestFrom_38 rfl (lv_at hl 5 rfl) ?_
  refine lv_iload_n hx hb dX3_bestFrom_39 rfl (lv_at hl 2 rfl) ?_
  refine va_iald hx hb hK hP 1 0 rfl rfl (vin (by decide) (by decide)) dX3_bestFrom_40 ?_
  refine lv_topi (fun x8 e8 => ?_)
  refine lv_imul hx hb dX3_bestFrom_41 ?_
  refine lv_topi (fun x9 e9 => ?_)
  obtain rfl : x9 = 0 := e9.trans (by simp)
  refine lv_isub hx hb dX3_bestFrom_42 ?_
  refine lv_topi (fun x10 e10 => ?_)
  obtain rfl : x10 = 800 := e10.trans (by decide)
  refine lv_aload_n hx hb dX3_bestFrom_43 rfl (lv_at hl 4 rfl) ?_
  refine lv_aload_n hx hb dX3_bestFrom_44 rfl (lv_at hl 5 rfl) ?_
  refine lv_aload hx hb dX3_bestFrom_45 (lv_at hl 6 rfl) ?_
  refine mx_i (wr := []) (va_runS (As := [.int 5, .int 800, .ref op, .ref oq, .ref ov]) (rest := []) ⟨hx, hb, hml, hown, hts⟩ (c_X3_bestFrom_5 l dC dI cI cZ cK tS aK aV op oq ov fq fv s.heap.size) (va_cwS 5 hts (gw_s (fun _ h9 => List.mem_cons_of_mem _ h9) wm_161 wm_162 wm_146 wm_163) rfl rfl rfl (by decide +kernel) ⟨Nat.le_of_ble_eq_true rfl, Nat.le_of_ble_eq_true rfl⟩) (mx_preS hKx hP hD hS hA [0, 1, 2] (by decide) rfl) rfl rfl hl.1 rfl (lv_room (Nat.le_of_ble_eq_true rfl)) dX3_bestFrom_47 ⟨Nat.le_of_ble_eq_true rfl, Nat.le_of_ble_eq_true rfl⟩) hP hD hS hA [0, 1, 2] [] rfl rfl (by decide) (by decide) (fun r11 u11 H locs hq11 hP hD hS => ?_)
  replace hP : va_P (dC, dI) vwCl [(op, .inl (cI, 6, .inl (upd (upd (upd (upd (upd (upd (fun _ => 0) 5 0) 4 0) 3 0) 2 0) 1 0) 0 0))), (oq, .inl (cI, 6, .inl fq)), (ov, .inl (cI, 6, .inl fv))] H := hP
  replace hD : va_D A [(op, .inl (cI, 6, .inl (upd (upd (upd (upd (upd (upd (fun _ => 0) 5 0) 4 0) 3 0) 2 0) 1 0) 0 0))), (oq, .inl (cI, 6, .inl fq)), (ov, .inl (cI, 6, .inl fv))] := hD
  obtain rfl : r11 = 0 := hq11
  refine lv_istore (lv' := [(7, .int 0), (6, .int 0), (5, .int 0), (0, .int 4), (1, .int 800), (2, .ref op), (3, .ref oq), (4, .ref ov)]) hx hb dX3_bestFrom_50 hl (by decide) rfl (fun ls hl => ?_)
  refine lv_iload hx hb dX3_bestFrom_52 (lv_at hl 2 rfl) ?_
  refine lv_iload hx hb dX3_bestFrom_54 (lv_at hl 1 rfl) ?_
  refine lv_aload hx hb dX3_bestFrom_56 (lv_at hl 7 rfl) ?_
  refine lv_iload_n hx hb dX3_bestFrom_58 rfl (lv_at hl 3 rfl) ?_
  refine va_iald hx hb hK hP 2 0 rfl rfl (vin (by decide) (by decide)) dX3_bestFrom_59 ?_
  refine lv_topi (fun x12 e12 => ?_)
  refine lv_imul hx hb dX3_bestFrom_60 ?_
  refine lv_topi (fun x13 e13 => ?_)
  obtain rfl : x13 = 0 := e13.trans (by simp)
  refine lv_iload hx hb dX3_bestFrom_61 (lv_at hl 0 rfl) ?_
  refine lv_iadd hx hb dX3_bestFrom_63 ?_
  refine lv_topi (fun x14 e14 => ?_)
  obtain rfl : x14 = 0 := e14.trans (by decide)
  refine va_mmax hx hb (hml.trans hl.1.symm) hown hw0 hw1 hw2 hw3 (Nat.le_of_ble_eq_true rfl) (Nat.le_of_ble_eq_true rfl) (Nat.le_of_ble_eq_true rfl) (Nat.le_of_ble_eq_true rfl) dX3_bestFrom_64 ?_
  refine lv_topi (fun x15 e15 => ?_)
  obtain rfl : x15 = 0 := e15.trans (by decide)
  refine lv_istore (lv' := [(5, .int 0), (7, .int 0), (6, .int 0), (0, .int 4), (1, .int 800), (2, .ref op), (3, .ref oq), (4, .ref ov)]) hx hb dX3_bestFrom_67 hl (by decide) rfl (fun ls hl => ?_)
  refine lv_iinc (v := 1) (lv' := [(6, .int 1), (5, .int 0), (7, .int 0), (0, .int 4), (1, .int 800), (2, .ref op), (3, .ref oq), (4, .ref ov)]) hx hb dX3_bestFrom_69 hl (k := 2) rfl (by decide) (by decide) rfl (fun ls hl => ?_)
  refine lv_goto (tgt := 14) hx hb dX3_bestFrom_72 (by decide) ?_
  refine lv_iload hx hb dX3_bestFrom_14 (lv_at hl 0 rfl) ?_
  refine lv_aload_n hx hb dX3_bestFrom_16 rfl (lv_at hl 5 rfl) ?_
  refine lv_iload_n hx hb dX3_bestFrom_17 rfl (lv_at hl 3 rfl) ?_
  refine va_iald hx hb hK hP 0 0 rfl rfl (vin (by decide) (by decide)) dX3_bestFrom_18 ?_
  refine lv_topi (fun x16 e16 => ?_)
  obtain rfl : x16 = 0 := e16.trans (by first | rfl | decide)
  refine lv_icmp_gt (tgt := 75) hx hb dX3_bestFrom_19 (by decide) (fun c17 => ?_) (fun c17 => absurd c17 (by decide))
  refine lv_iload hx hb dX3_bestFrom_75 (lv_at hl 1 rfl) ?_
  have hP9 := mx_subP (wc := [(op, .inl (cI, 6, .inl (upd (upd (upd (upd (upd (upd (fun _ => 0) 5 0) 4 0) 3 0) 2 0) 1 0) 0 0))), (oq, .inl (cI, 6, .inl fq)), (ov, .inl (cI, 6, .inl fv))]) hP [0, 1, 2] rfl
  have hD9 := hD.sub (ws' := [(op, .inl (cI, 6, .inl (upd (upd (upd (upd (upd (upd (fun _ => 0) 5 0) 4 0) 3 0) 2 0) 1 0) 0 0))), (oq, .inl (cI, 6, .inl fq)), (ov, .inl (cI, 6, .inl fv))]) [0, 1, 2] (by decide) rfl
  exact W.iret (v := 0) hx hb hr (fun t ht hW => ⟨⟨0, (), rfl, rfl, by rw [ht]; exact hP9, hD9⟩, hS.F ht⟩) hS.2.2 dX3_bestFrom_77
set_option maxHeartbeats 4000000 in
set_option maxRecDepth 100000 in
theorem c_X3_bestFrom_3 (l : Launch) (dC : Nat → ClassId) (dI : Nat → Nat → Nat) (cI cZ cK : ClassId) (tS aK aV : Nat) (op : Nat) (oq : Nat) (ov : Nat) (fq : Nat → Int32) (fv : Nat → Int32) (sz : Nat) : Ci l yX3_bestFrom (wq yX3_bestFrom cX3_bestFrom 8 (some .int)) ({ frames := 3, cells := 0, slots := 0, locals := 81 }) dC dI cI cZ cK tS aK aV [.int 3, .int 800, .ref op, .ref oq, .ref ov] sz [(op, .inl (cI, 6, .inl (upd (upd (upd (upd (upd (upd (fun _ => 0) 5 0) 4 0) 3 0) 2 0) 1 0) 0 0))), (oq, .inl (cI, 6, .inl fq)), (ov, .inl (cI, 6, .inl fv))] (fun (r : Int32) (_ : Unit) => r = 0) (fun _ => [(op, .inl (cI, 6, .inl (upd (upd (upd (upd (upd (upd (fun _ => 0) 5 0) 4 0) 3 0) 2 0) 1 0) 0 0))), (oq, .inl (cI, 6, .inl fq)), (ov, .inl (cI, 6, .inl fv))]) := by
  refine Met.ofW (cc := cX3_bestFrom) (maxL := 8) (ret := (some .int)) (by decide) rfl ?_
  intro p e s m args below meth c s₁ B hml hv
  obtain ⟨rfl, hsz, hP, hKx, hD0⟩ := hv
  have hx := B.exec
  have hb := B.bytes
  have hr := B.returns
  have hts := atoms_spec (ws := wq yX3_bestFrom cX3_bestFrom 8 (some .int)) B.pre
  have hown : s.vm.findClass RX3 = some m.cls := findClass_of_methodNamed B.named
  have hlocks := B.notSynchronized
  subst hsz
  have hD := hD0.self (sz := s.heap.size)
  generalize hAe : va_A [(op, .inl (cI, 6, .inl (upd (upd (upd (upd (upd (upd (fun _ => 0) 5 0) 4 0) 3 0) 2 0) 1 0) 0 0))), (oq, .inl (cI, 6, .inl fq)), (ov, .inl (cI, 6, .inl fv))] s.heap.size = A at hD hKx ⊢
  have hA : ∀ q : Nat, s.heap.size ≤ q → A q := fun q h => by rw [← hAe]; exact Or.inr h
  have hS : va_S A s.heap s.heap [] := va_S.rf
  have hP : va_P (dC, dI) vwCl [(op, .inl (cI, 6, .inl (upd (upd (upd (upd (upd (upd (fun _ => 0) 5 0) 4 0) 3 0) 2 0) 1 0) 0 0))), (oq, .inl (cI, 6, .inl fq)), (ov, .inl (cI, 6, .inl fv))] s.heap := hP
  have hl := lv_entry ([.int 3, .int 800, .ref op, .ref oq, .ref ov]) (n := 8) (Nat.le_of_ble_eq_true rfl)
  rw [lg_entry_eq]
  generalize (lg_sl ([.int 3, .int 800, .ref op, .ref oq, .ref ov]) ++ List.replicate (8 - (lg_sl ([.int 3, .int 800, .ref op, .ref oq, .ref ov])).length) Slot.unset).toArray = ls at hl ⊢
  have hl : lv_has ls 8 [(0, .int 3), (1, .int 800), (2, .ref op), (3, .ref oq), (4, .ref ov)] := hl
  have hK := hKx.1
  have hw0 := hts (.methodLink RX3 52 Lib.Math.max.name) (List.mem_cons_of_mem _ wm_164)
  have hw1 := hts (.static Lib.Math.max.name) (List.mem_cons_of_mem _ wm_165)
  have hw2 := hts (.initialized "java/lang/Math") (List.mem_cons_of_mem _ wm_15)
  have hw3 := hts (.code Lib.Math.max.name Lib.Math.max.code 2 (some .int)) (List.mem_cons_of_mem _ wm_166)
  refine lv_iload_n hx hb dX3_bestFrom_0 rfl (lv_at hl 0 rfl) ?_
  refine lv_bipush (v := 6) hx hb dX3_bestFrom_1 (by decide) ?_
  refine lv_icmp_lt (tgt := 8) hx hb dX3_bestFrom_3 (by decide) (fun c1 => ?_) (fun c1 => absurd c1 (by decide))
  refine lv_iconst (v := 0) hx hb dX3_bestFrom_8 (by decide) ?_
  refine lv_istore (lv' := [(5, .int 0), (0, .int 3), (1, .int 800), (2, .ref op), (3, .ref oq), (4, .ref ov)]) hx hb dX3_bestFrom_9 hl (by decide) rfl (fun ls hl => ?_)
  refine lv_iconst (v := 0) hx hb dX3_bestFrom_11 (by decide) ?_
  refine lv_istore (lv' := [(6, .int 0), (5, .int 0), (0, .int 3), (1, .int 800), (2, .ref op), (3, .ref oq), (4, .ref ov)]) hx hb dX3_bestFrom_12 hl (by decide) rfl (fun ls hl => ?_)
  refine lv_iload hx hb dX3_bestFrom_14 (lv_at hl 0 rfl) ?_
  refine lv_aload_n hx hb dX3_bestFrom_16 rfl (lv_at hl 4 rfl) ?_
  refine lv_iload_n hx hb dX3_bestFrom_17 rfl (lv_at hl 2 rfl) ?_
  refine va_iald hx hb hK hP 0 0 rfl rfl (vin (by decide) (by decide)) dX3_bestFrom_18 ?_
  refine lv_topi (fun x2 e2 => ?_)
  obtain rfl : x2 = 0 := e2.trans (by first | rfl | decide)
  refine lv_icmp_gt (tgt := 75) hx hb dX3_bestFrom_19 (by decide) (fun c3 => absurd c3 (by decide)) (fun c3 => ?_)
  refine lv_iload hx hb dX3_bestFrom_22 (lv_at hl 0 rfl) ?_
  refine lv_aload_n hx hb dX3_bestFrom_24 rfl (lv_at hl 5 rfl) ?_
  refine lv_iload_n hx hb dX3_bestFrom_25 rfl (lv_at hl 2 rfl) ?_
  refine va_iald hx hb hK hP 1 0 rfl rfl (vin (by decide) (by decide)) dX3_bestFrom_26 ?_
  refine lv_topi (fun x4 e4 => ?_)
  refine lv_imul hx hb dX3_bestFrom_27 ?_
  refine lv_topi (fun x5 e5 => ?_)
  obtain rfl : x5 = 0 := e5.trans (by simp)
  refine lv_iload_n hx hb dX3_bestFrom_28 rfl (lv_at hl 3 rfl) ?_
  refine lv_icmp_gt (tgt := 75) hx hb dX3_bestFrom_29 (by decide) (fun c6 => absurd c6 (by decide)) (fun c6 => ?_)
  refine lv_iload_n hx hb dX3_bestFrom_32 rfl (lv_at hl 2 rfl) ?_
  refine lv_iconst (v := 1) hx hb dX3_bestFrom_33 (by decide) ?_
  refine lv_iadd hx hb dX3_bestFrom_34 ?_
  refine lv_topi (fun x7 e7 => ?_)
  obtain rfl : x7 = 4 := e7.trans (by decide)
  refine lv_iload_n hx hb dX3_bestFrom_35 rfl (lv_at hl 3 rfl) ?_
  refine lv_iload hx hb dX3_bestFrom_36 (lv_at hl 0 rfl) ?_
  refine lv_aload_n hx hb dX3_bestFrom_38 rfl (lv_at hl 5 rfl) ?_
  refine lv_iload_n hx hb dX3_bestFrom_39 rfl (lv_at hl 2 rfl) ?_
  refine va_iald hx hb hK hP 1 0 rfl rfl (vin (by decide) (by decide)) dX3_bestFrom_40 ?_
  refine lv_topi (fun x8 e8 => ?_)
  refine lv_imul hx hb dX3_bestFrom_41 ?_
  refine lv_topi (fun x9 e9 => ?_)
  obtain rfl : x9 = 0 := e9.trans (by simp)
  refine lv_isub hx hb dX3_bestFrom_42 ?_
  refine lv_topi (fun x10 e10 => ?_)
  obtain rfl : x10 = 800 := e10.trans (by decide)
  refine lv_aload_n hx hb dX3_bestFrom_43 rfl (lv_at hl 4 rfl) ?_
  refine lv_aload_n hx hb dX3_bestFrom_44 rfl (lv_at hl 5 rfl) ?_
  refine lv_aload hx hb dX3_bestFrom_45 (lv_at hl 6 rfl) ?_
  refine mx_i (wr := []) (va_runS (As := [.int 4, .int 800, .ref op, .ref oq, .ref ov]) (rest := []) ⟨hx, hb, hml, hown, hts⟩ (c_X3_bestFrom_4 l dC dI cI cZ cK tS aK aV op oq ov fq fv s.heap.size) (va_cwS 5 hts (gw_s (fun _ h9 => List.mem_cons_of_mem _ h9) wm_161 wm_162 wm_146 wm_163) rfl rfl rfl (by decide +kernel) ⟨Nat.le_of_ble_eq_true rfl, Nat.le_of_ble_eq_true rfl⟩) (mx_preS hKx hP hD hS hA [0, 1, 2] (by decide) rfl) rfl rfl hl.1 rfl (lv_room (Nat.le_of_ble_eq_true rfl)) dX3_bestFrom_47 ⟨Nat.le_of_ble_eq_true rfl, Nat.le_of_ble_eq_true rfl⟩) hP hD hS hA [0, 1, 2] [] rfl rfl (by decide) (by decide) (fun r11 u11 H locs hq11 hP hD hS => ?_)
  replace hP : va_P (dC, dI) vwCl [(op, .inl (cI, 6, .inl (upd (upd (upd (upd (upd (upd (fun _ => 0) 5 0) 4 0) 3 0) 2 0) 1 0) 0 0))), (oq, .inl (cI, 6, .inl fq)), (ov, .inl (cI, 6, .inl fv))] H := hP
  replace hD : va_D A [(op, .inl (cI, 6, .inl (upd (upd (upd (upd (upd (upd (fun _ => 0) 5 0) 4 0) 3 0) 2 0) 1 0) 0 0))), (oq, .inl (cI, 6, .inl fq)), (ov, .inl (cI, 6, .inl fv))] := hD
  obtain rfl : r11 = 0 := hq11
  refine lv_istore (lv' := [(7, .int 0), (6, .int 0), (5, .int 0), (0, .int 3), (1, .int 800), (2, .ref op), (3, .ref oq), (4, .ref ov)]) hx hb dX3_bestFrom_50 hl (by decide) rfl (fun ls hl => ?_)
  refine lv_iload hx hb dX3_bestFrom_52 (lv_at hl 2 rfl) ?_
  refine lv_iload hx hb dX3_bestFrom_54 (lv_at hl 1 rfl) ?_
  refine lv_aload hx hb dX3_bestFrom_56 (lv_at hl 7 rfl) ?_
  refine lv_iload_n hx hb dX3_bestFrom_58 rfl (lv_at hl 3 rfl) ?_
  refine va_iald hx hb hK hP 2 0 rfl rfl (vin (by decide) (by decide)) dX3_bestFrom_59 ?_
  refine lv_topi (fun x12 e12 => ?_)
  refine lv_imul hx hb dX3_bestFrom_60 ?_
  refine lv_topi (fun x13 e13 => ?_)
  obtain rfl : x13 = 0 := e13.trans (by simp)
  refine lv_iload hx hb dX3_bestFrom_61 (lv_at hl 0 rfl) ?_
  refine lv_iadd hx hb dX3_bestFrom_63 ?_
  refine lv_topi (fun x14 e14 => ?_)
  obtain rfl : x14 = 0 := e14.trans (by decide)
  refine va_mmax hx hb (hml.trans hl.1.symm) hown hw0 hw1 hw2 hw3 (Nat.le_of_ble_eq_true rfl) (Nat.le_of_ble_eq_true rfl) (Nat.le_of_ble_eq_true rfl) (Nat.le_of_ble_eq_true rfl) dX3_bestFrom_64 ?_
  refine lv_topi (fun x15 e15 => ?_)
  obtain rfl : x15 = 0 := e15.trans (by decide)
  refine lv_istore (lv' := [(5, .int 0), (7, .int 0), (6, .int 0), (0, .int 3), (1, .int 800), (2, .ref op), (3, .ref oq), (4, .ref ov)]) hx hb dX3_bestFrom_67 hl (by decide) rfl (fun ls hl => ?_)
  refine lv_iinc (v := 1) (lv' := [(6, .int 1), (5, .int 0), (7, .int 0), (0, .int 3), (1, .int 800), (2, .ref op), (3, .ref oq), (4, .ref ov)]) hx hb dX3_bestFrom_69 hl (k := 2) rfl (by decide) (by decide) rfl (fun ls hl => ?_)
  refine lv_goto (tgt := 14) hx hb dX3_bestFrom_72 (by decide) ?_
  refine lv_iload hx hb dX3_bestFrom_14 (lv_at hl 0 rfl) ?_
  refine lv_aload_n hx hb dX3_bestFrom_16 rfl (lv_at hl 5 rfl) ?_
  refine lv_iload_n hx hb dX3_bestFrom_17 rfl (lv_at hl 3 rfl) ?_
  refine va_iald hx hb hK hP 0 0 rfl rfl (vin (by decide) (by decide)) dX3_bestFrom_18 ?_
  refine lv_topi (fun x16 e16 => ?_)
  obtain rfl : x16 = 0 := e16.trans (by first | rfl | decide)
  refine lv_icmp_gt (tgt := 75) hx hb dX3_bestFrom_19 (by decide) (fun c17 => ?_) (fun c17 => absurd c17 (by decide))
  refine lv_iload hx hb dX3_bestFrom_75 (lv_at hl 1 rfl) ?_
  have hP9 := mx_subP (wc := [(op, .inl (cI, 6, .inl (upd (upd (upd (upd (upd (upd (fun _ => 0) 5 0) 4 0) 3 0) 2 0) 1 0) 0 0))), (oq, .inl (cI, 6, .inl fq)), (ov, .inl (cI, 6, .inl fv))]) hP [0, 1, 2] rfl
  have hD9 := hD.sub (ws' := [(op, .inl (cI, 6, .inl (upd (upd (upd (upd (upd (upd (fun _ => 0) 5 0) 4 0) 3 0) 2 0) 1 0) 0 0))), (oq, .inl (cI, 6, .inl fq)), (ov, .inl (cI, 6, .inl fv))]) [0, 1, 2] (by decide) rfl
  exact W.iret (v := 0) hx hb hr (fun t ht hW => ⟨⟨0, (), rfl, rfl, by rw [ht]; exact hP9, hD9⟩, hS.F ht⟩) hS.2.2 dX3_bestFrom_77
set_option maxHeartbeats 4000000 in
set_option maxRecDepth 100000 in
theorem c_X3_bestFrom_2 (l : Launch) (dC : Nat → ClassId) (dI : Nat → Nat → Nat) (cI cZ cK : ClassId) (tS aK aV : Nat) (op : Nat) (oq : Nat) (ov : Nat) (fq : Nat → Int32) (fv : Nat → Int32) (sz : Nat) : Ci l yX3_bestFrom (wq yX3_bestFrom cX3_bestFrom 8 (some .int)) ({ frames := 4, cells := 0, slots := 0, locals := 108 }) dC dI cI cZ cK tS aK aV [.int 2, .int 800, .ref op, .ref oq, .ref ov] sz [(op, .inl (cI, 6, .inl (upd (upd (upd (upd (upd (upd (fun _ => 0) 5 0) 4 0) 3 0) 2 0) 1 0) 0 0))), (oq, .inl (cI, 6, .inl fq)), (ov, .inl (cI, 6, .inl fv))] (fun (r : Int32) (_ : Unit) => r = 0) (fun _ => [(op, .inl (cI, 6, .inl (upd (upd (upd (upd (upd (upd (fun _ => 0) 5 0) 4 0) 3 0) 2 0) 1 0) 0 0))), (oq, .inl (cI, 6, .inl fq)), (ov, .inl (cI, 6, .inl fv))]) := by
  refine Met.ofW (cc := cX3_bestFrom) (maxL := 8) (ret := (some .int)) (by decide) rfl ?_
  intro p e s m args below meth c s₁ B hml hv
  obtain ⟨rfl, hsz, hP, hKx, hD0⟩ := hv
  have hx := B.exec
  have hb := B.bytes
  have hr := B.returns
  have hts := atoms_spec (ws := wq yX3_bestFrom cX3_bestFrom 8 (some .int)) B.pre
  have hown : s.vm.findClass RX3 = some m.cls := findClass_of_methodNamed B.named
  have hlocks := B.notSynchronized
  subst hsz
  have hD := hD0.self (sz := s.heap.size)
  generalize hAe : va_A [(op, .inl (cI, 6, .inl (upd (upd (upd (upd (upd (upd (fun _ => 0) 5 0) 4 0) 3 0) 2 0) 1 0) 0 0))), (oq, .inl (cI, 6, .inl fq)), (ov, .inl (cI, 6, .inl fv))] s.heap.size = A at hD hKx ⊢
  have hA : ∀ q : Nat, s.heap.size ≤ q → A q := fun q h => by rw [← hAe]; exact Or.inr h
  have hS : va_S A s.heap s.heap [] := va_S.rf
  have hP : va_P (dC, dI) vwCl [(op, .inl (cI, 6, .inl (upd (upd (upd (upd (upd (upd (fun _ => 0) 5 0) 4 0) 3 0) 2 0) 1 0) 0 0))), (oq, .inl (cI, 6, .inl fq)), (ov, .inl (cI, 6, .inl fv))] s.heap := hP
  have hl := lv_entry ([.int 2, .int 800, .ref op, .ref oq, .ref ov]) (n := 8) (Nat.le_of_ble_eq_true rfl)
  rw [lg_entry_eq]
  generalize (lg_sl ([.int 2, .int 800, .ref op, .ref oq, .ref ov]) ++ List.replicate (8 - (lg_sl ([.int 2, .int 800, .ref op, .ref oq, .ref ov])).length) Slot.unset).toArray = ls at hl ⊢
  have hl : lv_has ls 8 [(0, .int 2), (1, .int 800), (2, .ref op), (3, .ref oq), (4, .ref ov)] := hl
  have hK := hKx.1
  have hw0 := hts (.methodLink RX3 52 Lib.Math.max.name) (List.mem_cons_of_mem _ wm_164)
  have hw1 := hts (.static Lib.Math.max.name) (List.mem_cons_of_mem _ wm_165)
  have hw2 := hts (.initialized "java/lang/Math") (List.mem_cons_of_mem _ wm_15)
  have hw3 := hts (.code Lib.Math.max.name Lib.Math.max.code 2 (some .int)) (List.mem_cons_of_mem _ wm_166)
  refine lv_iload_n hx hb dX3_bestFrom_0 rfl (lv_at hl 0 rfl) ?_
  refine lv_bipush (v := 6) hx hb dX3_bestFrom_1 (by decide) ?_
  refine lv_icmp_lt (tgt := 8) hx hb dX3_bestFrom_3 (by decide) (fun c1 => ?_) (fun c1 => absurd c1 (by decide))
  refine lv_iconst (v := 0) hx hb dX3_bestFrom_8 (by decide) ?_
  refine lv_istore (lv' := [(5, .int 0), (0, .int 2), (1, .int 800), (2, .ref op), (3, .ref oq), (4, .ref ov)]) hx hb dX3_bestFrom_9 hl (by decide) rfl (fun ls hl => ?_)
  refine lv_iconst (v := 0) hx hb dX3_bestFrom_11 (by decide) ?_
  refine lv_istore (lv' := [(6, .int 0), (5, .int 0), (0, .int 2), (1, .int 800), (2, .ref op), (3, .ref oq), (4, .ref ov)]) hx hb dX3_bestFrom_12 hl (by decide) rfl (fun ls hl => ?_)
  refine lv_iload hx hb dX3_bestFrom_14 (lv_at hl 0 rfl) ?_
  refine lv_aload_n hx hb dX3_bestFrom_16 rfl (lv_at hl 4 rfl) ?_
  refine lv_iload_n hx hb dX3_bestFrom_17 rfl (lv_at hl 2 rfl) ?_
  refine va_iald hx hb hK hP 0 0 rfl rfl (vin (by decide) (by decide)) dX3_bestFrom_18 ?_
  refine lv_topi (fun x2 e2 => ?_)
  obtain rfl : x2 = 0 := e2.trans (by first | rfl | decide)
  refine lv_icmp_gt (tgt := 75) hx hb dX3_bestFrom_19 (by decide) (fun c3 => absurd c3 (by decide)) (fun c3 => ?_)
  refine lv_iload hx hb dX3_bestFrom_22 (lv_at hl 0 rfl) ?_
  refine lv_aload_n hx hb dX3_bestFrom_24 rfl (lv_at hl 5 rfl) ?_
  refine lv_iload_n hx hb dX3_bestFrom_25 rfl (lv_at hl 2 rfl) ?_
  refine va_iald hx hb hK hP 1 0 rfl rfl (vin (by decide) (by decide)) dX3_bestFrom_26 ?_
  refine lv_topi (fun x4 e4 => ?_)
  refine lv_imul hx hb dX3_bestFrom_27 ?_
  refine lv_topi (fun x5 e5 => ?_)
  obtain rfl : x5 = 0 := e5.trans (by simp)
  refine lv_iload_n hx hb dX3_bestFrom_28 rfl (lv_at hl 3 rfl) ?_
  refine lv_icmp_gt (tgt := 75) hx hb dX3_bestFrom_29 (by decide) (fun c6 => absurd c6 (by decide)) (fun c6 => ?_)
  refine lv_iload_n hx hb dX3_bestFrom_32 rfl (lv_at hl 2 rfl) ?_
  refine lv_iconst (v := 1) hx hb dX3_bestFrom_33 (by decide) ?_
  refine lv_iadd hx hb dX3_bestFrom_34 ?_
  refine lv_topi (fun x7 e7 => ?_)
  obtain rfl : x7 = 3 := e7.trans (by decide)
  refine lv_iload_n hx hb dX3_bestFrom_35 rfl (lv_at hl 3 rfl) ?_
  refine lv_iload hx hb dX3_bestFrom_36 (lv_at hl 0 rfl) ?_
  refine lv_aload_n hx hb dX3_bestFrom_38 rfl (lv_at hl 5 rfl) ?_
  refine lv_iload_n hx hb dX3_bestFrom_39 rfl (lv_at hl 2 rfl) ?_
  refine va_iald hx hb hK hP 1 0 rfl rfl (vin (by decide) (by decide)) dX3_bestFrom_40 ?_
  refine lv_topi (fun x8 e8 => ?_)
  refine lv_imul hx hb dX3_bestFrom_41 ?_
  refine lv_topi (fun x9 e9 => ?_)
  obtain rfl : x9 = 0 := e9.trans (by simp)
  refine lv_isub hx hb dX3_bestFrom_42 ?_
  refine lv_topi (fun x10 e10 => ?_)
  obtain rfl : x10 = 800 := e10.trans (by decide)
  refine lv_aload_n hx hb dX3_bestFrom_43 rfl (lv_at hl 4 rfl) ?_
  refine lv_aload_n hx hb dX3_bestFrom_44 rfl (lv_at hl 5 rfl) ?_
  refine lv_aload hx hb dX3_bestFrom_45 (lv_at hl 6 rfl) ?_
  refine mx_i (wr := []) (va_runS (As := [.int 3, .int 800, .ref op, .ref oq, .ref ov]) (rest := []) ⟨hx, hb, hml, hown, hts⟩ (c_X3_bestFrom_3 l dC dI cI cZ cK tS aK aV op oq ov fq fv s.heap.size) (va_cwS 5 hts (gw_s (fun _ h9 => List.mem_cons_of_mem _ h9) wm_161 wm_162 wm_146 wm_163) rfl rfl rfl (by decide +kernel) ⟨Nat.le_of_ble_eq_true rfl, Nat.le_of_ble_eq_true rfl⟩) (mx_preS hKx hP hD hS hA [0, 1, 2] (by decide) rfl) rfl rfl hl.1 rfl (lv_room (Nat.le_of_ble_eq_true rfl)) dX3_bestFrom_47 ⟨Nat.le_of_ble_eq_true rfl, Nat.le_of_ble_eq_true rfl⟩) hP hD hS hA [0, 1, 2] [] rfl rfl (by decide) (by decide) (fun r11 u11 H locs hq11 hP hD hS => ?_)
  replace hP : va_P (dC, dI) vwCl [(op, .inl (cI, 6, .inl (upd (upd (upd (upd (upd (upd (fun _ => 0) 5 0) 4 0) 3 0) 2 0) 1 0) 0 0))), (oq, .inl (cI, 6, .inl fq)), (ov, .inl (cI, 6, .inl fv))] H := hP
  replace hD : va_D A [(op, .inl (cI, 6, .inl (upd (upd (upd (upd (upd (upd (fun _ => 0) 5 0) 4 0) 3 0) 2 0) 1 0) 0 0))), (oq, .inl (cI, 6, .inl fq)), (ov, .inl (cI, 6, .inl fv))] := hD
  obtain rfl : r11 = 0 := hq11
  refine lv_istore (lv' := [(7, .int 0), (6, .int 0), (5, .int 0), (0, .int 2), (1, .int 800), (2, .ref op), (3, .ref oq), (4, .ref ov)]) hx hb dX3_bestFrom_50 hl (by decide) rfl (fun ls hl => ?_)
  refine lv_iload hx hb dX3_bestFrom_52 (lv_at hl 2 rfl) ?_
  refine lv_iload hx hb dX3_bestFrom_54 (lv_at hl 1 rfl) ?_
  refine lv_aload hx hb dX3_bestFrom_56 (lv_at hl 7 rfl) ?_
  refine lv_iload_n hx hb dX3_bestFrom_58 rfl (lv_at hl 3 rfl) ?_
  refine va_iald hx hb hK hP 2 0 rfl rfl (vin (by decide) (by decide)) dX3_bestFrom_59 ?_
  refine lv_topi (fun x12 e12 => ?_)
  refine lv_imul hx hb dX3_bestFrom_60 ?_
  refine lv_topi (fun x13 e13 => ?_)
  obtain rfl : x13 = 0 := e13.trans (by simp)
  refine lv_iload hx hb dX3_bestFrom_61 (lv_at hl 0 rfl) ?_
  refine lv_iadd hx hb dX3_bestFrom_63 ?_
  refine lv_topi (fun x14 e14 => ?_)
  obtain rfl : x14 = 0 := e14.trans (by decide)
  refine va_mmax hx hb (hml.trans hl.1.symm) hown hw0 hw1 hw2 hw3 (Nat.le_of_ble_eq_true rfl) (Nat.le_of_ble_eq_true rfl) (Nat.le_of_ble_eq_true rfl) (Nat.le_of_ble_eq_true rfl) dX3_bestFrom_64 ?_
  refine lv_topi (fun x15 e15 => ?_)
  obtain rfl : x15 = 0 := e15.trans (by decide)
  refine lv_istore (lv' := [(5, .int 0), (7, .int 0), (6, .int 0), (0, .int 2), (1, .int 800), (2, .ref op), (3, .ref oq), (4, .ref ov)]) hx hb dX3_bestFrom_67 hl (by decide) rfl (fun ls hl => ?_)
  refine lv_iinc (v := 1) (lv' := [(6, .int 1), (5, .int 0), (7, .int 0), (0, .int 2), (1, .int 800), (2, .ref op), (3, .ref oq), (4, .ref ov)]) hx hb dX3_bestFrom_69 hl (k := 2) rfl (by decide) (by decide) rfl (fun ls hl => ?_)
  refine lv_goto (tgt := 14) hx hb dX3_bestFrom_72 (by decide) ?_
  refine lv_iload hx hb dX3_bestFrom_14 (lv_at hl 0 rfl) ?_
  refine lv_aload_n hx hb dX3_bestFrom_16 rfl (lv_at hl 5 rfl) ?_
  refine lv_iload_n hx hb dX3_bestFrom_17 rfl (lv_at hl 3 rfl) ?_
  refine va_iald hx hb hK hP 0 0 rfl rfl (vin (by decide) (by decide)) dX3_bestFrom_18 ?_
  refine lv_topi (fun x16 e16 => ?_)
  obtain rfl : x16 = 0 := e16.trans (by first | rfl | decide)
  refine lv_icmp_gt (tgt := 75) hx hb dX3_bestFrom_19 (by decide) (fun c17 => ?_) (fun c17 => absurd c17 (by decide))
  refine lv_iload hx hb dX3_bestFrom_75 (lv_at hl 1 rfl) ?_
  have hP9 := mx_subP (wc := [(op, .inl (cI, 6, .inl (upd (upd (upd (upd (upd (upd (fun _ => 0) 5 0) 4 0) 3 0) 2 0) 1 0) 0 0))), (oq, .inl (cI, 6, .inl fq)), (ov, .inl (cI, 6, .inl fv))]) hP [0, 1, 2] rfl
  have hD9 := hD.sub (ws' := [(op, .inl (cI, 6, .inl (upd (upd (upd (upd (upd (upd (fun _ => 0) 5 0) 4 0) 3 0) 2 0) 1 0) 0 0))), (oq, .inl (cI, 6, .inl fq)), (ov, .inl (cI, 6, .inl fv))]) [0, 1, 2] (by decide) rfl
  exact W.iret (v := 0) hx hb hr (fun t ht hW => ⟨⟨0, (), rfl, rfl, by rw [ht]; exact hP9, hD9⟩, hS.F ht⟩) hS.2.2 dX3_bestFrom_77
set_option maxHeartbeats 4000000 in
set_option maxRecDepth 100000 in
theorem c_X3_bestFrom_1 (l : Launch) (dC : Nat → ClassId) (dI : Nat → Nat → Nat) (cI cZ cK : ClassId) (tS aK aV : Nat) (op : Nat) (oq : Nat) (ov : Nat) (fq : Nat → Int32) (fv : Nat → Int32) (sz : Nat) : Ci l yX3_bestFrom (wq yX3_bestFrom cX3_bestFrom 8 (some .int)) ({ frames := 5, cells := 0, slots := 0, locals := 135 }) dC dI cI cZ cK tS aK aV [.int 1, .int 800, .ref op, .ref oq, .ref ov] sz [(op, .inl (cI, 6, .inl (upd (upd (upd (upd (upd (upd (fun _ => 0) 5 0) 4 0) 3 0) 2 0) 1 0) 0 0))), (oq, .inl (cI, 6, .inl fq)), (ov, .inl (cI, 6, .inl fv))] (fun (r : Int32) (_ : Unit) => r = 0) (fun _ => [(op, .inl (cI, 6, .inl (upd (upd (upd (upd (upd (upd (fun _ => 0) 5 0) 4 0) 3 0) 2 0) 1 0) 0 0))), (oq, .inl (cI, 6, .inl fq)), (ov, .inl (cI, 6, .inl fv))]) := by
  refine Met.ofW (cc := cX3_bestFrom) (maxL := 8) (ret := (some .int)) (by decide) rfl ?_
  intro p e s m args below meth c s₁ B hml hv
  obtain ⟨rfl, hsz, hP, hKx, hD0⟩ := hv
  have hx := B.exec
  have hb := B.bytes
  have hr := B.returns
  have hts := atoms_spec (ws := wq yX3_bestFrom cX3_bestFrom 8 (some .int)) B.pre
  have hown : s.vm.findClass RX3 = some m.cls := findClass_of_methodNamed B.named
  have hlocks := B.notSynchronized
  subst hsz
  have hD := hD0.self (sz := s.heap.size)
  generalize hAe : va_A [(op, .inl (cI, 6, .inl (upd (upd (upd (upd (upd (upd (fun _ => 0) 5 0) 4 0) 3 0) 2 0) 1 0) 0 0))), (oq, .inl (cI, 6, .inl fq)), (ov, .inl (cI, 6, .inl fv))] s.heap.size = A at hD hKx ⊢
  have hA : ∀ q : Nat, s.heap.size ≤ q → A q := fun q h => by rw [← hAe]; exact Or.inr h
  have hS : va_S A s.heap s.heap [] := va_S.rf
  have hP : va_P (dC, dI) vwCl [(op, .inl (cI, 6, .inl (upd (upd (upd (upd (upd (upd (fun _ => 0) 5 0) 4 0) 3 0) 2 0) 1 0) 0 0))), (oq, .inl (cI, 6, .inl fq)), (ov, .inl (cI, 6, .inl fv))] s.heap := hP
  have hl := lv_entry ([.int 1, .int 800, .ref op, .ref oq, .ref ov]) (n := 8) (Nat.le_of_ble_eq_true rfl)
  rw [lg_entry_eq]
  generalize (lg_sl ([.int 1, .int 800, .ref op, .ref oq, .ref ov]) ++ List.replicate (8 - (lg_sl ([.int 1, .int 800, .ref op, .ref oq, .ref ov])).length) Slot.unset).toArray = ls at hl ⊢
  have hl : lv_has ls 8 [(0, .int 1), (1, .int 800), (2, .ref op), (3, .ref oq), (4, .ref ov)] := hl
  have hK := hKx.1
  have hw0 := hts (.methodLink RX3 52 Lib.Math.max.name) (List.mem_cons_of_mem _ wm_164)
  have hw1 := hts (.static Lib.Math.max.name) (List.mem_cons_of_mem _ wm_165)
  have hw2 := hts (.initialized "java/lang/Math") (List.mem_cons_of_mem _ wm_15)
  have hw3 := hts (.code Lib.Math.max.name Lib.Math.max.code 2 (some .int)) (List.mem_cons_of_mem _ wm_166)
  refine lv_iload_n hx hb dX3_bestFrom_0 rfl (lv_at hl 0 rfl) ?_
  refine lv_bipush (v := 6) hx hb dX3_bestFrom_1 (by decide) ?_
  refine lv_icmp_lt (tgt := 8) hx hb dX3_bestFrom_3 (by decide) (fun c1 => ?_) (fun c1 => absurd c1 (by decide))
  refine lv_iconst (v := 0) hx hb dX3_bestFrom_8 (by decide) ?_
  refine lv_istore (lv' := [(5, .int 0), (0, .int 1), (1, .int 800), (2, .ref op), (3, .ref oq), (4, .ref ov)]) hx hb dX3_bestFrom_9 hl (by decide) rfl (fun ls hl => ?_)
  refine lv_iconst (v := 0) hx hb dX3_bestFrom_11 (by decide) ?_
  refine lv_istore (lv' := [(6, .int 0), (5, .int 0), (0, .int 1), (1, .int 800), (2, .ref op), (3, .ref oq), (4, .ref ov)]) hx hb dX3_bestFrom_12 hl (by decide) rfl (fun ls hl => ?_)
  refine lv_iload hx hb dX3_bestFrom_14 (lv_at hl 0 rfl) ?_
  refine lv_aload_n hx hb dX3_bestFrom_16 rfl (lv_at hl 4 rfl) ?_
  refine lv_iload_n hx hb dX3_bestFrom_17 rfl (lv_at hl 2 rfl) ?_
  refine va_iald hx hb hK hP 0 0 rfl rfl (vin (by decide) (by decide)) dX3_bestFrom_18 ?_
  refine lv_topi (fun x2 e2 => ?_)
  obtain rfl : x2 = 0 := e2.trans (by first | rfl | decide)
  refine lv_icmp_gt (tgt := 75) hx hb dX3_bestFrom_19 (by decide) (fun c3 => absurd c3 (by decide)) (fun c3 => ?_)
  refine lv_iload hx hb dX3_bestFrom_22 (lv_at hl 0 rfl) ?_
  refine lv_aload_n hx hb dX3_bestFrom_24 rfl (lv_at hl 5 rfl) ?_
  refine lv_iload_n hx hb dX3_bestFrom_25 rfl (lv_at hl 2 rfl) ?_
  refine va_iald hx hb hK hP 1 0 rfl rfl (vin (by decide) (by decide)) dX3_bestFrom_26 ?_
  refine lv_topi (fun x4 e4 => ?_)
  refine lv_imul hx hb dX3_bestFrom_27 ?_
  refine lv_topi (fun x5 e5 => ?_)
  obtain rfl : x5 = 0 := e5.trans (by simp)
  refine lv_iload_n hx hb dX3_bestFrom_28 rfl (lv_at hl 3 rfl) ?_
  refine lv_icmp_gt (tgt := 75) hx hb dX3_bestFrom_29 (by decide) (fun c6 => absurd c6 (by decide)) (fun c6 => ?_)
  refine lv_iload_n hx hb dX3_bestFrom_32 rfl (lv_at hl 2 rfl) ?_
  refine lv_iconst (v := 1) hx hb dX3_bestFrom_33 (by decide) ?_
  refine lv_iadd hx hb dX3_bestFrom_34 ?_
  refine lv_topi (fun x7 e7 => ?_)
  obtain rfl : x7 = 2 := e7.trans (by decide)
  refine lv_iload_n hx hb dX3_bestFrom_35 rfl (lv_at hl 3 rfl) ?_
  refine lv_iload hx hb dX3_bestFrom_36 (lv_at hl 0 rfl) ?_
  refine lv_aload_n hx hb dX3_bestFrom_38 rfl (lv_at hl 5 rfl) ?_
  refine lv_iload_n hx hb dX3_bestFrom_39 rfl (lv_at hl 2 rfl) ?_
  refine va_iald hx hb hK hP 1 0 rfl rfl (vin (by decide) (by decide)) dX3_bestFrom_40 ?_
  refine lv_topi (fun x8 e8 => ?_)
  refine lv_imul hx hb dX3_bestFrom_41 ?_
  refine lv_topi (fun x9 e9 => ?_)
  obtain rfl : x9 = 0 := e9.trans (by simp)
  refine lv_isub hx hb dX3_bestFrom_42 ?_
  refine lv_topi (fun x10 e10 => ?_)
  obtain rfl : x10 = 800 := e10.trans (by decide)
  refine lv_aload_n hx hb dX3_bestFrom_43 rfl (lv_at hl 4 rfl) ?_
  refine lv_aload_n hx hb dX3_bestFrom_44 rfl (lv_at hl 5 rfl) ?_
  refine lv_aload hx hb dX3_bestFrom_45 (lv_at hl 6 rfl) ?_
  refine mx_i (wr := []) (va_runS (As := [.int 2, .int 800, .ref op, .ref oq, .ref ov]) (rest := []) ⟨hx, hb, hml, hown, hts⟩ (c_X3_bestFrom_2 l dC dI cI cZ cK tS aK aV op oq ov fq fv s.heap.size) (va_cwS 5 hts (gw_s (fun _ h9 => List.mem_cons_of_mem _ h9) wm_161 wm_162 wm_146 wm_163) rfl rfl rfl (by decide +kernel) ⟨Nat.le_of_ble_eq_true rfl, Nat.le_of_ble_eq_true rfl⟩) (mx_preS hKx hP hD hS hA [0, 1, 2] (by decide) rfl) rfl rfl hl.1 rfl (lv_room (Nat.le_of_ble_eq_true rfl)) dX3_bestFrom_47 ⟨Nat.le_of_ble_eq_true rfl, Nat.le_of_ble_eq_true rfl⟩) hP hD hS hA [0, 1, 2] [] rfl rfl (by decide) (by decide) (fun r11 u11 H locs hq11 hP hD hS => ?_)
  replace hP : va_P (dC, dI) vwCl [(op, .inl (cI, 6, .inl (upd (upd (upd (upd (upd (upd (fun _ => 0) 5 0) 4 0) 3 0) 2 0) 1 0) 0 0))), (oq, .inl (cI, 6, .inl fq)), (ov, .inl (cI, 6, .inl fv))] H := hP
  replace hD : va_D A [(op, .inl (cI, 6, .inl (upd (upd (upd (upd (upd (upd (fun _ => 0) 5 0) 4 0) 3 0) 2 0) 1 0) 0 0))), (oq, .inl (cI, 6, .inl fq)), (ov, .inl (cI, 6, .inl fv))] := hD
  obtain rfl : r11 = 0 := hq11
  refine lv_istore (lv' := [(7, .int 0), (6, .int 0), (5, .int 0), (0, .int 1), (1, .int 800), (2, .ref op), (3, .ref oq), (4, .ref ov)]) hx hb dX3_bestFrom_50 hl (by decide) rfl (fun ls hl => ?_)
  refine lv_iload hx hb dX3_bestFrom_52 (lv_at hl 2 rfl) ?_
  refine lv_iload hx hb dX3_bestFrom_54 (lv_at hl 1 rfl) ?_
  refine lv_aload hx hb dX3_bestFrom_56 (lv_at hl 7 rfl) ?_
  refine lv_iload_n hx hb dX3_bestFrom_58 rfl (lv_at hl 3 rfl) ?_
  refine va_iald hx hb hK hP 2 0 rfl rfl (vin (by decide) (by decide)) dX3_bestFrom_59 ?_
  refine lv_topi (fun x12 e12 => ?_)
  refine lv_imul hx hb dX3_bestFrom_60 ?_
  refine lv_topi (fun x13 e13 => ?_)
  obtain rfl : x13 = 0 := e13.trans (by simp)
  refine lv_iload hx hb dX3_bestFrom_61 (lv_at hl 0 rfl) ?_
  refine lv_iadd hx hb dX3_bestFrom_63 ?_
  refine lv_topi (fun x14 e14 => ?_)
  obtain rfl : x14 = 0 := e14.trans (by decide)
  refine va_mmax hx hb (hml.trans hl.1.symm) hown hw0 hw1 hw2 hw3 (Nat.le_of_ble_eq_true rfl) (Nat.le_of_ble_eq_true rfl) (Nat.le_of_ble_eq_true rfl) (Nat.le_of_ble_eq_true rfl) dX3_bestFrom_64 ?_
  refine lv_topi (fun x15 e15 => ?_)
  obtain rfl : x15 = 0 := e15.trans (by decide)
  refine lv_istore (lv' := [(5, .int 0), (7, .int 0), (6, .int 0), (0, .int 1), (1, .int 800), (2, .ref op), (3, .ref oq), (4, .ref ov)]) hx hb dX3_bestFrom_67 hl (by decide) rfl (fun ls hl => ?_)
  refine lv_iinc (v := 1) (lv' := [(6, .int 1), (5, .int 0), (7, .int 0), (0, .int 1), (1, .int 800), (2, .ref op), (3, .ref oq), (4, .ref ov)]) hx hb dX3_bestFrom_69 hl (k := 2) rfl (by decide) (by decide) rfl (fun ls hl => ?_)
  refine lv_goto (tgt := 14) hx hb dX3_bestFrom_72 (by decide) ?_
  refine lv_iload hx hb dX3_bestFrom_14 (lv_at hl 0 rfl) ?_
  refine lv_aload_n hx hb dX3_bestFrom_16 rfl (lv_at hl 5 rfl) ?_
  refine lv_iload_n hx hb dX3_bestFrom_17 rfl (lv_at hl 3 rfl) ?_
  refine va_iald hx hb hK hP 0 0 rfl rfl (vin (by decide) (by decide)) dX3_bestFrom_18 ?_
  refine lv_topi (fun x16 e16 => ?_)
  obtain rfl : x16 = 0 := e16.trans (by first | rfl | decide)
  refine lv_icmp_gt (tgt := 75) hx hb dX3_bestFrom_19 (by decide) (fun c17 => ?_) (fun c17 => absurd c17 (by decide))
  refine lv_iload hx hb dX3_bestFrom_75 (lv_at hl 1 rfl) ?_
  have hP9 := mx_subP (wc := [(op, .inl (cI, 6, .inl (upd (upd (upd (upd (upd (upd (fun _ => 0) 5 0) 4 0) 3 0) 2 0) 1 0) 0 0))), (oq, .inl (cI, 6, .inl fq)), (ov, .inl (cI, 6, .inl fv))]) hP [0, 1, 2] rfl
  have hD9 := hD.sub (ws' := [(op, .inl (cI, 6, .inl (upd (upd (upd (upd (upd (upd (fun _ => 0) 5 0) 4 0) 3 0) 2 0) 1 0) 0 0))), (oq, .inl (cI, 6, .inl fq)), (ov, .inl (cI, 6, .inl fv))]) [0, 1, 2] (by decide) rfl
  exact W.iret (v := 0) hx hb hr (fun t ht hW => ⟨⟨0, (), rfl, rfl, by rw [ht]; exact hP9, hD9⟩, hS.F ht⟩) hS.2.2 dX3_bestFrom_77
set_option maxHeartbeats 4000000 in
set_option maxRecDepth 100000 in
theorem c_X3_bestFrom_0 (l : Launch) (dC : Nat → ClassId) (dI : Nat → Nat → Nat) (cI cZ cK : ClassId) (tS aK aV : Nat) (op : Nat) (oq : Nat) (ov : Nat) (fq : Nat → Int32) (fv : Nat → Int32) (sz : Nat) : Ci l yX3_bestFrom (wq yX3_bestFrom cX3_bestFrom 8 (some .int)) ({ frames := 6, cells := 0, slots := 0, locals := 162 }) dC dI cI cZ cK tS aK aV [.int 0, .int 800, .ref op, .ref oq, .ref ov] sz [(op, .inl (cI, 6, .inl (upd (upd (upd (upd (upd (upd (fun _ => 0) 5 0) 4 0) 3 0) 2 0) 1 0) 0 0))), (oq, .inl (cI, 6, .inl fq)), (ov, .inl (cI, 6, .inl fv))] (fun (r : Int32) (_ : Unit) => r = 0) (fun _ => [(op, .inl (cI, 6, .inl (upd (upd (upd (upd (upd (upd (fun _ => 0) 5 0) 4 0) 3 0) 2 0) 1 0) 0 0))), (oq, .inl (cI, 6, .inl fq)), (ov, .inl (cI, 6, .inl fv))]) := by
  refine Met.ofW (cc := cX3_bestFrom) (maxL := 8) (ret := (some .int)) (by decide) rfl ?_
  intro p e s m args below meth c s₁ B hml hv
  obtain ⟨rfl, hsz, hP, hKx, hD0⟩ := hv
  have hx := B.exec
  have hb := B.bytes
  have hr := B.returns
  have hts := atoms_spec (ws := wq yX3_bestFrom cX3_bestFrom 8 (some .int)) B.pre
  have hown : s.vm.findClass RX3 = some m.cls := findClass_of_methodNamed B.named
  have hlocks := B.notSynchronized
  subst hsz
  have hD := hD0.self (sz := s.heap.size)
  generalize hAe : va_A [(op, .inl (cI, 6, .inl (upd (upd (upd (upd (upd (upd (fun _ => 0) 5 0) 4 0) 3 0) 2 0) 1 0) 0 0))), (oq, .inl (cI, 6, .inl fq)), (ov, .inl (cI, 6, .inl fv))] s.heap.size = A at hD hKx ⊢
  have hA : ∀ q : Nat, s.heap.size ≤ q → A q := fun q h => by rw [← hAe]; exact Or.inr h
  have hS : va_S A s.heap s.heap [] := va_S.rf
  have hP : va_P (dC, dI) vwCl [(op, .inl (cI, 6, .inl (upd (upd (upd (upd (upd (upd (fun _ => 0) 5 0) 4 0) 3 0) 2 0) 1 0) 0 0))), (oq, .inl (cI, 6, .inl fq)), (ov, .inl (cI, 6, .inl fv))] s.heap := hP
  have hl := lv_entry ([.int 0, .int 800, .ref op, .ref oq, .ref ov]) (n := 8) (Nat.le_of_ble_eq_true rfl)
  rw [lg_entry_eq]
  generalize (lg_sl ([.int 0, .int 800, .ref op, .ref oq, .ref ov]) ++ List.replicate (8 - (lg_sl ([.int 0, .int 800, .ref op, .ref oq, .ref ov])).length) Slot.unset).toArray = ls at hl ⊢
  have hl : lv_has ls 8 [(0, .int 0), (1, .int 800), (2, .ref op), (3, .ref oq), (4, .ref ov)] := hl
  have hK := hKx.1
  have hw0 := hts (.methodLink RX3 52 Lib.Math.max.name) (List.mem_cons_of_mem _ wm_164)
  have hw1 := hts (.static Lib.Math.max.name) (List.mem_cons_of_mem _ wm_165)
  have hw2 := hts (.initialized "java/lang/Math") (List.mem_cons_of_mem _ wm_15)
  have hw3 := hts (.code Lib.Math.max.name Lib.Math.max.code 2 (some .int)) (List.mem_cons_of_mem _ wm_166)
  refine lv_iload_n hx hb dX3_bestFrom_0 rfl (lv_at hl 0 rfl) ?_
  refine lv_bipush (v := 6) hx hb dX3_bestFrom_1 (by decide) ?_
  refine lv_icmp_lt (tgt := 8) hx hb dX3_bestFrom_3 (by decide) (fun c1 => ?_) (fun c1 => absurd c1 (by decide))
  refine lv_iconst (v := 0) hx hb dX3_bestFrom_8 (by decide) ?_
  refine lv_istore (lv' := [(5, .int 0), (0, .int 0), (1, .int 800), (2, .ref op), (3, .ref oq), (4, .ref ov)]) hx hb dX3_bestFrom_9 hl (by decide) rfl (fun ls hl => ?_)
  refine lv_iconst (v := 0) hx hb dX3_bestFrom_11 (by decide) ?_
  refine lv_istore (lv' := [(6, .int 0), (5, .int 0), (0, .int 0), (1, .int 800), (2, .ref op), (3, .ref oq), (4, .ref ov)]) hx hb dX3_bestFrom_12 hl (by decide) rfl (fun ls hl => ?_)
  refine lv_iload hx hb dX3_bestFrom_14 (lv_at hl 0 rfl) ?_
  refine lv_aload_n hx hb dX3_bestFrom_16 rfl (lv_at hl 4 rfl) ?_
  refine lv_iload_n hx hb dX3_bestFrom_17 rfl (lv_at hl 2 rfl) ?_
  refine va_iald hx hb hK hP 0 0 rfl rfl (vin (by decide) (by decide)) dX3_bestFrom_18 ?_
  refine lv_topi (fun x2 e2 => ?_)
  obtain rfl : x2 = 0 := e2.trans (by first | rfl | decide)
  refine lv_icmp_gt (tgt := 75) hx hb dX3_bestFrom_19 (by decide) (fun c3 => absurd c3 (by decide)) (fun c3 => ?_)
  refine lv_iload hx hb dX3_bestFrom_22 (lv_at hl 0 rfl) ?_
  refine lv_aload_n hx hb dX3_bestFrom_24 rfl (lv_at hl 5 rfl) ?_
  refine lv_iload_n hx hb dX3_bestFrom_25 rfl (lv_at hl 2 rfl) ?_
  refine va_iald hx hb hK hP 1 0 rfl rfl (vin (by decide) (by decide)) dX3_bestFrom_26 ?_
  refine lv_topi (fun x4 e4 => ?_)
  refine lv_imul hx hb dX3_bestFrom_27 ?_
  refine lv_topi (fun x5 e5 => ?_)
  obtain rfl : x5 = 0 := e5.trans (by simp)
  refine lv_iload_n hx hb dX3_bestFrom_28 rfl (lv_at hl 3 rfl) ?_
  refine lv_icmp_gt (tgt := 75) hx hb dX3_bestFrom_29 (by decide) (fun c6 => absurd c6 (by decide)) (fun c6 => ?_)
  refine lv_iload_n hx hb dX3_bestFrom_32 rfl (lv_at hl 2 rfl) ?_
  refine lv_iconst (v := 1) hx hb dX3_bestFrom_33 (by decide) ?_
  refine lv_iadd hx hb dX3_bestFrom_34 ?_
  refine lv_topi (fun x7 e7 => ?_)
  obtain rfl : x7 = 1 := e7.trans (by decide)
  refine lv_iload_n hx hb dX3_bestFrom_35 rfl (lv_at hl 3 rfl) ?_
  refine lv_iload hx hb dX3_bestFrom_36 (lv_at hl 0 rfl) ?_
  refine lv_aload_n hx hb dX3_bestFrom_38 rfl (lv_at hl 5 rfl) ?_
  refine lv_iload_n hx hb dX3_bestFrom_39 rfl (lv_at hl 2 rfl) ?_
  refine va_iald hx hb hK hP 1 0 rfl rfl (vin (by decide) (by decide)) dX3_bestFrom_40 ?_
  refine lv_topi (fun x8 e8 => ?_)
  refine lv_imul hx hb dX3_bestFrom_41 ?_
  refine lv_topi (fun x9 e9 => ?_)
  obtain rfl : x9 = 0 := e9.trans (by simp)
  refine lv_isub hx hb dX3_bestFrom_42 ?_
  refine lv_topi (fun x10 e10 => ?_)
  obtain rfl : x10 = 800 := e10.trans (by decide)
  refine lv_aload_n hx hb dX3_bestFrom_43 rfl (lv_at hl 4 rfl) ?_
  refine lv_aload_n hx hb dX3_bestFrom_44 rfl (lv_at hl 5 rfl) ?_
  refine lv_aload hx hb dX3_bestFrom_45 (lv_at hl 6 rfl) ?_
  refine mx_i (wr := []) (va_runS (As := [.int 1, .int 800, .ref op, .ref oq, .ref ov]) (rest := []) ⟨hx, hb, hml, hown, hts⟩ (c_X3_bestFrom_1 l dC dI cI cZ cK tS aK aV op oq ov fq fv s.heap.size) (va_cwS 5 hts (gw_s (fun _ h9 => List.mem_cons_of_mem _ h9) wm_161 wm_162 wm_146 wm_163) rfl rfl rfl (by decide +kernel) ⟨Nat.le_of_ble_eq_true rfl, Nat.le_of_ble_eq_true rfl⟩) (mx_preS hKx hP hD hS hA [0, 1, 2] (by decide) rfl) rfl rfl hl.1 rfl (lv_room (Nat.le_of_ble_eq_true rfl)) dX3_bestFrom_47 ⟨Nat.le_of_ble_eq_true rfl, Nat.le_of_ble_eq_true rfl⟩) hP hD hS hA [0, 1, 2] [] rfl rfl (by decide) (by decide) (fun r11 u11 H locs hq11 hP hD hS => ?_)
  replace hP : va_P (dC, dI) vwCl [(op, .inl (cI, 6, .inl (upd (upd (upd (upd (upd (upd (fun _ => 0) 5 0) 4 0) 3 0) 2 0) 1 0) 0 0))), (oq, .inl (cI, 6, .inl fq)), (ov, .inl (cI, 6, .inl fv))] H := hP
  replace hD : va_D A [(op, .inl (cI, 6, .inl (upd (upd (upd (upd (upd (upd (fun _ => 0) 5 0) 4 0) 3 0) 2 0) 1 0) 0 0))), (oq, .inl (cI, 6, .inl fq)), (ov, .inl (cI, 6, .inl fv))] := hD
  obtain rfl : r11 = 0 := hq11
  refine lv_istore (lv' := [(7, .int 0), (6, .int 0), (5, .int 0), (0, .int 0), (1, .int 800), (2, .ref op), (3, .ref oq), (4, .ref ov)]) hx hb dX3_bestFrom_50 hl (by decide) rfl (fun ls hl => ?_)
  refine lv_iload hx hb dX3_bestFrom_52 (lv_at hl 2 rfl) ?_
  refine lv_iload hx hb dX3_bestFrom_54 (lv_at hl 1 rfl) ?_
  refine lv_aload hx hb dX3_bestFrom_56 (lv_at hl 7 rfl) ?_
  refine lv_iload_n hx hb dX3_bestFrom_58 rfl (lv_at hl 3 rfl) ?_
  refine va_iald hx hb hK hP 2 0 rfl rfl (vin (by decide) (by decide)) dX3_bestFrom_59 ?_
  refine lv_topi (fun x12 e12 => ?_)
  refine lv_imul hx hb dX3_bestFrom_60 ?_
  refine lv_topi (fun x13 e13 => ?_)
  obtain rfl : x13 = 0 := e13.trans (by simp)
  refine lv_iload hx hb dX3_bestFrom_61 (lv_at hl 0 rfl) ?_
  refine lv_iadd hx hb dX3_bestFrom_63 ?_
  refine lv_topi (fun x14 e14 => ?_)
  obtain rfl : x14 = 0 := e14.trans (by decide)
  refine va_mmax hx hb (hml.trans hl.1.symm) hown hw0 hw1 hw2 hw3 (Nat.le_of_ble_eq_true rfl) (Nat.le_of_ble_eq_true rfl) (Nat.le_of_ble_eq_true rfl) (Nat.le_of_ble_eq_true rfl) dX3_bestFrom_64 ?_
  refine lv_topi (fun x15 e15 => ?_)
  obtain rfl : x15 = 0 := e15.trans (by decide)
  refine lv_istore (lv' := [(5, .int 0), (7, .int 0), (6, .int 0), (0, .int 0), (1, .int 800), (2, .ref op), (3, .ref oq), (4, .ref ov)]) hx hb dX3_bestFrom_67 hl (by decide) rfl (fun ls hl => ?_)
  refine lv_iinc (v := 1) (lv' := [(6, .int 1), (5, .int 0), (7, .int 0), (0, .int 0), (1, .int 800), (2, .ref op), (3, .ref oq), (4, .ref ov)]) hx hb dX3_bestFrom_69 hl (k := 2) rfl (by decide) (by decide) rfl (fun ls hl => ?_)
  refine lv_goto (tgt := 14) hx hb dX3_bestFrom_72 (by decide) ?_
  refine lv_iload hx hb dX3_bestFrom_14 (lv_at hl 0 rfl) ?_
  refine lv_aload_n hx hb dX3_bestFrom_16 rfl (lv_at hl 5 rfl) ?_
  refine lv_iload_n hx hb dX3_bestFrom_17 rfl (lv_at hl 3 rfl) ?_
  refine va_iald hx hb hK hP 0 0 rfl rfl (vin (by decide) (by decide)) dX3_bestFrom_18 ?_
  refine lv_topi (fun x16 e16 => ?_)
  obtain rfl : x16 = 0 := e16.trans (by first | rfl | decide)
  refine lv_icmp_gt (tgt := 75) hx hb dX3_bestFrom_19 (by decide) (fun c17 => ?_) (fun c17 => absurd c17 (by decide))
  refine lv_iload hx hb dX3_bestFrom_75 (lv_at hl 1 rfl) ?_
  have hP9 := mx_subP (wc := [(op, .inl (cI, 6, .inl (upd (upd (upd (upd (upd (upd (fun _ => 0) 5 0) 4 0) 3 0) 2 0) 1 0) 0 0))), (oq, .inl (cI, 6, .inl fq)), (ov, .inl (cI, 6, .inl fv))]) hP [0, 1, 2] rfl
  have hD9 := hD.sub (ws' := [(op, .inl (cI, 6, .inl (upd (upd (upd (upd (upd (upd (fun _ => 0) 5 0) 4 0) 3 0) 2 0) 1 0) 0 0))), (oq, .inl (cI, 6, .inl fq)), (ov, .inl (cI, 6, .inl fv))]) [0, 1, 2] (by decide) rfl
  exact W.iret (v := 0) hx hb hr (fun t ht hW => ⟨⟨0, (), rfl, rfl, by rw [ht]; exact hP9, hD9⟩, hS.F ht⟩) hS.2.2 dX3_bestFrom_77
