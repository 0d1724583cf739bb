set_option maxHeartbeats 4000000 in
set_option maxRecDepth 100000 in
theorem c_J6_bitCount_0f7a4_8 (l : Launch) (dC : Nat → ClassId) (dI : Nat → Nat → Nat) (cI cZ cK : ClassId) (tS aK aV : Nat) (sz : Nat) : Ci l yJ6_bitCount_0f7a4 (wq yJ6_bitCount_0f7a4 cJ6_bitCount_0f7a4 1 (some .int)) ({ frames := 0, cells := 0, slots := 0, locals := 0 }) dC dI cI cZ cK tS aK aV [.int 8] sz [] (fun (r : Int32) (_ : Unit) => r = 1) (fun _ => []) := by
  refine Met.ofW (cc := cJ6_bitCount_0f7a4) (maxL := 1) (ret := (some .int)) (by decide) rfl ?_
  intro p e s m args below meth c s₁ B hml hv
  obtain ⟨rfl, hsz, hP, hKx, hD0⟩ := hv
  have hx := B.exec
  have hb := B.bytes
  have hr := B.returns
  have hts := atoms_spec (ws := wq yJ6_bitCount_0f7a4 cJ6_bitCount_0f7a4 1 (some .int)) B.pre
  have hown : s.vm.findClass RJ6 = some m.cls := findClass_of_methodNamed B.named
  have hlocks := B.notSynchronized
  subst hsz
  have hD := hD0.self (sz := s.heap.size)
  generalize hAe : va_A [] s.heap.size = A at hD hKx ⊢
  have hA : ∀ q : Nat, s.heap.size ≤ q → A q := fun q h => by rw [← hAe]; exact Or.inr h
  have hS : va_S A s.heap s.heap [] := va_S.rf
  have hP : va_P (dC, dI) vwCl [] s.heap := hP
  have hl := lv_entry ([.int 8]) (n := 1) (Nat.le_of_ble_eq_true rfl)
  rw [lg_entry_eq]
  generalize (lg_sl ([.int 8]) ++ List.replicate (1 - (lg_sl ([.int 8])).length) Slot.unset).toArray = ls at hl ⊢
  have hl : lv_has ls 1 [(0, .int 8)] := hl
  have hK := hKx.1
  have hw0 := hts (.constant RJ6 265 1431655765) (List.mem_cons_of_mem _ wm_107)
  have hw1 := hts (.constant RJ6 266 858993459) (List.mem_cons_of_mem _ wm_108)
  have hw2 := hts (.constant RJ6 267 252645135) (List.mem_cons_of_mem _ wm_109)
  refine lv_iload_n hx hb dJ6_bitCount_0f7a4_0 rfl (lv_at hl 0 rfl) ?_
  refine lv_iload_n hx hb dJ6_bitCount_0f7a4_1 rfl (lv_at hl 0 rfl) ?_
  refine lv_iconst (v := 1) hx hb dJ6_bitCount_0f7a4_2 (by decide) ?_
  refine lv_iushr (v := 4) hx hb dJ6_bitCount_0f7a4_3 (by decide) ?_
  refine lv_ldcw (v := 1431655765) hx hb hown hw0 dJ6_bitCount_0f7a4_4 ?_
  refine lv_iand hx hb dJ6_bitCount_0f7a4_7 ?_
  refine lv_topi (fun x1 e1 => ?_)
  obtain rfl : x1 = 4 := e1.trans (by decide)
  refine lv_isub hx hb dJ6_bitCount_0f7a4_8 ?_
  refine lv_topi (fun x2 e2 => ?_)
  obtain rfl : x2 = 4 := e2.trans (by decide)
  refine lv_istore_n (lv' := [(0, .int 4)]) hx hb dJ6_bitCount_0f7a4_9 rfl hl (by decide) rfl (fun ls hl => ?_)
  refine lv_iload_n hx hb dJ6_bitCount_0f7a4_10 rfl (lv_at hl 0 rfl) ?_
  refine lv_ldcw (v := 858993459) hx hb hown hw1 dJ6_bitCount_0f7a4_11 ?_
  refine lv_iand hx hb dJ6_bitCount_0f7a4_14 ?_
  refine lv_topi (fun x3 e3 => ?_)
  obtain rfl : x3 = 0 := e3.trans (by decide)
  refine lv_iload_n hx hb dJ6_bitCount_0f7a4_15 rfl (lv_at hl 0 rfl) ?_
  refine lv_iconst (v := 2) hx hb dJ6_bitCount_0f7a4_16 (by decide) ?_
  refine lv_iushr (v := 1) hx hb dJ6_bitCount_0f7a4_17 (by decide) ?_
  refine lv_ldcw (v := 858993459) hx hb hown hw1 dJ6_bitCount_0f7a4_18 ?_
  refine lv_iand hx hb dJ6_bitCount_0f7a4_21 ?_
  refine lv_topi (fun x4 e4 => ?_)
  obtain rfl : x4 = 1 := e4.trans (by decide)
  refine lv_iadd hx hb dJ6_bitCount_0f7a4_22 ?_
  refine lv_topi (fun x5 e5 => ?_)
  obtain rfl : x5 = 1 := e5.trans (by decide)
  refine lv_istore_n (lv' := [(0, .int 1)]) hx hb dJ6_bitCount_0f7a4_23 rfl hl (by decide) rfl (fun ls hl => ?_)
  refine lv_iload_n hx hb dJ6_bitCount_0f7a4_24 rfl (lv_at hl 0 rfl) ?_
  refine lv_iload_n hx hb dJ6_bitCount_0f7a4_25 rfl (lv_at hl 0 rfl) ?_
  refine lv_iconst (v := 4) hx hb dJ6_bitCount_0f7a4_26 (by decide) ?_
  refine lv_iushr (v := 0) hx hb dJ6_bitCount_0f7a4_27 (by decide) ?_
  refine lv_iadd hx hb dJ6_bitCount_0f7a4_28 ?_
  refine lv_topi (fun x6 e6 => ?_)
  obtain rfl : x6 = 1 := e6.trans (by decide)
  refine lv_ldcw (v := 252645135) hx hb hown hw2 dJ6_bitCount_0f7a4_29 ?_
  refine lv_iand hx hb dJ6_bitCount_0f7a4_32 ?_
  refine lv_topi (fun x7 e7 => ?_)
  obtain rfl : x7 = 1 := e7.trans (by decide)
  refine lv_istore_n (lv' := [(0, .int 1)]) hx hb dJ6_bitCount_0f7a4_33 rfl hl (by decide) rfl (fun ls hl => ?_)
  refine lv_iload_n hx hb dJ6_bitCount_0f7a4_34 rfl (lv_at hl 0 rfl) ?_
  refine lv_iload_n hx hb dJ6_bitCount_0f7a4_35 rfl (lv_at hl 0 rfl) ?_
  refine lv_bipush (v := 8) hx hb dJ6_bitCount_0f7a4_36 (by decide) ?_
  refine lv_iushr (v := 0) hx hb dJ6_bitCount_0f7a4_38 (by decide) ?_
  refine lv_iadd hx hb dJ6_bitCount_0f7a4_39 ?_
  refine lv_topi (fun x8 e8 => ?_)
  obtain rfl : x8 = 1 := e8.trans (by decide)
  refine lv_istore_n (lv' := [(0, .int 1)]) hx hb dJ6_bitCount_0f7a4_40 rfl hl (by decide) rfl (fun ls hl => ?_)
  refine lv_iload_n hx hb dJ6_bitCount_0f7a4_41 rfl (lv_at hl 0 rfl) ?_
  refine lv_iload_n hx hb dJ6_bitCount_0f7a4_42 rfl (lv_at hl 0 rfl) ?_
  refine lv_bipush (v := 16) hx hb dJ6_bitCount_0f7a4_43 (by decide) ?_
  refine lv_iushr (v := 0) hx hb dJ6_bitCount_0f7a4_45 (by decide) ?_
  refine lv_iadd hx hb dJ6_bitCount_0f7a4_46 ?_
  refine lv_topi (fun x9 e9 => ?_)
  obtain rfl : x9 = 1 := e9.trans (by decide)
  refine lv_istore_n (lv' := [(0, .int 1)]) hx hb dJ6_bitCount_0f7a4_47 rfl hl (by decide) rfl (fun ls hl => ?_)
  refine lv_iload_n hx hb dJ6_bitCount_0f7a4_48 rfl (lv_at hl 0 rfl) ?_
  refine lv_bipush (v := 63) hx hb dJ6_bitCount_0f7a4_49 (by decide) ?_
  refine lv_iand hx hb dJ6_bitCount_0f7a4_51 ?_
  refine lv_topi (fun x10 e10 => ?_)
  obtain rfl : x10 = 1 := e10.trans (by decide)
  have hP9 := mx_subP (wc := []) hP [] rfl
  have hD9 := hD.sub (ws' := []) [] (by decide) rfl
  exact W.iret (v := 1) hx hb hr (fun t ht hW => ⟨⟨1, (), rfl, rfl, by rw [ht]; exact hP9, hD9⟩, hS.F ht⟩) hS.2.2 dJ6_bitCount_0f7a4_52
set_option maxHeartbeats 4000000 in
set_option maxRecDepth 100000 in
theorem c_J6_bitCount_0f7a4_16 (l : Launch) (dC : Nat → ClassId) (dI : Nat → Nat → Nat) (cI cZ cK : ClassId) (tS aK aV : Nat) (sz : Nat) : Ci l yJ6_bitCount_0f7a4 (wq yJ6_bitCount_0f7a4 cJ6_bitCount_0f7a4 1 (some .int)) ({ frames := 0, cells := 0, slots := 0, locals := 0 }) dC dI cI cZ cK tS aK aV [.int 16] sz [] (fun (r : Int32) (_ : Unit) => r = 1) (fun _ => []) := by
  refine Met.ofW (cc := cJ6_bitCount_0f7a4) (maxL := 1) (ret := (some .int)) (by decide) rfl ?_
  intro p e s m args below meth c s₁ B hml hv
  obtain ⟨rfl, hsz, hP, hKx, hD0⟩ := hv
  have hx := B.exec
  have hb := B.bytes
  have hr := B.returns
  have hts := atoms_spec (ws := wq yJ6_bitCount_0f7a4 cJ6_bitCount_0f7a4 1 (some .int)) B.pre
  have hown : s.vm.findClass RJ6 = some m.cls := findClass_of_methodNamed B.named
  have hlocks := B.notSynchronized
  subst hsz
  have hD := hD0.self (sz := s.heap.size)
  generalize hAe : va_A [] s.heap.size = A at hD hKx ⊢
  have hA : ∀ q : Nat, s.heap.size ≤ q → A q := fun q h => by rw [← hAe]; exact Or.inr h
  have hS : va_S A s.heap s.heap [] := va_S.rf
  have hP : va_P (dC, dI) vwCl [] s.heap := hP
  have hl := lv_entry ([.int 16]) (n := 1) (Nat.le_of_ble_eq_true rfl)
  rw [lg_entry_eq]
  generalize (lg_sl ([.int 16]) ++ List.replicate (1 - (lg_sl ([.int 16])).length) Slot.unset).toArray = ls at hl ⊢
  have hl : lv_has ls 1 [(0, .int 16)] := hl
  have hK := hKx.1
  have hw0 := hts (.constant RJ6 265 1431655765) (List.mem_cons_of_mem _ wm_107)
  have hw1 := hts (.constant RJ6 266 858993459) (List.mem_cons_of_mem _ wm_108)
  have hw2 := hts (.constant RJ6 267 252645135) (List.mem_cons_of_mem _ wm_109)
  refine lv_iload_n hx hb dJ6_bitCount_0f7a4_0 rfl (lv_at hl 0 rfl) ?_
  refine lv_iload_n hx hb dJ6_bitCount_0f7a4_1 rfl (lv_at hl 0 rfl) ?_
  refine lv_iconst (v := 1) hx hb dJ6_bitCount_0f7a4_2 (by decide) ?_
  refine lv_iushr (v := 8) hx hb dJ6_bitCount_0f7a4_3 (by decide) ?_
  refine lv_ldcw (v := 1431655765) hx hb hown hw0 dJ6_bitCount_0f7a4_4 ?_
  refine lv_iand hx hb dJ6_bitCount_0f7a4_7 ?_
  refine lv_topi (fun x1 e1 => ?_)
  obtain rfl : x1 = 0 := e1.trans (by decide)
  refine lv_isub hx hb dJ6_bitCount_0f7a4_8 ?_
  refine lv_topi (fun x2 e2 => ?_)
  obtain rfl : x2 = 16 := e2.trans (by decide)
  refine lv_istore_n (lv' := [(0, .int 16)]) hx hb dJ6_bitCount_0f7a4_9 rfl hl (by decide) rfl (fun ls hl => ?_)
  refine lv_iload_n hx hb dJ6_bitCount_0f7a4_10 rfl (lv_at hl 0 rfl) ?_
  refine lv_ldcw (v := 858993459) hx hb hown hw1 dJ6_bitCount_0f7a4_11 ?_
  refine lv_iand hx hb dJ6_bitCount_0f7a4_14 ?_
  refine lv_topi (fun x3 e3 => ?_)
  obtain rfl : x3 = 16 := e3.trans (by decide)
  refine lv_iload_n hx hb dJ6_bitCount_0f7a4_15 rfl (lv_at hl 0 rfl) ?_
  refine lv_iconst (v := 2) hx hb dJ6_bitCount_0f7a4_16 (by decide) ?_
  refine lv_iushr (v := 4) hx hb dJ6_bitCount_0f7a4_17 (by decide) ?_
  refine lv_ldcw (v := 858993459) hx hb hown hw1 dJ6_bitCount_0f7a4_18 ?_
  refine lv_iand hx hb dJ6_bitCount_0f7a4_21 ?_
  refine lv_topi (fun x4 e4 => ?_)
  obtain rfl : x4 = 0 := e4.trans (by decide)
  refine lv_iadd hx hb dJ6_bitCount_0f7a4_22 ?_
  refine lv_topi (fun x5 e5 => ?_)
  obtain rfl : x5 = 16 := e5.trans (by decide)
  refine lv_istore_n (lv' := [(0, .int 16)]) hx hb dJ6_bitCount_0f7a4_23 rfl hl (by decide) rfl (fun ls hl => ?_)
  refine lv_iload_n hx hb dJ6_bitCount_0f7a4_24 rfl (lv_at hl 0 rfl) ?_
  refine lv_iload_n hx hb dJ6_bitCount_0f7a4_25 rfl (lv_at hl 0 rfl) ?_
  refine lv_iconst (v := 4) hx hb dJ6_bitCount_0f7a4_26 (by decide) ?_
  refine lv_iushr (v := 1) hx hb dJ6_bitCount_0f7a4_27 (by decide) ?_
  refine lv_iadd hx hb dJ6_bitCount_0f7a4_28 ?_
  refine lv_topi (fun x6 e6 => ?_)
  obtain rfl : x6 = 17 := e6.trans (by decide)
  refine lv_ldcw (v := 252645135) hx hb hown hw2 dJ6_bitCount_0f7a4_29 ?_
  refine lv_iand hx hb dJ6_bitCount_0f7a4_32 ?_
  refine lv_topi (fun x7 e7 => ?_)
  obtain rfl : x7 = 1 := e7.trans (by decide)
  refine lv_istore_n (lv' := [(0, .int 1)]) hx hb dJ6_bitCount_0f7a4_33 rfl hl (by decide) rfl (fun ls hl => ?_)
  refine lv_iload_n hx hb dJ6_bitCount_0f7a4_34 rfl (lv_at hl 0 rfl) ?_
  refine lv_iload_n hx hb dJ6_bitCount_0f7a4_35 rfl (lv_at hl 0 rfl) ?_
  refine lv_bipush (v := 8) hx hb dJ6_bitCount_0f7a4_36 (by decide) ?_
  refine lv_iushr (v := 0) hx hb dJ6_bitCount_0f7a4_38 (by decide) ?_
  refine lv_iadd hx hb dJ6_bitCount_0f7a4_39 ?_
  refine lv_topi (fun x8 e8 => ?_)
  obtain rfl : x8 = 1 := e8.trans (by decide)
  refine lv_istore_n (lv' := [(0, .int 1)]) hx hb dJ6_bitCount_0f7a4_40 rfl hl (by decide) rfl (fun ls hl => ?_)
  refine lv_iload_n hx hb dJ6_bitCount_0f7a4_41 rfl (lv_at hl 0 rfl) ?_
  refine lv_iload_n hx hb dJ6_bitCount_0f7a4_42 rfl (lv_at hl 0 rfl) ?_
  refine lv_bipush (v := 16) hx hb dJ6_bitCount_0f7a4_43 (by decide) ?_
  refine lv_iushr (v := 0) hx hb dJ6_bitCount_0f7a4_45 (by decide) ?_
  refine lv_iadd hx hb dJ6_bitCount_0f7a4_46 ?_
  refine lv_topi (fun x9 e9 => ?_)
  obtain rfl : x9 = 1 := e9.trans (by decide)
  refine lv_istore_n (lv' := [(0, .int 1)]) hx hb dJ6_bitCount_0f7a4_47 rfl hl (by decide) rfl (fun ls hl => ?_)
  refine lv_iload_n hx hb dJ6_bitCount_0f7a4_48 rfl (lv_at hl 0 rfl) ?_
  refine lv_bipush (v := 63) hx hb dJ6_bitCount_0f7a4_49 (by decide) ?_
  refine lv_iand hx hb dJ6_bitCount_0f7a4_51 ?_
  refine lv_topi (fun x10 e10 => ?_)
  obtain rfl : x10 = 1 := e10.trans (by decide)
  have hP9 := mx_subP (wc := []) hP [] rfl
  have hD9 := hD.sub (ws' := []) [] (by decide) rfl
  exact W.iret (v := 1) hx hb hr (fun t ht hW => ⟨⟨1, (), rfl, rfl, by rw [ht]; exact hP9, hD9⟩, hS.F ht⟩) hS.2.2 dJ6_bitCount_0f7a4_52
set_option maxHeartbeats 4000000 in
set_option maxRecDepth 100000 in
theorem c_J6_bitCount_0f7a4_32 (l : Launch) (dC : Nat → ClassId) (dI : Nat → Nat → Nat) (cI cZ cK : ClassId) (tS aK aV : Nat) (sz : Nat) : Ci l yJ6_bitCount_0f7a4 (wq yJ6_bitCount_0f7a4 cJ6_bitCount_0f7a4 1 (some .int)) ({ frames := 0, cells := 0, slots := 0, locals := 0 }) dC dI cI cZ cK tS aK aV [.int 32] sz [] (fun (r : Int32) (_ : Unit) => r = 1) (fun _ => []) := by
  refine Met.ofW (cc := cJ6_bitCount_0f7a4) (maxL := 1) (ret := (some .int)) (by decide) rfl ?_
  intro p e s m args below meth c s₁ B hml hv
  obtain ⟨rfl, hsz, hP, hKx, hD0⟩ := hv
  have hx := B.exec
  have hb := B.bytes
  have hr := B.returns
  have hts := atoms_spec (ws := wq yJ6_bitCount_0f7a4 cJ6_bitCount_0f7a4 1 (some .int)) B.pre
  have hown : s.vm.findClass RJ6 = some m.cls := findClass_of_methodNamed B.named
  have hlocks := B.notSynchronized
  subst hsz
  have hD := hD0.self (sz := s.heap.size)
  generalize hAe : va_A [] s.heap.size = A at hD hKx ⊢
  have hA : ∀ q : Nat, s.heap.size ≤ q → A q := fun q h => by rw [← hAe]; exact Or.inr h
  have hS : va_S A s.heap s.heap [] := va_S.rf
  have hP : va_P (dC, dI) vwCl [] s.heap := hP
  have hl := lv_entry ([.int 32]) (n := 1) (Nat.le_of_ble_eq_true rfl)
  rw [lg_entry_eq]
  generalize (lg_sl ([.int 32]) ++ List.replicate (1 - (lg_sl ([.int 32])).length) Slot.unset).toArray = ls at hl ⊢
  have hl : lv_has ls 1 [(0, .int 32)] := hl
  have hK := hKx.1
  have hw0 := hts (.constant RJ6 265 1431655765) (List.mem_cons_of_mem _ wm_107)
  have hw1 := hts (.constant RJ6 266 858993459) (List.mem_cons_of_mem _ wm_108)
  have hw2 := hts (.constant RJ6 267 252645135) (List.mem_cons_of_mem _ wm_109)
  refine lv_iload_n hx hb dJ6_bitCount_0f7a4_0 rfl (lv_at hl 0 rfl) ?_
  refine lv_iload_n hx hb dJ6_bitCount_0f7a4_1 rfl (lv_at hl 0 rfl) ?_
  refine lv_iconst (v := 1) hx hb dJ6_bitCount_0f7a4_2 (by decide) ?_
  refine lv_iushr (v := 16) hx hb dJ6_bitCount_0f7a4_3 (by decide) ?_
  refine lv_ldcw (v := 1431655765) hx hb hown hw0 dJ6_bitCount_0f7a4_4 ?_
  refine lv_iand hx hb dJ6_bitCount_0f7a4_7 ?_
  refine lv_topi (fun x1 e1 => ?_)
  obtain rfl : x1 = 16 := e1.trans (by decide)
  refine lv_isub hx hb dJ6_bitCount_0f7a4_8 ?_
  refine lv_topi (fun x2 e2 => ?_)
  obtain rfl : x2 = 16 := e2.trans (by decide)
  refine lv_istore_n (lv' := [(0, .int 16)]) hx hb dJ6_bitCount_0f7a4_9 rfl hl (by decide) rfl (fun ls hl => ?_)
  refine lv_iload_n hx hb dJ6_bitCount_0f7a4_10 rfl (lv_at hl 0 rfl) ?_
  refine lv_ldcw (v := 858993459) hx hb hown hw1 dJ6_bitCount_0f7a4_11 ?_
  refine lv_iand hx hb dJ6_bitCount_0f7a4_14 ?_
  refine lv_topi (fun x3 e3 => ?_)
  obtain rfl : x3 = 16 := e3.trans (by decide)
  refine lv_iload_n hx hb dJ6_bitCount_0f7a4_15 rfl (lv_at hl 0 rfl) ?_
  refine lv_iconst (v := 2) hx hb dJ6_bitCount_0f7a4_16 (by decide) ?_
  refine lv_iushr (v := 4) hx hb dJ6_bitCount_0f7a4_17 (by decide) ?_
  refine lv_ldcw (v := 858993459) hx hb hown hw1 dJ6_bitCount_0f7a4_18 ?_
  refine lv_iand hx hb dJ6_bitCount_0f7a4_21 ?_
  refine lv_topi (fun x4 e4 => ?_)
  obtain rfl : x4 = 0 := e4.trans (by decide)
  refine lv_iadd hx hb dJ6_bitCount_0f7a4_22 ?_
  refine lv_topi (fun x5 e5 => ?_)
  obtain rfl : x5 = 16 := e5.trans (by decide)
  refine lv_istore_n (lv' := [(0, .int 16)]) hx hb dJ6_bitCount_0f7a4_23 rfl hl (by decide) rfl (fun ls hl => ?_)
  refine lv_iload_n hx hb dJ6_bitCount_0f7a4_24 rfl (lv_at hl 0 rfl) ?_
  refine lv_iload_n hx hb dJ6_bitCount_0f7a4_25 rfl (lv_at hl 0 rfl) ?_
  refine lv_iconst (v := 4) hx hb dJ6_bitCount_0f7a4_26 (by decide) ?_
  refine lv_iushr (v := 1) hx hb dJ6_bitCount_0f7a4_27 (by decide) ?_
  refine lv_iadd hx hb dJ6_bitCount_0f7a4_28 ?_
  refine lv_topi (fun x6 e6 => ?_)
  obtain rfl : x6 = 17 := e6.trans (by decide)
  refine lv_ldcw (v := 252645135) hx hb hown hw2 dJ6_bitCount_0f7a4_29 ?_
  refine lv_iand hx hb dJ6_bitCount_0f7a4_32 ?_
  refine lv_topi (fun x7 e7 => ?_)
  obtain rfl : x7 = 1 := e7.trans (by decide)
  refine lv_istore_n (lv' := [(0, .int 1)]) hx hb dJ6_bitCount_0f7a4_33 rfl hl (by decide) rfl (fun ls hl => ?_)
  refine lv_iload_n hx hb dJ6_bitCount_0f7a4_34 rfl (lv_at hl 0 rfl) ?_
  refine lv_iload_n hx hb dJ6_bitCount_0f7a4_35 rfl (lv_at hl 0 rfl) ?_
  refine lv_bipush (v := 8) hx hb dJ6_bitCount_0f7a4_36 (by decide) ?_
  refine lv_iushr (v := 0) hx hb dJ6_bitCount_0f7a4_38 (by decide) ?_
  refine lv_iadd hx hb dJ6_bitCount_0f7a4_39 ?_
  refine lv_topi (fun x8 e8 => ?_)
  obtain rfl : x8 = 1 := e8.trans (by decide)
  refine lv_istore_n (lv' := [(0, .int 1)]) hx hb dJ6_bitCount_0f7a4_40 rfl hl (by decide) rfl (fun ls hl => ?_)
  refine lv_iload_n hx hb dJ6_bitCount_0f7a4_41 rfl (lv_at hl 0 rfl) ?_
  refine lv_iload_n hx hb dJ6_bitCount_0f7a4_42 rfl (lv_at hl 0 rfl) ?_
  refine lv_bipush (v := 16) hx hb dJ6_bitCount_0f7a4_43 (by decide) ?_
  refine lv_iushr (v := 0) hx hb dJ6_bitCount_0f7a4_45 (by decide) ?_
  refine lv_iadd hx hb dJ6_bitCount_0f7a4_46 ?_
  refine lv_topi (fun x9 e9 => ?_)
  obtain rfl : x9 = 1 := e9.trans (by decide)
  refine lv_istore_n (lv' := [(0, .int 1)]) hx hb dJ6_bitCount_0f7a4_47 rfl hl (by decide) rfl (fun ls hl => ?_)
  refine lv_iload_n hx hb dJ6_bitCount_0f7a4_48 rfl (lv_at hl 0 rfl) ?_
  refine lv_bipush (v := 63) hx hb dJ6_bitCount_0f7a4_49 (by decide) ?_
  refine lv_iand hx hb dJ6_bitCount_0f7a4_51 ?_
  refine lv_topi (fun x10 e10 => ?_)
  obtain rfl : x10 = 1 := e10.trans (by decide)
  have hP9 := mx_subP (wc := []) hP [] rfl
  have hD9 := hD.sub (ws' := []) [] (by decide) rfl
  exact W.iret (v := 1) hx hb hr (fun t ht hW => ⟨⟨1, (), rfl, rfl, by rw [ht]; exact hP9, hD9⟩, hS.F ht⟩) hS.2.2 dJ6_bitCount_0f7a4_52
set_option maxHeartbeats 4000000 in
set_option maxRecDepth 100000 in
theorem c_X7_meal (l : Launch) (dC : Nat → ClassId) (dI : Nat → Nat → Nat) (cI cZ cK : ClassId) (tS aK aV : Nat) (h : Nat) (o : Nat) (f : Nat) (g : Nat) (wk : Nat) (im : Nat) (kt : Nat) (dl : Nat) (j : Nat) (k : Nat) (ks : Nat) (kw : Nat) (kc : Nat) (kq : Nat) (km : Nat) (kd : Nat) (ka : Nat) (kk : Nat) (d : Nat) (i0 : Int32) (i1 : Int32) (i2 : Int32) (i3 : Int32) (sz : Nat) : Ci l yX7_meal (wq yX7_meal cX7_meal 5 (some .int)) ({ frames := 1, cells := 0, slots := 0, locals := 22 }) dC dI cI cZ cK tS aK aV [.ref h, .int i0, .int i1, .int i2, .int i3] sz [(h, .inr (7, [.ref k, .ref d, .ref j, .ref o, .ref f, .ref g, .ref wk, .ref im, .ref kt, .ref dl])), (k, .inr (0, [.ref ks, .ref kw, .ref kc, .int (-6), .int 0, .int 0, .ref kq, .ref km, .ref kd, .int 0, .ref ka, .ref kk])), (kq, .inl (cI, 6, .inl (fun _ => 0))), (km, .inl (cI, 6, .inl (fun _ => 0))), (kd, .inl (cI, 6, .inl (fun _ => 0)))] (fun (r : Int32) (_ : Unit) => (r = 1 ∧ (0 ≤ i0.toInt ∧ i0.toInt ≤ 5 ∧ 1 ≤ i1.toInt ∧ i1.toInt ≤ 4 ∧ 0 ≤ i2.toInt ∧ i2.toInt ≤ 60 ∧ 1 ≤ i3.toInt ∧ i3.toInt ≤ 100)) ∨ (r = (-1) ∧ (i0.toInt < 0 ∨ 5 < i0.toInt)) ∨ (r = (-2) ∧ (0 ≤ i0.toInt ∧ i0.toInt ≤ 5 ∧ (i1.toInt < 1 ∨ 4 < i1.toInt ∨ i2.toInt < 0 ∨ 60 < i2.toInt ∨ i3.toInt < 1 ∨ 100 < i3.toInt)))) (fun _ => []) := by
  refine Met.ofW (cc := cX7_meal) (maxL := 5) (ret := (some .int)) (by decide) rfl ?_
  intro p e s m args below meth c s₁ B hml hv
  obtain ⟨rfl, hsz, hP, hKx, hD0⟩ := hv
  have hx := B.exec
  have hb := B.bytes
  have hr := B.returns
  have hts := atoms_spec (ws := wq yX7_meal cX7_meal 5 (some .int)) B.pre
  have hown : s.vm.findClass RX7 = some m.cls := findClass_of_methodNamed B.named
  have hlocks := B.notSynchronized
  subst hsz
  have hD := hD0.self (sz := s.heap.size)
  generalize hAe : va_A [(h, .inr (7, [.ref k, .ref d, .ref j, .ref o, .ref f, .ref g, .ref wk, .ref im, .ref kt, .ref dl])), (k, .inr (0, [.ref ks, .ref kw, .ref kc, .int (-6), .int 0, .int 0, .ref kq, .ref km, .ref kd, .int 0, .ref ka, .ref kk])), (kq, .inl (cI, 6, .inl (fun _ => 0))), (km, .inl (cI, 6, .inl (fun _ => 0))), (kd, .inl (cI, 6, .inl (fun _ => 0)))] s.heap.size = A at hD hKx ⊢
  have hA : ∀ q : Nat, s.heap.size ≤ q → A q := fun q h => by rw [← hAe]; exact Or.inr h
  have hS : va_S A s.heap s.heap [] := va_S.rf
  have hP : va_P (dC, dI) vwCl [(h, .inr (7, [.ref k, .ref d, .ref j, .ref o, .ref f, .ref g, .ref wk, .ref im, .ref kt, .ref dl])), (k, .inr (0, [.ref ks, .ref kw, .ref kc, .int (-6), .int 0, .int 0, .ref kq, .ref km, .ref kd, .int 0, .ref ka, .ref kk])), (kq, .inl (cI, 6, .inl (fun _ => 0))), (km, .inl (cI, 6, .inl (fun _ => 0))), (kd, .inl (cI, 6, .inl (fun _ => 0)))] s.heap := hP
  have hl := lv_entry ([.ref h, .int i0, .int i1, .int i2, .int i3]) (n := 5) (Nat.le_of_ble_eq_true rfl)
  rw [lg_entry_eq]
  generalize (lg_sl ([.ref h, .int i0, .int i1, .int i2, .int i3]) ++ List.replicate (5 - (lg_sl ([.ref h, .int i0, .int i1, .int i2, .int i3])).length) Slot.unset).toArray = ls at hl ⊢
  have hl : lv_has ls 5 [(0, .ref h), (1, .int i0), (2, .int i1), (3, .int i2), (4, .int i3)] := hl
  have hK := hKx.1
  have hin7 := fun w9 h9 => List.mem_cons_of_mem (Cond.code yX7_meal cX7_meal 5 (some .int)) (inlX7 w9 h9)
  have hin0 := fun w9 h9 => List.mem_cons_of_mem (Cond.code yX7_meal cX7_meal 5 (some .int)) (inlX0 w9 h9)
  have hw0 := hts (.fieldLink RX7 12 "OneCan" "camp" "LOneCan$Camp;") (List.mem_cons_of_mem _ wm_69)
  have hw1 := hts (.fieldLink RX7 96 "OneCan$Camp" "meals" "I") (List.mem_cons_of_mem _ wm_110)
  have hw2 := hts (.fieldLink RX7 100 "OneCan$Camp" "quarts" "[I") (List.mem_cons_of_mem _ wm_111)
  have hw3 := hts (.fieldLink RX7 103 "OneCan$Camp" "minutes" "[I") (List.mem_cons_of_mem _ wm_112)
  have hw4 := hts (.fieldLink RX7 106 "OneCan$Camp" "degrees" "[I") (List.mem_cons_of_mem _ wm_113)
  refine lv_iload_n hx hb dX7_meal_0 rfl (lv_at hl 1 rfl) ?_
  refine lv_iconst (v := 0) hx hb dX7_meal_1 (by decide) ?_
  refine lv_iconst (v := 5) hx hb dX7_meal_2 (by decide) ?_
  refine mx_i (wr := [(h, .inr (7, [.ref k, .ref d, .ref j, .ref o, .ref f, .ref g, .ref wk, .ref im, .ref kt, .ref dl])), (k, .inr (0, [.ref ks, .ref kw, .ref kc, .int (-6), .int 0, .int 0, .ref kq, .ref km, .ref kd, .int 0, .ref ka, .ref kk])), (kq, .inl (cI, 6, .inl (fun _ => 0))), (km, .inl (cI, 6, .inl (fun _ => 0))), (kd, .inl (cI, 6, .inl (fun _ => 0)))]) (va_runS (As := [.int i0, .int 0, .int 5]) (rest := []) ⟨hx, hb, hml, hown, hts⟩ (c_X7_isIn l dC dI cI cZ cK tS aK aV i0 0 5 s.heap.size) (va_cwS 3 hts (gw_s (fun _ h9 => List.mem_cons_of_mem _ h9) wm_0 wm_1 wm_2 wm_3) rfl rfl rfl (by decide +kernel) ⟨Nat.le_of_ble_eq_true rfl, Nat.le_of_ble_eq_true rfl⟩) (mx_preS hKx hP hD hS hA [] (by decide) rfl) rfl rfl hl.1 rfl (lv_room (Nat.le_of_ble_eq_true rfl)) dX7_meal_3 ⟨Nat.le_of_ble_eq_true rfl, Nat.le_of_ble_eq_true rfl⟩) hP hD hS hA [] [0, 1, 2, 3, 4] rfl rfl (by decide) (by decide) (fun r1 u1 H locs hq1 hP hD hS => ?_)
  replace hP : va_P (dC, dI) vwCl [(h, .inr (7, [.ref k, .ref d, .ref j, .ref o, .ref f, .ref g, .ref wk, .ref im, .ref kt, .ref dl])), (k, .inr (0, [.ref ks, .ref kw, .ref kc, .int (-6), .int 0, .int 0, .ref kq, .ref km, .ref kd, .int 0, .ref ka, .ref kk])), (kq, .inl (cI, 6, .inl (fun _ => 0))), (km, .inl (cI, 6, .inl (fun _ => 0))), (kd, .inl (cI, 6, .inl (fun _ => 0)))] H := hP
  replace hD : va_D A [(h, .inr (7, [.ref k, .ref d, .ref j, .ref o, .ref f, .ref g, .ref wk, .ref im, .ref kt, .ref dl])), (k, .inr (0, [.ref ks, .ref kw, .ref kc, .int (-6), .int 0, .int 0, .ref kq, .ref km, .ref kd, .int 0, .ref ka, .ref kk])), (kq, .inl (cI, 6, .inl (fun _ => 0))), (km, .inl (cI, 6, .inl (fun _ => 0))), (kd, .inl (cI, 6, .inl (fun _ => 0)))] := hD
  rcases hq1 with ⟨rfl, hf1⟩ | ⟨rfl, hf1⟩
  · have hf1 : (0 : Int) ≤ i0.toInt ∧ i0.toInt ≤ (5 : Int) := hf1
    refine lv_if_ne (tgt := 11) hx hb dX7_meal_6 (by decide) (fun c2 => ?_) (fun c2 => absurd c2 (by decide))
    refine lv_iload_n hx hb dX7_meal_11 rfl (lv_at hl 2 rfl) ?_
    refine lv_iconst (v := 1) hx hb dX7_meal_12 (by decide) ?_
    refine lv_iconst (v := 4) hx hb dX7_meal_13 (by decide) ?_
    refine mx_i (wr := [(h, .inr (7, [.ref k, .ref d, .ref j, .ref o, .ref f, .ref g, .ref wk, .ref im, .ref kt, .ref dl])), (k, .inr (0, [.ref ks, .ref kw, .ref kc, .int (-6), .int 0, .int 0, .ref kq, .ref km, .ref kd, .int 0, .ref ka, .ref kk])), (kq, .inl (cI, 6, .inl (fun _ => 0))), (km, .inl (cI, 6, .inl (fun _ => 0))), (kd, .inl (cI, 6, .inl (fun _ => 0)))]) (va_runS (As := [.int i1, .int 1, .int 4]) (rest := []) ⟨hx, hb, hml, hown, hts⟩ (c_X7_isIn l dC dI cI cZ cK tS aK aV i1 1 4 H.size) (va_cwS 3 hts (gw_s (fun _ h9 => List.mem_cons_of_mem _ h9) wm_0 wm_1 wm_2 wm_3) rfl rfl rfl (by decide +kernel) ⟨Nat.le_of_ble_eq_true rfl, Nat.le_of_ble_eq_true rfl⟩) (mx_preS hKx hP hD hS hA [] (by decide) rfl) rfl rfl hl.1 rfl (lv_room (Nat.le_of_ble_eq_true rfl)) dX7_meal_14 ⟨Nat.le_of_ble_eq_true rfl, Nat.le_of_ble_eq_true rfl⟩) hP hD hS hA [] [0, 1, 2, 3, 4] rfl rfl (by decide) (by decide) (fun r3 u3 H locs hq3 hP hD hS => ?_)
    replace hP : va_P (dC, dI) vwCl [(h, .inr (7, [.ref k, .ref d, .ref j, .ref o, .ref f, .ref g, .ref wk, .ref im, .ref kt, .ref dl])), (k, .inr (0, [.ref ks, .ref kw, .ref kc, .int (-6), .int 0, .int 0, .ref kq, .ref km, .ref kd, .int 0, .ref ka, .ref kk])), (kq, .inl (cI, 6, .inl (fun _ => 0))), (km, .inl (cI, 6, .inl (fun _ => 0))), (kd, .inl (cI, 6, .inl (fun _ => 0)))] H := hP
    replace hD : va_D A [(h, .inr (7, [.ref k, .ref d, .ref j, .ref o, .ref f, .ref g, .ref wk, .ref im, .ref kt, .ref dl])), (k, .inr (0, [.ref ks, .ref kw, .ref kc, .int (-6), .int 0, .int 0, .ref kq, .ref km, .ref kd, .int 0, .ref ka, .ref kk])), (kq, .inl (cI, 6, .inl (fun _ => 0))), (km, .inl (cI, 6, .inl (fun _ => 0))), (kd, .inl (cI, 6, .inl (fun _ => 0)))] := hD
    rcases hq3 with ⟨rfl, hf3⟩ | ⟨rfl, hf3⟩
    · have hf3 : (1 : Int) ≤ i1.toInt ∧ i1.toInt ≤ (4 : Int) := hf3
      refine lv_if_eq (tgt := 41) hx hb dX7_meal_17 (by decide) (fun c4 => absurd c4 (by decide)) (fun c4 => ?_)
      refine lv_iload_n hx hb dX7_meal_20 rfl (lv_at hl 3 rfl) ?_
      refine lv_iconst (v := 0) hx hb dX7_meal_21 (by decide) ?_
      refine lv_bipush (v := 60) hx hb dX7_meal_22 (by decide) ?_
      refine mx_i (wr := [(h, .inr (7, [.ref k, .ref d, .ref j, .ref o, .ref f, .ref g, .ref wk, .ref im, .ref kt, .ref dl])), (k, .inr (0, [.ref ks, .ref kw, .ref kc, .int (-6), .int 0, .int 0, .ref kq, .ref km, .ref kd, .int 0, .ref ka, .ref kk])), (kq, .inl (cI, 6, .inl (fun _ => 0))), (km, .inl (cI, 6, .inl (fun _ => 0))), (kd, .inl (cI, 6, .inl (fun _ => 0)))]) (va_runS (As := [.int i2, .int 0, .int 60]) (rest := []) ⟨hx, hb, hml, hown, hts⟩ (c_X7_isIn l dC dI cI cZ cK tS aK aV i2 0 60 H.size) (va_cwS 3 hts (gw_s (fun _ h9 => List.mem_cons_of_mem _ h9) wm_0 wm_1 wm_2 wm_3) rfl rfl rfl (by decide +kernel) ⟨Nat.le_of_ble_eq_true rfl, Nat.le_of_ble_eq_true rfl⟩) (mx_preS hKx hP hD hS hA [] (by decide) rfl) rfl rfl hl.1 rfl (lv_room (Nat.le_of_ble_eq_true rfl)) dX7_meal_24 ⟨Nat.le_of_ble_eq_true rfl, Nat.le_of_ble_eq_true rfl⟩) hP hD hS hA [] [0, 1, 2, 3, 4] rfl rfl (by decide) (by decide) (fun r5 u5 H locs hq5 hP hD hS => ?_)
      replace hP : va_P (dC, dI) vwCl [(h, .inr (7, [.ref k, .ref d, .ref j, .ref o, .ref f, .ref g, .ref wk, .ref im, .ref kt, .ref dl])), (k, .inr (0, [.ref ks, .ref kw, .ref kc, .int (-6), .int 0, .int 0, .ref kq, .ref km, .ref kd, .int 0, .ref ka, .ref kk])), (kq, .inl (cI, 6, .inl (fun _ => 0))), (km, .inl (cI, 6, .inl (fun _ => 0))), (kd, .inl (cI, 6, .inl (fun _ => 0)))] H := hP
      replace hD : va_D A [(h, .inr (7, [.ref k, .ref d, .ref j, .ref o, .ref f, .ref g, .ref wk, .ref im, .ref kt, .ref dl])), (k, .inr (0, [.ref ks, .ref kw, .ref kc, .int (-6), .int 0, .int 0, .ref kq, .ref km, .ref kd, .int 0, .ref ka, .ref kk])), (kq, .inl (cI, 6, .inl (fun _ => 0))), (km, .inl (cI, 6, .inl (fun _ => 0))), (kd, .inl (cI, 6, .inl (fun _ => 0)))] := hD
      rcases hq5 with ⟨rfl, hf5⟩ | ⟨rfl, hf5⟩
      · have hf5 : (0 : Int) ≤ i2.toInt ∧ i2.toInt ≤ (60 : Int) := hf5
        refine lv_if_eq (tgt := 41) hx hb dX7_meal_27 (by decide) (fun c6 => absurd c6 (by decide)) (fun c6 => ?_)
        refine lv_iload hx hb dX7_meal_30 (lv_at hl 4 rfl) ?_
        refine lv_iconst (v := 1) hx hb dX7_meal_32 (by decide) ?_
        refine lv_bipush (v := 100) hx hb dX7_meal_33 (by decide) ?_
        refine mx_i (wr := [(h, .inr (7, [.ref k, .ref d, .ref j, .ref o, .ref f, .ref g, .ref wk, .ref im, .ref kt, .ref dl])), (k, .inr (0, [.ref ks, .ref kw, .ref kc, .int (-6), .int 0, .int 0, .ref kq, .ref km, .ref kd, .int 0, .ref ka, .ref kk])), (kq, .inl (cI, 6, .inl (fun _ => 0))), (km, .inl (cI, 6, .inl (fun _ => 0))), (kd, .inl (cI, 6, .inl (fun _ => 0)))]) (va_runS (As := [.int i3, .int 1, .int 100]) (rest := []) ⟨hx, hb, hml, hown, hts⟩ (c_X7_isIn l dC dI cI cZ cK tS aK aV i3 1 100 H.size) (va_cwS 3 hts (gw_s (fun _ h9 => List.mem_cons_of_mem _ h9) wm_0 wm_1 wm_2 wm_3) rfl rfl rfl (by decide +kernel) ⟨Nat.le_of_ble_eq_true rfl, Nat.le_of_ble_eq_true rfl⟩) (mx_preS hKx hP hD hS hA [] (by decide) rfl) rfl rfl hl.1 rfl (lv_room (Nat.le_of_ble_eq_true rfl)) dX7_meal_35 ⟨Nat.le_of_ble_eq_true rfl, Nat.le_of_ble_eq_true rfl⟩) hP hD hS hA [] [0, 1, 2, 3, 4] rfl rfl (by decide) (by decide) (fun r7 u7 H locs hq7 hP hD hS => ?_)
        replace hP : va_P (dC, dI) vwCl [(h, .inr (7, [.ref k, .ref d, .ref j, .ref o, .ref f, .ref g, .ref wk, .ref im, .ref kt, .ref dl])), (k, .inr (0, [.ref ks, .ref kw, .ref kc, .int (-6), .int 0, .int 0, .ref kq, .ref km, .ref kd, .int 0, .ref ka, .ref kk])), (kq, .inl (cI, 6, .inl (fun _ => 0))), (km, .inl (cI, 6, .inl (fun _ => 0))), (kd, .inl (cI, 6, .inl (fun _ => 0)))] H := hP
        replace hD : va_D A [(h, .inr (7, [.ref k, .ref d, .ref j, .ref o, .ref f, .ref g, .ref wk, .ref im, .ref kt, .ref dl])), (k, .inr (0, [.ref ks, .ref kw, .ref kc, .int (-6), .int 0, .int 0, .ref kq, .ref km, .ref kd, .int 0, .ref ka, .ref kk])), (kq, .inl (cI, 6, .inl (fun _ => 0))), (km, .inl (cI, 6, .inl (fun _ => 0))), (kd, .inl (cI, 6, .inl (fun _ => 0)))] := hD
        rcases hq7 with ⟨rfl, hf7⟩ | ⟨rfl, hf7⟩
        · have hf7 : (1 : Int) ≤ i3.toInt ∧ i3.toInt ≤ (100 : Int) := hf7
          refine lv_if_ne (tgt := 44) hx hb dX7_meal_38 (by decide) (fun c8 => ?_) (fun c8 => absurd c8 (by decide))
          rcases (show i0 = 0 ∨ i0 = 1 ∨ i0 = 2 ∨ i0 = 3 ∨ i0 = 4 ∨ i0 = 5 from by rcases (show i0.toInt = 0 ∨ i0.toInt = 1 ∨ i0.toInt = 2 ∨ i0.toInt = 3 ∨ i0.toInt = 4 ∨ i0.toInt = 5 by omega) with h9 | h9 | h9 | h9 | h9 | h9 <;> first | exact Or.inl (ceq h9) | exact Or.inr (Or.inl (ceq h9)) | exact Or.inr (Or.inr (Or.inl (ceq h9))) | exact Or.inr (Or.inr (Or.inr (Or.inl (ceq h9)))) | exact Or.inr (Or.inr (Or.inr (Or.inr (Or.inl (ceq h9))))) | exact Or.inr (Or.inr (Or.inr (Or.inr (Or.inr (ceq h9)))))) with rfl | rfl | rfl | rfl | rfl | rfl
          · have z9 : (0 : Int32).toInt = 0 := rfl
            refine lv_aload_n hx hb dX7_meal_44 rfl (lv_at hl 0 rfl) ?_
            refine va_get (D := (dC, dI)) (ci := 7) (v := .ref k) (C := RX7) (T := TX7) (N := 10) hx hb hts hin7 hown hK hP 0 rfl rfl 0 (by decide) hw0 (fun _ h9 => h9) rfl dX7_meal_45 ?_
            refine lv_dup hx hb dX7_meal_48 rfl ?_
            refine va_get (D := (dC, dI)) (ci := 0) (v := .int 0) (C := RX0) (T := TX0) (N := 12) hx hb hts hin0 hown hK hP 1 rfl rfl 5 (by decide) hw1 (fun _ h9 => h9) rfl dX7_meal_49 ?_
            refine lv_iconst (v := 1) hx hb dX7_meal_52 (by decide) ?_
            refine lv_iload_n hx hb dX7_meal_53 rfl (lv_at hl 1 rfl) ?_
            refine lv_ishl hx hb dX7_meal_54 ?_
            refine lv_topi (fun x9 e9 => ?_)
            obtain rfl : x9 = 1 := e9.trans (by decide)
            refine lv_ior hx hb dX7_meal_55 ?_
            refine lv_topi (fun x10 e10 => ?_)
            obtain rfl : x10 = 1 := e10.trans (by decide)
            refine va_put (D := (dC, dI)) (ci := 0) (v := .int 1) (ty := .int) (C := RX0) (T := TX0) (N := 12) hx hb hts hin0 tyX0 tyX0_ok nmX0 hown hK hP hD hS 1 rfl rfl 5 (by decide) hw1 (fun _ h9 => h9) rfl (by decide +kernel) rfl rfl (Nat.le_of_ble_eq_true rfl) dX7_meal_56 (fun H locs hP hD hS => ?_)
            replace hP : va_P (dC, dI) vwCl [(h, .inr (7, [.ref k, .ref d, .ref j, .ref o, .ref f, .ref g, .ref wk, .ref im, .ref kt, .ref dl])), (k, .inr (0, [.ref ks, .ref kw, .ref kc, .int (-6), .int 0, .int 1, .ref kq, .ref km, .ref kd, .int 0, .ref ka, .ref kk])), (kq, .inl (cI, 6, .inl (fun _ => 0))), (km, .inl (cI, 6, .inl (fun _ => 0))), (kd, .inl (cI, 6, .inl (fun _ => 0)))] H := hP
            replace hD : va_D A [(h, .inr (7, [.ref k, .ref d, .ref j, .ref o, .ref f, .ref g, .ref wk, .ref im, .ref kt, .ref dl])), (k, .inr (0, [.ref ks, .ref kw, .ref kc, .int (-6), .int 0, .int 1, .ref kq, .ref km, .ref kd, .int 0, .ref ka, .ref kk])), (kq, .inl (cI, 6, .inl (fun _ => 0))), (km, .inl (cI, 6, .inl (fun _ => 0))), (kd, .inl (cI, 6, .inl (fun _ => 0)))] := hD
            refine lv_aload_n hx hb dX7_meal_59 rfl (lv_at hl 0 rfl) ?_
            refine va_get (D := (dC, dI)) (ci := 7) (v := .ref k) (C := RX7) (T := TX7) (N := 10) hx hb hts hin7 hown hK hP 0 rfl rfl 0 (by decide) hw0 (fun _ h9 => h9) rfl dX7_meal_60 ?_
            refine va_get (D := (dC, dI)) (ci := 0) (v := .ref kq) (C := RX0) (T := TX0) (N := 12) hx hb hts hin0 hown hK hP 1 rfl rfl 6 (by decide) hw2 (fun _ h9 => h9) rfl dX7_meal_63 ?_
            refine lv_iload_n hx hb dX7_meal_66 rfl (lv_at hl 1 rfl) ?_
            refine lv_iload_n hx hb dX7_meal_67 rfl (lv_at hl 2 rfl) ?_
            refine va_iast hx hb hK hP hD hS 2 0 rfl rfl (vin (by decide) (by decide)) dX7_meal_68 (fun H locs hP hD hS => ?_)
            replace hP : va_P (dC, dI) vwCl [(h, .inr (7, [.ref k, .ref d, .ref j, .ref o, .ref f, .ref g, .ref wk, .ref im, .ref kt, .ref dl])), (k, .inr (0, [.ref ks, .ref kw, .ref kc, .int (-6), .int 0, .int 1, .ref kq, .ref km, .ref kd, .int 0, .ref ka, .ref kk])), (kq, .inl (cI, 6, .inl (upd (fun _ => 0) 0 i1))), (km, .inl (cI, 6, .inl (fun _ => 0))), (kd, .inl (cI, 6, .inl (fun _ => 0)))] H := hP
            replace hD : va_D A [(h, .inr (7, [.ref k, .ref d, .ref j, .ref o, .ref f, .ref g, .ref wk, .ref im, .ref kt, .ref dl])), (k, .inr (0, [.ref ks, .ref kw, .ref kc, .int (-6), .int 0, .int 1, .ref kq, .ref km, .ref kd, .int 0, .ref ka, .ref kk])), (kq, .inl (cI, 6, .inl (upd (fun _ => 0) 0 i1))), (km, .inl (cI, 6, .inl (fun _ => 0))), (kd, .inl (cI, 6, .inl (fun _ => 0)))] := hD
            refine lv_aload_n hx hb dX7_meal_69 rfl (lv_at hl 0 rfl) ?_
            refine va_get (D := (dC, dI)) (ci := 7) (v := .ref k) (C := RX7) (T := TX7) (N := 10) hx hb hts hin7 hown hK hP 0 rfl rfl 0 (by decide) hw0 (fun _ h9 => h9) rfl dX7_meal_70 ?_
            refine va_get (D := (dC, dI)) (ci := 0) (v := .ref km) (C := RX0) (T := TX0) (N := 12) hx hb hts hin0 hown hK hP 1 rfl rfl 7 (by decide) hw3 (fun _ h9 => h9) rfl dX7_meal_73 ?_
            refine lv_iload_n hx hb dX7_meal_76 rfl (lv_at hl 1 rfl) ?_
            refine lv_iload_n hx hb dX7_meal_77 rfl (lv_at hl 3 rfl) ?_
            refine va_iast hx hb hK hP hD hS 3 0 rfl rfl (vin (by decide) (by decide)) dX7_meal_78 (fun H locs hP hD hS => ?_)
            replace hP : va_P (dC, dI) vwCl [(h, .inr (7, [.ref k, .ref d, .ref j, .ref o, .ref f, .ref g, .ref wk, .ref im, .ref kt, .ref dl])), (k, .inr (0, [.ref ks, .ref kw, .ref kc, .int (-6), .int 0, .int 1, .ref kq, .ref km, .ref kd, .int 0, .ref ka, .ref kk])), (kq, .inl (cI, 6, .inl (upd (fun _ => 0) 0 i1))), (km, .inl (cI, 6, .inl (upd (fun _ => 0) 0 i2))), (kd, .inl (cI, 6, .inl (fun _ => 0)))] H := hP
            replace hD : va_D A [(h, .inr (7, [.ref k, .ref d, .ref j, .ref o, .ref f, .ref g, .ref wk, .ref im, .ref kt, .ref dl])), (k, .inr (0, [.ref ks, .ref kw, .ref kc, .int (-6), .int 0, .int 1, .ref kq, .ref km, .ref kd, .int 0, .ref ka, .ref kk])), (kq, .inl (cI, 6, .inl (upd (fun _ => 0) 0 i1))), (km, .inl (cI, 6, .inl (upd (fun _ => 0) 0 i2))), (kd, .inl (cI, 6, .inl (fun _ => 0)))] := hD
            refine lv_aload_n hx hb dX7_meal_79 rfl (lv_at hl 0 rfl) ?_
            refine va_get (D := (dC, dI)) (ci := 7) (v := .ref k) (C := RX7) (T := TX7) (N := 10) hx hb hts hin7 hown hK hP 0 rfl rfl 0 (by decide) hw0 (fun _ h9 => h9) rfl dX7_meal_80 ?_
            refine va_get (D := (dC, dI)) (ci := 0) (v := .ref kd) (C := RX0) (T := TX0) (N := 12) hx hb hts hin0 hown hK hP 1 rfl rfl 8 (by decide) hw4 (fun _ h9 => h9) rfl dX7_meal_83 ?_
            refine lv_iload_n hx hb dX7_meal_86 rfl (lv_at hl 1 rfl) ?_
            refine lv_iload hx hb dX7_meal_87 (lv_at hl 4 rfl) ?_
            refine va_iast hx hb hK hP hD hS 4 0 rfl rfl (vin (by decide) (by decide)) dX7_meal_89 (fun H locs hP hD hS => ?_)
            replace hP : va_P (dC, dI) vwCl [(h, .inr (7, [.ref k, .ref d, .ref j, .ref o, .ref f, .ref g, .ref wk, .ref im, .ref kt, .ref dl])), (k, .inr (0, [.ref ks, .ref kw, .ref kc, .int (-6), .int 0, .int 1, .ref kq, .ref km, .ref kd, .int 0, .ref ka, .ref kk])), (kq, .inl (cI, 6, .inl (upd (fun _ => 0) 0 i1))), (km, .inl (cI, 6, .inl (upd (fun _ => 0) 0 i2))), (kd, .inl (cI, 6, .inl (upd (fun _ => 0) 0 i3)))] H := hP
            replace hD : va_D A [(h, .inr (7, [.ref k, .ref d, .ref j, .ref o, .ref f, .ref g, .ref wk, .ref im, .ref kt, .ref dl])), (k, .inr (0, [.ref ks, .ref kw, .ref kc, .int (-6), .int 0, .int 1, .ref kq, .ref km, .ref kd, .int 0, .ref ka, .ref kk])), (kq, .inl (cI, 6, .inl (upd (fun _ => 0) 0 i1))), (km, .inl (cI, 6, .inl (upd (fun _ => 0) 0 i2))), (kd, .inl (cI, 6, .inl (upd (fun _ => 0) 0 i3)))] := hD
            refine lv_aload_n hx hb dX7_meal_90 rfl (lv_at hl 0 rfl) ?_
            refine va_get (D := (dC, dI)) (ci := 7) (v := .ref k) (C := RX7) (T := TX7) (N := 10) hx hb hts hin7 hown hK hP 0 rfl rfl 0 (by decide) hw0 (fun _ h9 => h9) rfl dX7_meal_91 ?_
            refine va_get (D := (dC, dI)) (ci := 0) (v := .int 1) (C := RX0) (T := TX0) (N := 12) hx hb hts hin0 hown hK hP 1 rfl rfl 5 (by decide) hw1 (fun _ h9 => h9) rfl dX7_meal_94 ?_
            refine mx_i (wr := [(h, .inr (7, [.ref k, .ref d, .ref j, .ref o, .ref f, .ref g, .ref wk, .ref im, .ref kt, .ref dl])), (k, .inr (0, [.ref ks, .ref kw, .ref kc, .int (-6), .int 0, .int 1, .ref kq, .ref km, .ref kd, .int 0, .ref ka, .ref kk])), (kq, .inl (cI, 6, .inl (upd (fun _ => 0) 0 i1))), (km, .inl (cI, 6, .inl (upd (fun _ => 0) 0 i2))), (kd, .inl (cI, 6, .inl (upd (fun _ => 0) 0 i3)))]) (va_runS (As := [.int 1]) (rest := []) ⟨hx, hb, hml, hown, hts⟩ (c_J6_bitCount_0f7a4_1 l dC dI cI cZ cK tS aK aV  H.size) (va_cwS 1 hts (gw_s (fun _ h9 => List.mem_cons_of_mem _ h9) wm_114 wm_115 wm_116 wm_117) rfl rfl rfl (by decide +kernel) ⟨Nat.le_of_ble_eq_true rfl, Nat.le_of_ble_eq_true rfl⟩) (mx_preS hKx hP hD hS hA [] (by decide) rfl) rfl rfl hl.1 rfl (lv_room (Nat.le_of_ble_eq_true rfl)) dX7_meal_97 ⟨Nat.le_of_ble_eq_true rfl, Nat.le_of_ble_eq_true rfl⟩) hP hD hS hA [] [0, 1, 2, 3, 4] rfl rfl (by decide) (by decide) (fun r11 u11 H locs hq11 hP hD hS => ?_)
            replace hP : va_P (dC, dI) vwCl [(h, .inr (7, [.ref k, .ref d, .ref j, .ref o, .ref f, .ref g, .ref wk, .ref im, .ref kt, .ref dl])), (k, .inr (0, [.ref ks, .ref kw, .ref kc, .int (-6), .int 0, .int 1, .ref kq, .ref km, .ref kd, .int 0, .ref ka, .ref kk])), (kq, .inl (cI, 6, .inl (upd (fun _ => 0) 0 i1))), (km, .inl (cI, 6, .inl (upd (fun _ => 0) 0 i2))), (kd, .inl (cI, 6, .inl (upd (fun _ => 0) 0 i3)))] H := hP
            replace hD : va_D A [(h, .inr (7, [.ref k, .ref d, .ref j, .ref o, .ref f, .ref g, .ref wk, .ref im, .ref kt, .ref dl])), (k, .inr (0, [.ref ks, .ref kw, .ref kc, .int (-6), .int 0, .int 1, .ref kq, .ref km, .ref kd, .int 0, .ref ka, .ref kk])), (kq, .inl (cI, 6, .inl (upd (fun _ => 0) 0 i1))), (km, .inl (cI, 6, .inl (upd (fun _ => 0) 0 i2))), (kd, .inl (cI, 6, .inl (upd (fun _ => 0) 0 i3)))] := hD
            obtain rfl : r11 = 1 := hq11
            have hP9 := mx_subP (wc := []) hP [] rfl
            have hD9 := hD.sub (ws' := []) [] (by decide) rfl
            exact W.iret (v := 1) hx hb hr (fun t ht hW => ⟨⟨1, (), rfl, (by first | exact Or.inl (⟨rfl, by omega⟩) | exact Or.inr (Or.inl (⟨rfl, by omega⟩)) | exact Or.inr (Or.inr (⟨rfl, by omega⟩))), by rw [ht]; exact hP9, hD9⟩, hS.F ht⟩) hS.2.2 dX7_meal_100
          · have z9 : (1 : Int32).toInt = 1 := rfl
            refine lv_aload_n hx hb dX7_meal_44 rfl (lv_at hl 0 rfl) ?_
            refine va_get (D := (dC, dI)) (ci := 7) (v := .ref k) (C := RX7) (T := TX7) (N := 10) hx hb hts hin7 hown hK hP 0 rfl rfl 0 (by decide) hw0 (fun _ h9 => h9) rfl dX7_meal_45 ?_
            refine lv_dup hx hb dX7_meal_48 rfl ?_
            refine va_get (D := (dC, dI)) (ci := 0) (v := .int 0) (C := RX0) (T := TX0) (N := 12) hx hb hts hin0 hown hK hP 1 rfl rfl 5 (by decide) hw1 (fun _ h9 => h9) rfl dX7_meal_49 ?_
            refine lv_iconst (v := 1) hx hb dX7_meal_52 (by decide) ?_
            refine lv_iload_n hx hb dX7_meal_53 rfl (lv_at hl 1 rfl) ?_
            refine lv_ishl hx hb dX7_meal_54 ?_
            refine lv_topi (fun x12 e12 => ?_)
            obtain rfl : x12 = 2 := e12.trans (by decide)
            refine lv_ior hx hb dX7_meal_55 ?_
            refine lv_topi (fun x13 e13 => ?_)
            obtain rfl : x13 = 2 := e13.trans (by decide)
            refine va_put (D := (dC, dI)) (ci := 0) (v := .int 2) (ty := .int) (C := RX0) (T := TX0) (N := 12) hx hb hts hin0 tyX0 tyX0_ok nmX0 hown hK hP hD hS 1 rfl rfl 5 (by decide) hw1 (fun _ h9 => h9) rfl (by decide +kernel) rfl rfl (Nat.le_of_ble_eq_true rfl) dX7_meal_56 (fun H locs hP hD hS => ?_)
            replace hP : va_P (dC, dI) vwCl [(h, .inr (7, [.ref k, .ref d, .ref j, .ref o, .ref f, .ref g, .ref wk, .ref im, .ref kt, .ref dl])), (k, .inr (0, [.ref ks, .ref kw, .ref kc, .int (-6), .int 0, .int 2, .ref kq, .ref km, .ref kd, .int 0, .ref ka, .ref kk])), (kq, .inl (cI, 6, .inl (fun _ => 0))), (km, .inl (cI, 6, .inl (fun _ => 0))), (kd, .inl (cI, 6, .inl (fun _ => 0)))] H := hP
            replace hD : va_D A [(h, .inr (7, [.ref k, .ref d, .ref j, .ref o, .ref f, .ref g, .ref wk, .ref im, .ref kt, .ref dl])), (k, .inr (0, [.ref ks, .ref kw, .ref kc, .int (-6), .int 0, .int 2, .ref kq, .ref km, .ref kd, .int 0, .ref ka, .ref kk])), (kq, .inl (cI, 6, .inl (fun _ => 0))), (km, .inl (cI, 6, .inl (fun _ => 0))), (kd, .inl (cI, 6, .inl (fun _ => 0)))] := hD
            refine lv_aload_n hx hb dX7_meal_59 rfl (lv_at hl 0 rfl) ?_
            refine va_get (D := (dC, dI)) (ci := 7) (v := .ref k) (C := RX7) (T := TX7) (N := 10) hx hb hts hin7 hown hK hP 0 rfl rfl 0 (by decide) hw0 (fun _ h9 => h9) rfl dX7_meal_60 ?_
            refine va_get (D := (dC, dI)) (ci := 0) (v := .ref kq) (C := RX0) (T := TX0) (N := 12) hx hb hts hin0 hown hK hP 1 rfl rfl 6 (by decide) hw2 (fun _ h9 => h9) rfl dX7_meal_63 ?_
            refine lv_iload_n hx hb dX7_meal_66 rfl (lv_at hl 1 rfl) ?_
            refine lv_iload_n hx hb dX7_meal_67 rfl (lv_at hl 2 rfl) ?_
            refine va_iast hx hb hK hP hD hS 2 0 rfl rfl (vin (by decide) (by decide)) dX7_meal_68 (fun H locs hP hD hS => ?_)
            replace hP : va_P (dC, dI) vwCl [(h, .inr (7, [.ref k, .ref d, .ref j, .ref o, .ref f, .ref g, .ref wk, .ref im, .ref kt, .ref dl])), (k, .inr (0, [.ref ks, .ref kw, .ref kc, .int (-6), .int 0, .int 2, .ref kq, .ref km, .ref kd, .int 0, .ref ka, .ref kk])), (kq, .inl (cI, 6, .inl (upd (fun _ => 0) 1 i1))), (km, .inl (cI, 6, .inl (fun _ => 0))), (kd, .inl (cI, 6, .inl (fun _ => 0)))] H := hP
            replace hD : va_D A [(h, .inr (7, [.ref k, .ref d, .ref j, .ref o, .ref f, .ref g, .ref wk, .ref im, .ref kt, .ref dl])), (k, .inr (0, [.ref ks, .ref kw, .ref kc, .int (-6), .int 0, .int 2, .ref kq, .ref km, .ref kd, .int 0, .ref ka, .ref kk])), (kq, .inl (cI, 6, .inl (upd (fun _ => 0) 1 i1))), (km, .inl (cI, 6, .inl (fun _ => 0))), (kd, .inl (cI, 6, .inl (fun _ => 0)))] := hD
            refine lv_aload_n hx hb dX7_meal_69 rfl (lv_at hl 0 rfl) ?_
            refine va_get (D := (dC, dI)) (ci := 7) (v := .ref k) (C := RX7) (T := TX7) (N := 10) hx hb hts hin7 hown hK hP 0 rfl rfl 0 (by decide) hw0 (fun _ h9 => h9) rfl dX7_meal_70 ?_
            refine va_get (D := (dC, dI)) (ci := 0) (v := .ref km) (C := RX0) (T := TX0) (N := 12) hx hb hts hin0 hown hK hP 1 rfl rfl 7 (by decide) hw3 (fun _ h9 => h9) rfl dX7_meal_73 ?_
            refine lv_iload_n hx hb dX7_meal_76 rfl (lv_at hl 1 rfl) ?_
            refine lv_iload_n hx hb dX7_meal_77 rfl (lv_at hl 3 rfl) ?_
            refine va_iast hx hb hK hP hD hS 3 0 rfl rfl (vin (by decide) (by decide)) dX7_meal_78 (fun H locs hP hD hS => ?_)
            replace hP : va_P (dC, dI) vwCl [(h, .inr (7, [.ref k, .ref d, .ref j, .ref o, .ref f, .ref g, .ref wk, .ref im, .ref kt, .ref dl])), (k, .inr (0, [.ref ks, .ref kw, .ref kc, .int (-6), .int 0, .int 2, .ref kq, .ref km, .ref kd, .int 0, .ref ka, .ref kk])), (kq, .inl (cI, 6, .inl (upd (fun _ => 0) 1 i1))), (km, .inl (cI, 6, .inl (upd (fun _ => 0) 1 i2))), (kd, .inl (cI, 6, .inl (fun _ => 0)))] H := hP
            replace hD : va_D A [(h, .inr (7, [.ref k, .ref d, .ref j, .ref o, .ref f, .ref g, .ref wk, .ref im, .ref kt, .ref dl])), (k, .inr (0, [.ref ks, .ref kw, .ref kc, .int (-6), .int 0, .int 2, .ref kq, .ref km, .ref kd, .int 0, .ref ka, .ref kk])), (kq, .inl (cI, 6, .inl (upd (fun _ => 0) 1 i1))), (km, .inl (cI, 6, .inl (upd (fun _ => 0) 1 i2))), (kd, .inl (cI, 6, .inl (fun _ => 0)))] := hD
            refine lv_aload_n hx hb dX7_meal_79 rfl (lv_at hl 0 rfl) ?_
            refine va_get (D := (dC, dI)) (ci := 7) (v := .ref k) (C := RX7) (T := TX7) (N := 10) hx hb hts hin7 hown hK hP 0 rfl rfl 0 (by decide) hw0 (fun _ h9 => h9) rfl dX7_meal_80 ?_
            refine va_get (D := (dC, dI)) (ci := 0) (v := .ref kd) (C := RX0) (T := TX0) (N := 12) hx hb hts hin0 hown hK hP 1 rfl rfl 8 (by decide) hw4 (fun _ h9 => h9) rfl dX7_meal_83 ?_
            refine lv_iload_n hx hb dX7_meal_86 rfl (lv_at hl 1 rfl) ?_
            refine lv_iload hx hb dX7_meal_87 (lv_at hl 4 rfl) ?_
            refine va_iast hx hb hK hP hD hS 4 0 rfl rfl (vin (by decide) (by decide)) dX7_meal_89 (fun H locs hP hD hS => ?_)
            replace hP : va_P (dC, dI) vwCl [(h, .inr (7, [.ref k, .ref d, .ref j, .ref o, .ref f, .ref g, .ref wk, .ref im, .ref kt, .ref dl])), (k, .inr (0, [.ref ks, .ref kw, .ref kc, .int (-6), .int 0, .int 2, .ref kq, .ref km, .ref kd, .int 0, .ref ka, .ref kk])), (kq, .inl (cI, 6, .inl (upd (fun _ => 0) 1 i1))), (km, .inl (cI, 6, .inl (upd (fun _ => 0) 1 i2))), (kd, .inl (cI, 6, .inl (upd (fun _ => 0) 1 i3)))] H := hP
            replace hD : va_D A [(h, .inr (7, [.ref k, .ref d, .ref j, .ref o, .ref f, .ref g, .ref wk, .ref im, .ref kt, .ref dl])), (k, .inr (0, [.ref ks, .ref kw, .ref kc, .int (-6), .int 0, .int 2, .ref kq, .ref km, .ref kd, .int 0, .ref ka, .ref kk])), (kq, .inl (cI, 6, .inl (upd (fun _ => 0) 1 i1))), (km, .inl (cI, 6, .inl (upd (fun _ => 0) 1 i2))), (kd, .inl (cI, 6, .inl (upd (fun _ => 0) 1 i3)))] := hD
            refine lv_aload_n hx hb dX7_meal_90 rfl (lv_at hl 0 rfl) ?_
            refine va_get (D := (dC, dI)) (ci := 7) (v := .ref k) (C := RX7) (T := TX7) (N := 10) hx hb hts hin7 hown hK hP 0 rfl rfl 0 (by decide) hw0 (fun _ h9 => h9) rfl dX7_meal_91 ?_
            refine va_get (D := (dC, dI)) (ci := 0) (v := .int 2) (C := RX0) (T := TX0) (N := 12) hx hb hts hin0 hown hK hP 1 rfl rfl 5 (by decide) hw1 (fun _ h9 => h9) rfl dX7_meal_94 ?_
            refine mx_i (wr := [(h, .inr (7, [.ref k, .ref d, .ref j, .ref o, .ref f, .ref g, .ref wk, .ref im, .ref kt, .ref dl])), (k, .inr (0, [.ref ks, .ref kw, .ref kc, .int (-6), .int 0, .int 2, .ref kq, .ref km, .ref kd, .int 0, .ref ka, .ref kk])), (kq, .inl (cI, 6, .inl (upd (fun _ => 0) 1 i1))), (km, .inl (cI, 6, .inl (upd (fun _ => 0) 1 i2))), (kd, .inl (cI, 6, .inl (upd (fun _ => 0) 1 i3)))]) (va_runS (As := [.int 2]) (rest := []) ⟨hx, hb, hml, hown, hts⟩ (c_J6_bitCount_0f7a4_2 l dC dI cI cZ cK tS aK aV  H.size) (va_cwS 1 hts (gw_s (fun _ h9 => List.mem_cons_of_mem _ h9) wm_114 wm_115 wm_116 wm_117) rfl rfl rfl (by decide +kernel) ⟨Nat.le_of_ble_eq_true rfl, Nat.le_of_ble_eq_true rfl⟩) (mx_preS hKx hP hD hS hA [] (by decide) rfl) rfl rfl hl.1 rfl (lv_room (Nat.le_of_ble_eq_true rfl)) dX7_meal_97 ⟨Nat.le_of_ble_eq_true rfl, Nat.le_of_ble_eq_true rfl⟩) hP hD hS hA [] [0, 1, 2, 3, 4] rfl rfl (by decide) (by decide) (fun r14 u14 H locs hq14 hP hD hS => ?_)
            replace hP : va_P (dC, dI) vwCl [(h, .inr (7, [.ref k, .ref d, .ref j, .ref o, .ref f, .ref g, .ref wk, .ref im, .ref kt, .ref dl])), (k, .inr (0, [.ref ks, .ref kw, .ref kc, .int (-6), .int 0, .int 2, .ref kq, .ref km, .ref kd, .int 0, .ref ka, .ref kk])), (kq, .inl (cI, 6, .inl (upd (fun _ => 0) 1 i1))), (km, .inl (cI, 6, .inl (upd (fun _ => 0) 1 i2))), (kd, .inl (cI, 6, .inl (upd (fun _ => 0) 1 i3)))] H := hP
            replace hD : va_D A [(h, .inr (7, [.ref k, .ref d, .ref j, .ref o, .ref f, .ref g, .ref wk, .ref im, .ref kt, .ref dl])), (k, .inr (0, [.ref ks, .ref kw, .ref kc, .int (-6), .int 0, .int 2, .ref kq, .ref km, .ref kd, .int 0, .ref ka, .ref kk])), (kq, .inl (cI, 6, .inl (upd (fun _ => 0) 1 i1))), (km, .inl (cI, 6, .inl (upd (fun _ => 0) 1 i2))), (kd, .inl (cI, 6, .inl (upd (fun _ => 0) 1 i3)))] := hD
            obtain rfl : r14 = 1 := hq14
            have hP9 := mx_subP (wc := []) hP [] rfl
            have hD9 := hD.sub (ws' := []) [] (by decide) rfl
            exact W.iret (v := 1) hx hb hr (fun t ht hW => ⟨⟨1, (), rfl, (by first | exact Or.inl (⟨rfl, by omega⟩) | exact Or.inr (Or.inl (⟨rfl, by omega⟩)) | exact Or.inr (Or.inr (⟨rfl, by omega⟩))), by rw [ht]; exact hP9, hD9⟩, hS.F ht⟩) hS.2.2 dX7_meal_100
          · have z9 : (2 : Int32).toInt = 2 := rfl
            refine lv_aload_n hx hb dX7_meal_44 rfl (lv_at hl 0 rfl) ?_
            refine va_get (D := (dC, dI)) (ci := 7) (v := .ref k) (C := RX7) (T := TX7) (N := 10) hx hb hts hin7 hown hK hP 0 rfl rfl 0 (by decide) hw0 (fun _ h9 => h9) rfl dX7_meal_45 ?_
            refine lv_dup hx hb dX7_meal_48 rfl ?_
            refine va_get (D := (dC, dI)) (ci := 0) (v := .int 0) (C := RX0) (T := TX0) (N := 12) hx hb hts hin0 hown hK hP 1 rfl rfl 5 (by decide) hw1 (fun _ h9 => h9) rfl dX7_meal_49 ?_
            refine lv_iconst (v := 1) hx hb dX7_meal_52 (by decide) ?_
            refine lv_iload_n hx hb dX7_meal_53 rfl (lv_at hl 1 rfl) ?_
            refine lv_ishl hx hb dX7_meal_54 ?_
            refine lv_topi (fun x15 e15 => ?_)
            obtain rfl : x15 = 4 := e15.trans (by decide)
            refine lv_ior hx hb dX7_meal_55 ?_
            refine lv_topi (fun x16 e16 => ?_)
            obtain rfl : x16 = 4 := e16.trans (by decide)
            refine va_put (D := (dC, dI)) (ci := 0) (v := .int 4) (ty := .int) (C := RX0) (T := TX0) (N := 12) hx hb hts hin0 tyX0 tyX0_ok nmX0 hown hK hP hD hS 1 rfl rfl 5 (by decide) hw1 (fun _ h9 => h9) rfl (by decide +kernel) rfl rfl (Nat.le_of_ble_eq_true rfl) dX7_meal_56 (fun H locs hP hD hS => ?_)
            replace hP : va_P (dC, dI) vwCl [(h, .inr (7, [.ref k, .ref d, .ref j, .ref o, .ref f, .ref g, .ref wk, .ref im, .ref kt, .ref dl])), (k, .inr (0, [.ref ks, .ref kw, .ref kc, .int (-6), .int 0, .int 4, .ref kq, .ref km, .ref kd, .int 0, .ref ka, .ref kk])), (kq, .inl (cI, 6, .inl (fun _ => 0))), (km, .inl (cI, 6, .inl (fun _ => 0))), (kd, .inl (cI, 6, .inl (fun _ => 0)))] H := hP
            replace hD : va_D A [(h, .inr (7, [.ref k, .ref d, .ref j, .ref o, .ref f, .ref g, .ref wk, .ref im, .ref kt, .ref dl])), (k, .inr (0, [.ref ks, .ref kw, .ref kc, .int (-6), .int 0, .int 4, .ref kq, .ref km, .ref kd, .int 0, .ref ka, .ref kk])), (kq, .inl (cI, 6, .inl (fun _ => 0))), (km, .inl (cI, 6, .inl (fun _ => 0))), (kd, .inl (cI, 6, .inl (fun _ => 0)))] := hD
            refine lv_aload_n hx hb dX7_meal_59 rfl (lv_at hl 0 rfl) ?_
            refine va_get (D := (dC, dI)) (ci := 7) (v := .ref k) (C := RX7) (T := TX7) (N := 10) hx hb hts hin7 hown hK hP 0 rfl rfl 0 (by decide) hw0 (fun _ h9 => h9) rfl dX7_meal_60 ?_
            refine va_get (D := (dC, dI)) (ci := 0) (v := .ref kq) (C := RX0) (T := TX0) (N := 12) hx hb hts hin0 hown hK hP 1 rfl rfl 6 (by decide) hw2 (fun _ h9 => h9) rfl dX7_meal_63 ?_
            refine lv_iload_n hx hb dX7_meal_66 rfl (lv_at hl 1 rfl) ?_
            refine lv_iload_n hx hb dX7_meal_67 rfl (lv_at hl 2 rfl) ?_
            refine va_iast hx hb hK hP hD hS 2 0 rfl rfl (vin (by decide) (by decide)) dX7_meal_68 (fun H locs hP hD hS => ?_)
            replace hP : va_P (dC, dI) vwCl [(h, .inr (7, [.ref k, .ref d, .ref j, .ref o, .ref f, .ref g, .ref wk, .ref im, .ref kt, .ref dl])), (k, .inr (0, [.ref ks, .ref kw, .ref kc, .int (-6), .int 0, .int 4, .ref kq, .ref km, .ref kd, .int 0, .ref ka, .ref kk])), (kq, .inl (cI, 6, .inl (upd (fun _ => 0) 2 i1))), (km, .inl (cI, 6, .inl (fun _ => 0))), (kd, .inl (cI, 6, .inl (fun _ => 0)))] H := hP
            replace hD : va_D A [(h, .inr (7, [.ref k, .ref d, .ref j, .ref o, .ref f, .ref g, .ref wk, .ref im, .ref kt, .ref dl])), (k, .inr (0, [.ref ks, .ref kw, .ref kc, .int (-6), .int 0, .int 4, .ref kq, .ref km, .ref kd, .int 0, .ref ka, .ref kk])), (kq, .inl (cI, 6, .inl (upd (fun _ => 0) 2 i1))), (km, .inl (cI, 6, .inl (fun _ => 0))), (kd, .inl (cI, 6, .inl (fun _ => 0)))] := hD
            refine lv_aload_n hx hb dX7_meal_69 rfl (lv_at hl 0 rfl) ?_
            refine va_get (D := (dC, dI)) (ci := 7) (v := .ref k) (C := RX7) (T := TX7) (N := 10) hx hb hts hin7 hown hK hP 0 rfl rfl 0 (by decide) hw0 (fun _ h9 => h9) rfl dX7_meal_70 ?_
            refine va_get (D := (dC, dI)) (ci := 0) (v := .ref km) (C := RX0) (T := TX0) (N := 12) hx hb hts hin0 hown hK hP 1 rfl rfl 7 (by decide) hw3 (fun _ h9 => h9) rfl dX7_meal_73 ?_
            refine lv_iload_n hx hb dX7_meal_76 rfl (lv_at hl 1 rfl) ?_
            refine lv_iload_n hx hb dX7_meal_77 rfl (lv_at hl 3 rfl) ?_
            refine va_iast hx hb hK hP hD hS 3 0 rfl rfl (vin (by decide) (by decide)) dX7_meal_78 (fun H locs hP hD hS => ?_)
            replace hP : va_P (dC, dI) vwCl [(h, .inr (7, [.ref k, .ref d, .ref j, .ref o, .ref f, .ref g, .ref wk, .ref im, .ref kt, .ref dl])), (k, .inr (0, [.ref ks, .ref kw, .ref kc, .int (-6), .int 0, .int 4, .ref kq, .ref km, .ref kd, .int 0, .ref ka, .ref kk])), (kq, .inl (cI, 6, .inl (upd (fun _ => 0) 2 i1))), (km, .inl (cI, 6, .inl (upd (fun _ => 0) 2 i2))), (kd, .inl (cI, 6, .inl (fun _ => 0)))] H := hP
            replace hD : va_D A [(h, .inr (7, [.ref k, .ref d, .ref j, .ref o, .ref f, .ref g, .ref wk, .ref im, .ref kt, .ref dl])), (k, .inr (0, [.ref ks, .ref kw, .ref kc, .int (-6), .int 0, .int 4, .ref kq, .ref km, .ref kd, .int 0, .ref ka, .ref kk])), (kq, .inl (cI, 6, .inl (upd (fun _ => 0) 2 i1))), (km, .inl (cI, 6, .inl (upd (fun _ => 0) 2 i2))), (kd, .inl (cI, 6, .inl (fun _ => 0)))] := hD
            refine lv_aload_n hx hb dX7_meal_79 rfl (lv_at hl 0 rfl) ?_
            refine va_get (D := (dC, dI)) (ci := 7) (v := .ref k) (C := RX7) (T := TX7) (N := 10) hx hb hts hin7 hown hK hP 0 rfl rfl 0 (by decide) hw0 (fun _ h9 => h9) rfl dX7_meal_80 ?_
            refine va_get (D := (dC, dI)) (ci := 0) (v := .ref kd) (C := RX0) (T := TX0) (N := 12) hx hb hts hin0 hown hK hP 1 rfl rfl 8 (by decide) hw4 (fun _ h9 => h9) rfl dX7_meal_83 ?_
            refine lv_iload_n hx hb dX7_meal_86 rfl (lv_at hl 1 rfl) ?_
            refine lv_iload hx hb dX7_meal_87 (lv_at hl 4 rfl) ?_
            refine va_iast hx hb hK hP hD hS 4 0 rfl rfl (vin (by decide) (by decide)) dX7_meal_89 (fun H locs hP hD hS => ?_)
            replace hP : va_P (dC, dI) vwCl [(h, .inr (7, [.ref k, .ref d, .ref j, .ref o, .ref f, .ref g, .ref wk, .ref im, .ref kt, .ref dl])), (k, .inr (0, [.ref ks, .ref kw, .ref kc, .int (-6), .int 0, .int 4, .ref kq, .ref km, .ref kd, .int 0, .ref ka, .ref kk])), (kq, .inl (cI, 6, .inl (upd (fun _ => 0) 2 i1))), (km, .inl (cI, 6, .inl (upd (fun _ => 0) 2 i2))), (kd, .inl (cI, 6, .inl (upd (fun _ => 0) 2 i3)))] H := hP
            replace hD : va_D A [(h, .inr (7, [.ref k, .ref d, .ref j, .ref o, .ref f, .ref g, .ref wk, .ref im, .ref kt, .ref dl])), (k, .inr (0, [.ref ks, .ref kw, .ref kc, .int (-6), .int 0, .int 4, .ref kq, .ref km, .ref kd, .int 0, .ref ka, .ref kk])), (kq, .inl (cI, 6, .inl (upd (fun _ => 0) 2 i1))), (km, .inl (cI, 6, .inl (upd (fun _ => 0) 2 i2))), (kd, .inl (cI, 6, .inl (upd (fun _ => 0) 2 i3)))] := hD
            refine lv_aload_n hx hb dX7_meal_90 rfl (lv_at hl 0 rfl) ?_
            refine va_get (D := (dC, dI)) (ci := 7) (v := .ref k) (C := RX7) (T := TX7) (N := 10) hx hb hts hin7 hown hK hP 0 rfl rfl 0 (by decide) hw0 (fun _ h9 => h9) rfl dX7_meal_91 ?_
            refine va_get (D := (dC, dI)) (ci := 0) (v := .int 4) (C := RX0) (T := TX0) (N := 12) hx hb hts hin0 hown hK hP 1 rfl rfl 5 (by decide) hw1 (fun _ h9 => h9) rfl dX7_meal_94 ?_
            refine mx_i (wr := [(h, .inr (7, [.ref k, .ref d, .ref j, .ref o, .ref f, .ref g, .ref wk, .ref im, .ref kt, .ref dl])), (k, .inr (0, [.ref ks, .ref kw, .ref kc, .int (-6), .int 0, .int 4, .ref kq, .ref km, .ref kd, .int 0, .ref ka, .ref kk])), (kq, .inl (cI, 6, .inl (upd (fun _ => 0) 2 i1))), (km, .inl (cI, 6, .inl (upd (fun _ => 0) 2 i2))), (kd, .inl (cI, 6, .inl (upd (fun _ => 0) 2 i3)))]) (va_runS (As := [.int 4]) (rest := []) ⟨hx, hb, hml, hown, hts⟩ (c_J6_bitCount_0f7a4_4 l dC dI cI cZ cK tS aK aV  H.size) (va_cwS 1 hts (gw_s (fun _ h9 => List.mem_cons_of_mem _ h9) wm_114 wm_115 wm_116 wm_117) rfl rfl rfl (by decide +kernel) ⟨Nat.le_of_ble_eq_true rfl, Nat.le_of_ble_eq_true rfl⟩) (mx_preS hKx hP hD hS hA [] (by decide) rfl) rfl rfl hl.1 rfl (lv_room (Nat.le_of_ble_eq_true rfl)) dX7_meal_97 ⟨Nat.le_of_ble_eq_true rfl, Nat.le_of_ble_eq_true rfl⟩) hP hD hS hA [] [0, 1, 2, 3, 4] rfl rfl (by decide) (by decide) (fun r17 u17 H locs hq17 hP hD hS => ?_)
            replace hP : va_P (dC, dI) vwCl [(h, .inr (7, [.ref k, .ref d, .ref j, .ref o, .ref f, .ref g, .ref wk, .ref im, .ref kt, .ref dl])), (k, .inr (0, [.ref ks, .ref kw, .ref kc, .int (-6), .int 0, .int 4, .ref kq, .ref km, .ref kd, .int 0, .ref ka, .ref kk])), (kq, .inl (cI, 6, .inl (upd (fun _ => 0) 2 i1))), (km, .inl (cI, 6, .inl (upd (fun _ => 0) 2 i2))), (kd, .inl (cI, 6, .inl (upd (fun _ => 0) 2 i3)))] H := hP
            replace hD : va_D A [(h, .inr (7, [.ref k, .ref d, .ref j, .ref o, .ref f, .ref g, .ref wk, .ref im, .ref kt, .ref dl])), (k, .inr (0, [.ref ks, .ref kw, .ref kc, .int (-6), .int 0, .int 4, .ref kq, .ref km, .ref kd, .int 0, .ref ka, .ref kk])), (kq, .inl (cI, 6, .inl (upd (fun _ => 0) 2 i1))), (km, .inl (cI, 6, .inl (upd (fun _ => 0) 2 i2))), (kd, .inl (cI, 6, .inl (upd (fun _ => 0) 2 i3)))] := hD
            obtain rfl : r17 = 1 := hq17
            have hP9 := mx_subP (wc := []) hP [] rfl
            have hD9 := hD.sub (ws' := []) [] (by decide) rfl
            exact W.iret (v := 1) hx hb hr (fun t ht hW => ⟨⟨1, (), rfl, (by first | exact Or.inl (⟨rfl, by omega⟩) | exact Or.inr (Or.inl (⟨rfl, by omega⟩)) | exact Or.inr (Or.inr (⟨rfl, by omega⟩))), by rw [ht]; exact hP9, hD9⟩, hS.F ht⟩) hS.2.2 dX7_meal_100
          · have z9 : (3 : Int32).toInt = 3 := rfl
            refine lv_aload_n hx hb dX7_meal_44 rfl (lv_at hl 0 rfl) ?_
            refine va_get (D := (dC, dI)) (ci := 7) (v := .ref k) (C := RX7) (T := TX7) (N := 10) hx hb hts hin7 hown hK hP 0 rfl rfl 0 (by decide) hw0 (fun _ h9 => h9) rfl dX7_meal_45 ?_
            refine lv_dup hx hb dX7_meal_48 rfl ?_
            refine va_get (D := (dC, dI)) (ci := 0) (v := .int 0) (C := RX0) (T := TX0) (N := 12) hx hb hts hin0 hown hK hP 1 rfl rfl 5 (by decide) hw1 (fun _ h9 => h9) rfl dX7_meal_49 ?_
            refine lv_iconst (v := 1) hx hb dX7_meal_52 (by decide) ?_
            refine lv_iload_n hx hb dX7_meal_53 rfl (lv_at hl 1 rfl) ?_
            refine lv_ishl hx hb dX7_meal_54 ?_
            refine lv_topi (fun x18 e18 => ?_)
            obtain rfl : x18 = 8 := e18.trans (by decide)
            refine lv_ior hx hb dX7_meal_55 ?_
            refine lv_topi (fun x19 e19 => ?_)
            obtain rfl : x19 = 8 := e19.trans (by decide)
            refine va_put (D := (dC, dI)) (ci := 0) (v := .int 8) (ty := .int) (C := RX0) (T := TX0) (N := 12) hx hb hts hin0 tyX0 tyX0_ok nmX0 hown hK hP hD hS 1 rfl rfl 5 (by decide) hw1 (fun _ h9 => h9) rfl (by decide +kernel) rfl rfl (Nat.le_of_ble_eq_true rfl) dX7_meal_56 (fun H locs hP hD hS => ?_)
            replace hP : va_P (dC, dI) vwCl [(h, .inr (7, [.ref k, .ref d, .ref j, .ref o, .ref f, .ref g, .ref wk, .ref im, .ref kt, .ref dl])), (k, .inr (0, [.ref ks, .ref kw, .ref kc, .int (-6), .int 0, .int 8, .ref kq, .ref km, .ref kd, .int 0, .ref ka, .ref kk])), (kq, .inl (cI, 6, .inl (fun _ => 0))), (km, .inl (cI, 6, .inl (fun _ => 0))), (kd, .inl (cI, 6, .inl (fun _ => 0)))] H := hP
            replace hD : va_D A [(h, .inr (7, [.ref k, .ref d, .ref j, .ref o, .ref f, .ref g, .ref wk, .ref im, .ref kt, .ref dl])), (k, .inr (0, [.ref ks, .ref kw, .ref kc, .int (-6), .int 0, .int 8, .ref kq, .ref km, .ref kd, .int 0, .ref ka, .ref kk])), (kq, .inl (cI, 6, .inl (fun _ => 0))), (km, .inl (cI, 6, .inl (fun _ => 0))), (kd, .inl (cI, 6, .inl (fun _ => 0)))] := hD
            refine lv_aload_n hx hb dX7_meal_59 rfl (lv_at hl 0 rfl) ?_
            refine va_get (D := (dC, dI)) (ci := 7) (v := .ref k) (C := RX7) (T := TX7) (N := 10) hx hb hts hin7 hown hK hP 0 rfl rfl 0 (by decide) hw0 (fun _ h9 => h9) rfl dX7_meal_60 ?_
            refine va_get (D := (dC, dI)) (ci := 0) (v := .ref kq) (C := RX0) (T := TX0) (N := 12) hx hb hts hin0 hown hK hP 1 rfl rfl 6 (by decide) hw2 (fun _ h9 => h9) rfl dX7_meal_63 ?_
            refine lv_iload_n hx hb dX7_meal_66 rfl (lv_at hl 1 rfl) ?_
            refine lv_iload_n hx hb dX7_meal_67 rfl (lv_at hl 2 rfl) ?_
            refine va_iast hx hb hK hP hD hS 2 0 rfl rfl (vin (by decide) (by decide)) dX7_meal_68 (fun H locs hP hD hS => ?_)
            replace hP : va_P (dC, dI) vwCl [(h, .inr (7, [.ref k, .ref d, .ref j, .ref o, .ref f, .ref g, .ref wk, .ref im, .ref kt, .ref dl])), (k, .inr (0, [.ref ks, .ref kw, .ref kc, .int (-6), .int 0, .int 8, .ref kq, .ref km, .ref kd, .int 0, .ref ka, .ref kk])), (kq, .inl (cI, 6, .inl (upd (fun _ => 0) 3 i1))), (km, .inl (cI, 6, .inl (fun _ => 0))), (kd, .inl (cI, 6, .inl (fun _ => 0)))] H := hP
            replace hD : va_D A [(h, .inr (7, [.ref k, .ref d, .ref j, .ref o, .ref f, .ref g, .ref wk, .ref im, .ref kt, .ref dl])), (k, .inr (0, [.ref ks, .ref kw, .ref kc, .int (-6), .int 0, .int 8, .ref kq, .ref km, .ref kd, .int 0, .ref ka, .ref kk])), (kq, .inl (cI, 6, .inl (upd (fun _ => 0) 3 i1))), (km, .inl (cI, 6, .inl (fun _ => 0))), (kd, .inl (cI, 6, .inl (fun _ => 0)))] := hD
            refine lv_aload_n hx hb dX7_meal_69 rfl (lv_at hl 0 rfl) ?_
            refine va_get (D := (dC, dI)) (ci := 7) (v := .ref k) (C := RX7) (T := TX7) (N := 10) hx hb hts hin7 hown hK hP 0 rfl rfl 0 (by decide) hw0 (fun _ h9 => h9) rfl dX7_meal_70 ?_
            refine va_get (D := (dC, dI)) (ci := 0) (v := .ref km) (C := RX0) (T := TX0) (N := 12) hx hb hts hin0 hown hK hP 1 rfl rfl 7 (by decide) hw3 (fun _ h9 => h9) rfl dX7_meal_73 ?_
            refine lv_iload_n hx hb dX7_meal_76 rfl (lv_at hl 1 rfl) ?_
            refine lv_iload_n hx hb dX7_meal_77 rfl (lv_at hl 3 rfl) ?_
            refine va_iast hx hb hK hP hD hS 3 0 rfl rfl (vin (by decide) (by decide)) dX7_meal_78 (fun H locs hP hD hS => ?_)
            replace hP : va_P (dC, dI) vwCl [(h, .inr (7, [.ref k, .ref d, .ref j, .ref o, .ref f, .ref g, .ref wk, .ref im, .ref kt, .ref dl])), (k, .inr (0, [.ref ks, .ref kw, .ref kc, .int (-6), .int 0, .int 8, .ref kq, .ref km, .ref kd, .int 0, .ref ka, .ref kk])), (kq, .inl (cI, 6, .inl (upd (fun _ => 0) 3 i1))), (km, .inl (cI, 6, .inl (upd (fun _ => 0) 3 i2))), (kd, .inl (cI, 6, .inl (fun _ => 0)))] H := hP
            replace hD : va_D A [(h, .inr (7, [.ref k, .ref d, .ref j, .ref o, .ref f, .ref g, .ref wk, .ref im, .ref kt, .ref dl])), (k, .inr (0, [.ref ks, .ref kw, .ref kc, .int (-6), .int 0, .int 8, .ref kq, .ref km, .ref kd, .int 0, .ref ka, .ref kk])), (kq, .inl (cI, 6, .inl (upd (fun _ => 0) 3 i1))), (km, .inl (cI, 6, .inl (upd (fun _ => 0) 3 i2))), (kd, .inl (cI, 6, .inl (fun _ => 0)))] := hD
            refine lv_aload_n hx hb dX7_meal_79 rfl (lv_at hl 0 rfl) ?_
            refine va_get (D := (dC, dI)) (ci := 7) (v := .ref k) (C := RX7) (T := TX7) (N := 10) hx hb hts hin7 hown hK hP 0 rfl rfl 0 (by decide) hw0 (fun _ h9 => h9) rfl dX7_meal_80 ?_
            refine va_get (D := (dC, dI)) (ci := 0) (v := .ref kd) (C := RX0) (T := TX0) (N := 12) hx hb hts hin0 hown hK hP 1 rfl rfl 8 (by decide) hw4 (fun _ h9 => h9) rfl dX7_meal_83 ?_
            refine lv_iload_n hx hb dX7_meal_86 rfl (lv_at hl 1 rfl) ?_
            refine lv_iload hx hb dX7_meal_87 (lv_at hl 4 rfl) ?_
            refine va_iast hx hb hK hP hD hS 4 0 rfl rfl (vin (by decide) (by decide)) dX7_meal_89 (fun H locs hP hD hS => ?_)
            replace hP : va_P (dC, dI) vwCl [(h, .inr (7, [.ref k, .ref d, .ref j, .ref o, .ref f, .ref g, .ref wk, .ref im, .ref kt, .ref dl])), (k, .inr (0, [.ref ks, .ref kw, .ref kc, .int (-6), .int 0, .int 8, .ref kq, .ref km, .ref kd, .int 0, .ref ka, .ref kk])), (kq, .inl (cI, 6, .inl (upd (fun _ => 0) 3 i1))), (km, .inl (cI, 6, .inl (upd (fun _ => 0) 3 i2))), (kd, .inl (cI, 6, .inl (upd (fun _ => 0) 3 i3)))] H := hP
            replace hD : va_D A [(h, .inr (7, [.ref k, .ref d, .ref j, .ref o, .ref f, .ref g, .ref wk, .ref im, .ref kt, .ref dl])), (k, .inr (0, [.ref ks, .ref kw, .ref kc, .int (-6), .int 0, .int 8, .ref kq, .ref km, .ref kd, .int 0, .ref ka, .ref kk])), (kq, .inl (cI, 6, .inl (upd (fun _ => 0) 3 i1))), (km, .inl (cI, 6, .inl (upd (fun _ => 0) 3 i2))), (kd, .inl (cI, 6, .inl (upd (fun _ => 0) 3 i3)))] := hD
            refine lv_aload_n hx hb dX7_meal_90 rfl (lv_at hl 0 rfl) ?_
            refine va_get (D := (dC, dI)) (ci := 7) (v := .ref k) (C := RX7) (T := TX7) (N := 10) hx hb hts hin7 hown hK hP 0 rfl rfl 0 (by decide) hw0 (fun _ h9 => h9) rfl dX7_meal_91 ?_
            refine va_get (D := (dC, dI)) (ci := 0) (v := .int 8) (C := RX0) (T := TX0) (N := 12) hx hb hts hin0 hown hK hP 1 rfl rfl 5 (by decide) hw1 (fun _ h9 => h9) rfl dX7_meal_94 ?_
            refine mx_i (wr := [(h, .inr (7, [.ref k, .ref d, .ref j, .ref o, .ref f, .ref g, .ref wk, .ref im, .ref kt, .ref dl])), (k, .inr (0, [.ref ks, .ref kw, .ref kc, .int (-6), .int 0, .int 8, .ref kq, .ref km, .ref kd, .int 0, .ref ka, .ref kk])), (kq, .inl (cI, 6, .inl (upd (fun _ => 0) 3 i1))), (km, .inl (cI, 6, .inl (upd (fun _ => 0) 3 i2))), (kd, .inl (cI, 6, .inl (upd (fun _ => 0) 3 i3)))]) (va_runS (As := [.int 8]) (rest := []) ⟨hx, hb, hml, hown, hts⟩ (c_J6_bitCount_0f7a4_8 l dC dI cI cZ cK tS aK aV  H.size) (va_cwS 1 hts (gw_s (fun _ h9 => List.mem_cons_of_mem _ h9) wm_114 wm_115 wm_116 wm_117) rfl rfl rfl (by decide +kernel) ⟨Nat.le_of_ble_eq_true rfl, Nat.le_of_ble_eq_true rfl⟩) (mx_preS hKx hP hD hS hA [] (by decide) rfl) rfl rfl hl.1 rfl (lv_room (Nat.le_of_ble_eq_true rfl)) dX7_meal_97 ⟨Nat.le_of_ble_eq_true rfl, Nat.le_of_ble_eq_true rfl⟩) hP hD hS hA [] [0, 1, 2, 3, 4] rfl rfl (by decide) (by decide) (fun r20 u20 H locs hq20 hP hD hS => ?_)
            replace hP : va_P (dC, dI) vwCl [(h, .inr (7, [.ref k, .ref d, .ref j, .ref o, .ref f, .ref g, .ref wk, .ref im, .ref kt, .ref dl])), (k, .inr (0, [.ref ks, .ref kw, .ref kc, .int (-6), .int 0, .int 8, .ref kq, .ref km, .ref kd, .int 0, .ref ka, .ref kk])), (kq, .inl (cI, 6, .inl (upd (fun _ => 0) 3 i1))), (km, .inl (cI, 6, .inl (upd (fun _ => 0) 3 i2))), (kd, .inl (cI, 6, .inl (upd (fun _ => 0) 3 i3)))] H := hP
            replace hD : va_D A [(h, .inr (7, [.ref k, .ref d, .ref j, .ref o, .ref f, .ref g, .ref wk, .ref im, .ref kt, .ref dl])), (k, .inr (0, [.ref ks, .ref kw, .ref kc, .int (-6), .int 0, .int 8, .ref kq, .ref km, .ref kd, .int 0, .ref ka, .ref kk])), (kq, .inl (cI, 6, .inl (upd (fun _ => 0) 3 i1))), (km, .inl (cI, 6, .inl (upd (fun _ => 0) 3 i2))), (kd, .inl (cI, 6, .inl (upd (fun _ => 0) 3 i3)))] := hD
            obtain rfl : r20 = 1 := hq20
            have hP9 := mx_subP (wc := []) hP [] rfl
            have hD9 := hD.sub (ws' := []) [] (by decide) rfl
            exact W.iret (v := 1) hx hb hr (fun t ht hW => ⟨⟨1, (), rfl, (by first | exact Or.inl (⟨rfl, by omega⟩) | exact Or.inr (Or.inl (⟨rfl, by omega⟩)) | exact Or.inr (Or.inr (⟨rfl, by omega⟩))), by rw [ht]; exact hP9, hD9⟩, hS.F ht⟩) hS.2.2 dX7_meal_100
          · have z9 : (4 : Int32).toInt = 4 := rfl
            refine lv_aload_n hx hb dX7_meal_44 rfl (lv_at hl 0 rfl) ?_
            refine va_get (D := (dC, dI)) (ci := 7) (v := .ref k) (C := RX7) (T := TX7) (N := 10) hx hb hts hin7 hown hK hP 0 rfl rfl 0 (by decide) hw0 (fun _ h9 => h9) rfl dX7_meal_45 ?_
            refine lv_dup hx hb dX7_meal_48 rfl ?_
            refine va_get (D := (dC, dI)) (ci := 0) (v := .int 0) (C := RX0) (T := TX0) (N := 12) hx hb hts hin0 hown hK hP 1 rfl rfl 5 (by decide) hw1 (fun _ h9 => h9) rfl dX7_meal_49 ?_
            refine lv_iconst (v := 1) hx hb dX7_meal_52 (by decide) ?_
            refine lv_iload_n hx hb dX7_meal_53 rfl (lv_at hl 1 rfl) ?_
            refine lv_ishl hx hb dX7_meal_54 ?_
            refine lv_topi (fun x21 e21 => ?_)
            obtain rfl : x21 = 16 := e21.trans (by decide)
            refine lv_ior hx hb dX7_meal_55 ?_
            refine lv_topi (fun x22 e22 => ?_)
            obtain rfl : x22 = 16 := e22.trans (by decide)
            refine va_put (D := (dC, dI)) (ci := 0) (v := .int 16) (ty := .int) (C := RX0) (T := TX0) (N := 12) hx hb hts hin0 tyX0 tyX0_ok nmX0 hown hK hP hD hS 1 rfl rfl 5 (by decide) hw1 (fun _ h9 => h9) rfl (by decide +kernel) rfl rfl (Nat.le_of_ble_eq_true rfl) dX7_meal_56 (fun H locs hP hD hS => ?_)
            replace hP : va_P (dC, dI) vwCl [(h, .inr (7, [.ref k, .ref d, .ref j, .ref o, .ref f, .ref g, .ref wk, .ref im, .ref kt, .ref dl])), (k, .inr (0, [.ref ks, .ref kw, .ref kc, .int (-6), .int 0, .int 16, .ref kq, .ref km, .ref kd, .int 0, .ref ka, .ref kk])), (kq, .inl (cI, 6, .inl (fun _ => 0))), (km, .inl (cI, 6, .inl (fun _ => 0))), (kd, .inl (cI, 6, .inl (fun _ => 0)))] H := hP
            replace hD : va_D A [(h, .inr (7, [.ref k, .ref d, .ref j, .ref o, .ref f, .ref g, .ref wk, .ref im, .ref kt, .ref dl])), (k, .inr (0, [.ref ks, .ref kw, .ref kc, .int (-6), .int 0, .int 16, .ref kq, .ref km, .ref kd, .int 0, .ref ka, .ref kk])), (kq, .inl (cI, 6, .inl (fun _ => 0))), (km, .inl (cI, 6, .inl (fun _ => 0))), (kd, .inl (cI, 6, .inl (fun _ => 0)))] := hD
            refine lv_aload_n hx hb dX7_meal_59 rfl (lv_at hl 0 rfl) ?_
            refine va_get (D := (dC, dI)) (ci := 7) (v := .ref k) (C := RX7) (T := TX7) (N := 10) hx hb hts hin7 hown hK hP 0 rfl rfl 0 (by decide) hw0 (fun _ h9 => h9) rfl dX7_meal_60 ?_
            refine va_get (D := (dC, dI)) (ci := 0) (v := .ref kq) (C := RX0) (T := TX0) (N := 12) hx hb hts hin0 hown hK hP 1 rfl rfl 6 (by decide) hw2 (fun _ h9 => h9) rfl dX7_meal_63 ?_
            refine lv_iload_n hx hb dX7_meal_66 rfl (lv_at hl 1 rfl) ?_
            refine lv_iload_n hx hb dX7_meal_67 rfl (lv_at hl 2 rfl) ?_
            refine va_iast hx hb hK hP hD hS 2 0 rfl rfl (vin (by decide) (by decide)) dX7_meal_68 (fun H locs hP hD hS => ?_)
            replace hP : va_P (dC, dI) vwCl [(h, .inr (7, [.ref k, .ref d, .ref j, .ref o, .ref f, .ref g, .ref wk, .ref im, .ref kt, .ref dl])), (k, .inr (0, [.ref ks, .ref kw, .ref kc, .int (-6), .int 0, .int 16, .ref kq, .ref km, .ref kd, .int 0, .ref ka, .ref kk])), (kq, .inl (cI, 6, .inl (upd (fun _ => 0) 4 i1))), (km, .inl (cI, 6, .inl (fun _ => 0))), (kd, .inl (cI, 6, .inl (fun _ => 0)))] H := hP
            replace hD : va_D A [(h, .inr (7, [.ref k, .ref d, .ref j, .ref o, .ref f, .ref g, .ref wk, .ref im, .ref kt, .ref dl])), (k, .inr (0, [.ref ks, .ref kw, .ref kc, .int (-6), .int 0, .int 16, .ref kq, .ref km, .ref kd, .int 0, .ref ka, .ref kk])), (kq, .inl (cI, 6, .inl (upd (fun _ => 0) 4 i1))), (km, .inl (cI, 6, .inl (fun _ => 0))), (kd, .inl (cI, 6, .inl (fun _ => 0)))] := hD
            refine lv_aload_n hx hb dX7_meal_69 rfl (lv_at hl 0 rfl) ?_
            refine va_get (D := (dC, dI)) (ci := 7) (v := .ref k) (C := RX7) (T := TX7) (N := 10) hx hb hts hin7 hown hK hP 0 rfl rfl 0 (by decide) hw0 (fun _ h9 => h9) rfl dX7_meal_70 ?_
            refine va_get (D := (dC, dI)) (ci := 0) (v := .ref km) (C := RX0) (T := TX0) (N := 12) hx hb hts hin0 hown hK hP 1 rfl rfl 7 (by decide) hw3 (fun _ h9 => h9) rfl dX7_meal_73 ?_
            refine lv_iload_n hx hb dX7_meal_76 rfl (lv_at hl 1 rfl) ?_
            refine lv_iload_n hx hb dX7_meal_77 rfl (lv_at hl 3 rfl) ?_
            refine va_iast hx hb hK hP hD hS 3 0 rfl rfl (vin (by decide) (by decide)) dX7_meal_78 (fun H locs hP hD hS => ?_)
            replace hP : va_P (dC, dI) vwCl [(h, .inr (7, [.ref k, .ref d, .ref j, .ref o, .ref f, .ref g, .ref wk, .ref im, .ref kt, .ref dl])), (k, .inr (0, [.ref ks, .ref kw, .ref kc, .int (-6), .int 0, .int 16, .ref kq, .ref km, .ref kd, .int 0, .ref ka, .ref kk])), (kq, .inl (cI, 6, .inl (upd (fun _ => 0) 4 i1))), (km, .inl (cI, 6, .inl (upd (fun _ => 0) 4 i2))), (kd, .inl (cI, 6, .inl (fun _ => 0)))] H := hP
            replace hD : va_D A [(h, .inr (7, [.ref k, .ref d, .ref j, .ref o, .ref f, .ref g, .ref wk, .ref im, .ref kt, .ref dl])), (k, .inr (0, [.ref ks, .ref kw, .ref kc, .int (-6), .int 0, .int 16, .ref kq, .ref km, .ref kd, .int 0, .ref ka, .ref kk])), (kq, .inl (cI, 6, .inl (upd (fun _ => 0) 4 i1))), (km, .inl (cI, 6, .inl (upd (fun _ => 0) 4 i2))), (kd, .inl (cI, 6, .inl (fun _ => 0)))] := hD
            refine lv_aload_n hx hb dX7_meal_79 rfl (lv_at hl 0 rfl) ?_
            refine va_get (D := (dC, dI)) (ci := 7) (v := .ref k) (C := RX7) (T := TX7) (N := 10) hx hb hts hin7 hown hK hP 0 rfl rfl 0 (by decide) hw0 (fun _ h9 => h9) rfl dX7_meal_80 ?_
            refine va_get (D := (dC, dI)) (ci := 0) (v := .ref kd) (C := RX0) (T := TX0) (N := 12) hx hb hts hin0 hown hK hP 1 rfl rfl 8 (by decide) hw4 (fun _ h9 => h9) rfl dX7_meal_83 ?_
            refine lv_iload_n hx hb dX7_meal_86 rfl (lv_at hl 1 rfl) ?_
            refine lv_iload hx hb dX7_meal_87 (lv_at hl 4 rfl) ?_
            refine va_iast hx hb hK hP hD hS 4 0 rfl rfl (vin (by decide) (by decide)) dX7_meal_89 (fun H locs hP hD hS => ?_)
            replace hP : va_P (dC, dI) vwCl [(h, .inr (7, [.ref k, .ref d, .ref j, .ref o, .ref f, .ref g, .ref wk, .ref im, .ref kt, .ref dl])), (k, .inr (0, [.ref ks, .ref kw, .ref kc, .int (-6), .int 0, .int 16, .ref kq, .ref km, .ref kd, .int 0, .ref ka, .ref kk])), (kq, .inl (cI, 6, .inl (upd (fun _ => 0) 4 i1))), (km, .inl (cI, 6, .inl (upd (fun _ => 0) 4 i2))), (kd, .inl (cI, 6, .inl (upd (fun _ => 0) 4 i3)))] H := hP
            replace hD : va_D A [(h, .inr (7, [.ref k, .ref d, .ref j, .ref o, .ref f, .ref g, .ref wk, .ref im, .ref kt, .ref dl])), (k, .inr (0, [.ref ks, .ref kw, .ref kc, .int (-6), .int 0, .int 16, .ref kq, .ref km, .ref kd, .int 0, .ref ka, .ref kk])), (kq, .inl (cI, 6, .inl (upd (fun _ => 0) 4 i1))), (km, .inl (cI, 6, .inl (upd (fun _ => 0) 4 i2))), (kd, .inl (cI, 6, .inl (upd (fun _ => 0) 4 i3)))] := hD
            refine lv_aload_n hx hb dX7_meal_90 rfl (lv_at hl 0 rfl) ?_
            refine va_get (D := (dC, dI)) (ci := 7) (v := .ref k) (C := RX7) (T := TX7) (N := 10) hx hb hts hin7 hown hK hP 0 rfl rfl 0 (by decide) hw0 (fun _ h9 => h9) rfl dX7_meal_91 ?_
            refine va_get (D := (dC, dI)) (ci := 0) (v := .int 16) (C := RX0) (T := TX0) (N := 12) hx hb hts hin0 hown hK hP 1 rfl rfl 5 (by decide) hw1 (fun _ h9 => h9) rfl dX7_meal_94 ?_
            refine mx_i (wr := [(h, .inr (7, [.ref k, .ref d, .ref j, .ref o, .ref f, .ref g, .ref wk, .ref im, .ref kt, .ref dl])), (k, .inr (0, [.ref ks, .ref kw, .ref kc, .int (-6), .int 0, .int 16, .ref kq, .ref km, .ref kd, .int 0, .ref ka, .ref kk])), (kq, .inl (cI, 6, .inl (upd (fun _ => 0) 4 i1))), (km, .inl (cI, 6, .inl (upd (fun _ => 0) 4 i2))), (kd, .inl (cI, 6, .inl (upd (fun _ => 0) 4 i3)))]) (va_runS (As := [.int 16]) (rest := []) ⟨hx, hb, hml, hown, hts⟩ (c_J6_bitCount_0f7a4_16 l dC dI cI cZ cK tS aK aV  H.size) (va_cwS 1 hts (gw_s (fun _ h9 => List.mem_cons_of_mem _ h9) wm_114 wm_115 wm_116 wm_117) rfl rfl rfl (by decide +kernel) ⟨Nat.le_of_ble_eq_true rfl, Nat.le_of_ble_eq_true rfl⟩) (mx_preS hKx hP hD hS hA [] (by decide) rfl) rfl rfl hl.1 rfl (lv_room (Nat.le_of_ble_eq_true rfl)) dX7_meal_97 ⟨Nat.le_of_ble_eq_true rfl, Nat.le_of_ble_eq_true rfl⟩) hP hD hS hA [] [0, 1, 2, 3, 4] rfl rfl (by decide) (by decide) (fun r23 u23 H locs hq23 hP hD hS => ?_)
            replace hP : va_P (dC, dI) vwCl [(h, .inr (7, [.ref k, .ref d, .ref j, .ref o, .ref f, .ref g, .ref wk, .ref im, .ref kt, .ref dl])), (k, .inr (0, [.ref ks, .ref kw, .ref kc, .int (-6), .int 0, .int 16, .ref kq, .ref km, .ref kd, .int 0, .ref ka, .ref kk])), (kq, .inl (cI, 6, .inl (upd (fun _ => 0) 4 i1))), (km, .inl (cI, 6, .inl (upd (fun _ => 0) 4 i2))), (kd, .inl (cI, 6, .inl (upd (fun _ => 0) 4 i3)))] H := hP
            replace hD : va_D A [(h, .inr (7, [.ref k, .ref d, .ref j, .ref o, .ref f, .ref g, .ref wk, .ref im, .ref kt, .ref dl])), (k, .inr (0, [.ref ks, .ref kw, .ref kc, .int (-6), .int 0, .int 16, .ref kq, .ref km, .ref kd, .int 0, .ref ka, .ref kk])), (kq, .inl (cI, 6, .inl (upd (fun _ => 0) 4 i1))), (km, .inl (cI, 6, .inl (upd (fun _ => 0) 4 i2))), (kd, .inl (cI, 6, .inl (upd (fun _ => 0) 4 i3)))] := hD
            obtain rfl : r23 = 1 := hq23
            have hP9 := mx_subP (wc := []) hP [] rfl
            have hD9 := hD.sub (ws' := []) [] (by decide) rfl
            exact W.iret (v := 1) hx hb hr (fun t ht hW => ⟨⟨1, (), rfl, (by first | exact Or.inl (⟨rfl, by omega⟩) | exact Or.inr (Or.inl (⟨rfl, by omega⟩)) | exact Or.inr (Or.inr (⟨rfl, by omega⟩))), by rw [ht]; exact hP9, hD9⟩, hS.F ht⟩) hS.2.2 dX7_meal_100
          · have z9 : (5 : Int32).toInt = 5 := rfl
            refine lv_aload_n hx hb dX7_meal_44 rfl (lv_at hl 0 rfl) ?_
            refine va_get (D := (dC, dI)) (ci := 7) (v := .ref k) (C := RX7) (T := TX7) (N := 10) hx hb hts hin7 hown hK hP 0 rfl rfl 0 (by decide) hw0 (fun _ h9 => h9) rfl dX7_meal_45 ?_
            refine lv_dup hx hb dX7_meal_48 rfl ?_
            refine va_get (D := (dC, dI)) (ci := 0) (v := .int 0) (C := RX0) (T := TX0) (N := 12) hx hb hts hin0 hown hK hP 1 rfl rfl 5 (by decide) hw1 (fun _ h9 => h9) rfl dX7_meal_49 ?_
            refine lv_iconst (v := 1) hx hb dX7_meal_52 (by decide) ?_
            refine lv_iload_n hx hb dX7_meal_53 rfl (lv_at hl 1 rfl) ?_
            refine lv_ishl hx hb dX7_meal_54 ?_
            refine lv_topi (fun x24 e24 => ?_)
            obtain rfl : x24 = 32 := e24.trans (by decide)
            refine lv_ior hx hb dX7_meal_55 ?_
            refine lv_topi (fun x25 e25 => ?_)
            obtain rfl : x25 = 32 := e25.trans (by decide)
            refine va_put (D := (dC, dI)) (ci := 0) (v := .int 32) (ty := .int) (C := RX0) (T := TX0) (N := 12) hx hb hts hin0 tyX0 tyX0_ok nmX0 hown hK hP hD hS 1 rfl rfl 5 (by decide) hw1 (fun _ h9 => h9) rfl (by decide +kernel) rfl rfl (Nat.le_of_ble_eq_true rfl) dX7_meal_56 (fun H locs hP hD hS => ?_)
            replace hP : va_P (dC, dI) vwCl [(h, .inr (7, [.ref k, .ref d, .ref j, .ref o, .ref f, .ref g, .ref wk, .ref im, .ref kt, .ref dl])), (k, .inr (0, [.ref ks, .ref kw, .ref kc, .int (-6), .int 0, .int 32, .ref kq, .ref km, .ref kd, .int 0, .ref ka, .ref kk])), (kq, .inl (cI, 6, .inl (fun _ => 0))), (km, .inl (cI, 6, .inl (fun _ => 0))), (kd, .inl (cI, 6, .inl (fun _ => 0)))] H := hP
            replace hD : va_D A [(h, .inr (7, [.ref k, .ref d, .ref j, .ref o, .ref f, .ref g, .ref wk, .ref im, .ref kt, .ref dl])), (k, .inr (0, [.ref ks, .ref kw, .ref kc, .int (-6), .int 0, .int 32, .ref kq, .ref km, .ref kd, .int 0, .ref ka, .ref kk])), (kq, .inl (cI, 6, .inl (fun _ => 0))), (km, .inl (cI, 6, .inl (fun _ => 0))), (kd, .inl (cI, 6, .inl (fun _ => 0)))] := hD
            refine lv_aload_n hx hb dX7_meal_59 rfl (lv_at hl 0 rfl) ?_
            refine va_get (D := (dC, dI)) (ci := 7) (v := .ref k) (C := RX7) (T := TX7) (N := 10) hx hb hts hin7 hown hK hP 0 rfl rfl 0 (by decide) hw0 (fun _ h9 => h9) rfl dX7_meal_60 ?_
            refine va_get (D := (dC, dI)) (ci := 0) (v := .ref kq) (C := RX0) (T := TX0) (N := 12) hx hb hts hin0 hown hK hP 1 rfl rfl 6 (by decide) hw2 (fun _ h9 => h9) rfl dX7_meal_63 ?_
            refine lv_iload_n hx hb dX7_meal_66 rfl (lv_at hl 1 rfl) ?_
            refine lv_iload_n hx hb dX7_meal_67 rfl (lv_at hl 2 rfl) ?_
            refine va_iast hx hb hK hP hD hS 2 0 rfl rfl (vin (by decide) (by decide)) dX7_meal_68 (fun H locs hP hD hS => ?_)
            replace hP : va_P (dC, dI) vwCl [(h, .inr (7, [.ref k, .ref d, .ref j, .ref o, .ref f, .ref g, .ref wk, .ref im, .ref kt, .ref dl])), (k, .inr (0, [.ref ks, .ref kw, .ref kc, .int (-6), .int 0, .int 32, .ref kq, .ref km, .ref kd, .int 0, .ref ka, .ref kk])), (kq, .inl (cI, 6, .inl (upd (fun _ => 0) 5 i1))), (km, .inl (cI, 6, .inl (fun _ => 0))), (kd, .inl (cI, 6, .inl (fun _ => 0)))] H := hP
            replace hD : va_D A [(h, .inr (7, [.ref k, .ref d, .ref j, .ref o, .ref f, .ref g, .ref wk, .ref im, .ref kt, .ref dl])), (k, .inr (0, [.ref ks, .ref kw, .ref kc, .int (-6), .int 0, .int 32, .ref kq, .ref km, .ref kd, .int 0, .ref ka, .ref kk])), (kq, .inl (cI, 6, .inl (upd (fun _ => 0) 5 i1))), (km, .inl (cI, 6, .inl (fun _ => 0))), (kd, .inl (cI, 6, .inl (fun _ => 0)))] := hD
            refine lv_aload_n hx hb dX7_meal_69 rfl (lv_at hl 0 rfl) ?_
            refine va_get (D := (dC, dI)) (ci := 7) (v := .ref k) (C := RX7) (T := TX7) (N := 10) hx hb hts hin7 hown hK hP 0 rfl rfl 0 (by decide) hw0 (fun _ h9 => h9) rfl dX7_meal_70 ?_
            refine va_get (D := (dC, dI)) (ci := 0) (v := .ref km) (C := RX0) (T := TX0) (N := 12) hx hb hts hin0 hown hK hP 1 rfl rfl 7 (by decide) hw3 (fun _ h9 => h9) rfl dX7_meal_73 ?_
            refine lv_iload_n hx hb dX7_meal_76 rfl (lv_at hl 1 rfl) ?_
            refine lv_iload_n hx hb dX7_meal_77 rfl (lv_at hl 3 rfl) ?_
            refine va_iast hx hb hK hP hD hS 3 0 rfl rfl (vin (by decide) (by decide)) dX7_meal_78 (fun H locs hP hD hS => ?_)
            replace hP : va_P (dC, dI) vwCl [(h, .inr (7, [.ref k, .ref d, .ref j, .ref o, .ref f, .ref g, .ref wk, .ref im, .ref kt, .ref dl])), (k, .inr (0, [.ref ks, .ref kw, .ref kc, .int (-6), .int 0, .int 32, .ref kq, .ref km, .ref kd, .int 0, .ref ka, .ref kk])), (kq, .inl (cI, 6, .inl (upd (fun _ => 0) 5 i1))), (km, .inl (cI, 6, .inl (upd (fun _ => 0) 5 i2))), (kd, .inl (cI, 6, .inl (fun _ => 0)))] H := hP
            replace hD : va_D A [(h, .inr (7, [.ref k, .ref d, .ref j, .ref o, .ref f, .ref g, .ref wk, .ref im, .ref kt, .ref dl])), (k, .inr (0, [.ref ks, .ref kw, .ref kc, .int (-6), .int 0, .int 32, .ref kq, .ref km, .ref kd, .int 0, .ref ka, .ref kk])), (kq, .inl (cI, 6, .inl (upd (fun _ => 0) 5 i1))), (km, .inl (cI, 6, .inl (upd (fun _ => 0) 5 i2))), (kd, .inl (cI, 6, .inl (fun _ => 0)))] := hD
            refine lv_aload_n hx hb dX7_meal_79 rfl (lv_at hl 0 rfl) ?_
            refine va_get (D := (dC, dI)) (ci := 7) (v := .ref k) (C := RX7) (T := TX7) (N := 10) hx hb hts hin7 hown hK hP 0 rfl rfl 0 (by decide) hw0 (fun _ h9 => h9) rfl dX7_meal_80 ?_
            refine va_get (D := (dC, dI)) (ci := 0) (v := .ref kd) (C := RX0) (T := TX0) (N := 12) hx hb hts hin0 hown hK hP 1 rfl rfl 8 (by decide) hw4 (fun _ h9 => h9) rfl dX7_meal_83 ?_
            refine lv_iload_n hx hb dX7_meal_86 rfl (lv_at hl 1 rfl) ?_
            refine lv_iload hx hb dX7_meal_87 (lv_at hl 4 rfl) ?_
            refine va_iast hx hb hK hP hD hS 4 0 rfl rfl (vin (by decide) (by decide)) dX7_meal_89 (fun H locs hP hD hS => ?_)
            replace hP : va_P (dC, dI) vwCl [(h, .inr (7, [.ref k, .ref d, .ref j, .ref o, .ref f, .ref g, .ref wk, .ref im, .ref kt, .ref dl])), (k, .inr (0, [.ref ks, .ref kw, .ref kc, .int (-6), .int 0, .int 32, .ref kq, .ref km, .ref kd, .int 0, .ref ka, .ref kk])), (kq, .inl (cI, 6, .inl (upd (fun _ => 0) 5 i1))), (km, .inl (cI, 6, .inl (upd (fun _ => 0) 5 i2))), (kd, .inl (cI, 6, .inl (upd (fun _ => 0) 5 i3)))] H := hP
            replace hD : va_D A [(h, .inr (7, [.ref k, .ref d, .ref j, .ref o, .ref f, .ref g, .ref wk, .ref im, .ref kt, .ref dl])), (k, .inr (0, [.ref ks, .ref kw, .ref kc, .int (-6), .int 0, .int 32, .ref kq, .ref km, .ref kd, .int 0, .ref ka, .ref kk])), (kq, .inl (cI, 6, .inl (upd (fun _ => 0) 5 i1))), (km, .inl (cI, 6, .inl (upd (fun _ => 0) 5 i2))), (kd, .inl (cI, 6, .inl (upd (fun _ => 0) 5 i3)))] := hD
            refine lv_aload_n hx hb dX7_meal_90 rfl (lv_at hl 0 rfl) ?_
            refine va_get (D := (dC, dI)) (ci := 7) (v := .ref k) (C := RX7) (T := TX7) (N := 10) hx hb hts hin7 hown hK hP 0 rfl rfl 0 (by decide) hw0 (fun _ h9 => h9) rfl dX7_meal_91 ?_
            refine va_get (D := (dC, dI)) (ci := 0) (v := .int 32) (C := RX0) (T := TX0) (N := 12) hx hb hts hin0 hown hK hP 1 rfl rfl 5 (by decide) hw1 (fun _ h9 => h9) rfl dX7_meal_94 ?_
            refine mx_i (wr := [(h, .inr (7, [.ref k, .ref d, .ref j, .ref o, .ref f, .ref g, .ref wk, .ref im, .ref kt, .ref dl])), (k, .inr (0, [.ref ks, .ref kw, .ref kc, .int (-6), .int 0, .int 32, .ref kq, .ref km, .ref kd, .int 0, .ref ka, .ref kk])), (kq, .inl (cI, 6, .inl (upd (fun _ => 0) 5 i1))), (km, .inl (cI, 6, .inl (upd (fun _ => 0) 5 i2))), (kd, .inl (cI, 6, .inl (upd (fun _ => 0) 5 i3)))]) (va_runS (As := [.int 32]) (rest := []) ⟨hx, hb, hml, hown, hts⟩ (c_J6_bitCount_0f7a4_32 l dC dI cI cZ cK tS aK aV  H.size) (va_cwS 1 hts (gw_s (fun _ h9 => List.mem_cons_of_mem _ h9) wm_114 wm_115 wm_116 wm_117) rfl rfl rfl (by decide +kernel) ⟨Nat.le_of_ble_eq_true rfl, Nat.le_of_ble_eq_true rfl⟩) (mx_preS hKx hP hD hS hA [] (by decide) rfl) rfl rfl hl.1 rfl (lv_room (Nat.le_of_ble_eq_true rfl)) dX7_meal_97 ⟨Nat.le_of_ble_eq_true rfl, Nat.le_of_ble_eq_true rfl⟩) hP hD hS hA [] [0, 1, 2, 3, 4] rfl rfl (by decide) (by decide) (fun r26 u26 H locs hq26 hP hD hS => ?_)
            replace hP : va_P (dC, dI) vwCl [(h, .inr (7, [.ref k, .ref d, .ref j, .ref o, .ref f, .ref g, .ref wk, .ref im, .ref kt, .ref dl])), (k, .inr (0, [.ref ks, .ref kw, .ref kc, .int (-6), .int 0, .int 32, .ref kq, .ref km, .ref kd, .int 0, .ref ka, .ref kk])), (kq, .inl (cI, 6, .inl (upd (fun _ => 0) 5 i1))), (km, .inl (cI, 6, .inl (upd (fun _ => 0) 5 i2))), (kd, .inl (cI, 6, .inl (upd (fun _ => 0) 5 i3)))] H := hP
            replace hD : va_D A [(h, .inr (7, [.ref k, .ref d, .ref j, .ref o, .ref f, .ref g, .ref wk, .ref im, .ref kt, .ref dl])), (k, .inr (0, [.ref ks, .ref kw, .ref kc, .int (-6), .int 0, .int 32, .ref kq, .ref km, .ref kd, .int 0, .ref ka, .ref kk])), (kq, .inl (cI, 6, .inl (upd (fun _ => 0) 5 i1))), (km, .inl (cI, 6, .inl (upd (fun _ => 0) 5 i2))), (kd, .inl (cI, 6, .inl (upd (fun _ => 0) 5 i3)))] := hD
            obtain rfl : r26 = 1 := hq26
            have hP9 := mx_subP (wc := []) hP [] rfl
            have hD9 := hD.sub (ws' := []) [] (by decide) rfl
            exact W.iret (v := 1) hx hb hr (fun t ht hW => ⟨⟨1, (), rfl, (by first | exact Or.inl (⟨rfl, by omega⟩) | exact Or.inr (Or.inl (⟨rfl, by omega⟩)) | exact Or.inr (Or.inr (⟨rfl, by omega⟩))), by rw [ht]; exact hP9, hD9⟩, hS.F ht⟩) hS.2.2 dX7_meal_100
        · have hf7 : i3.toInt < (1 : Int) ∨ (100 : Int) < i3.toInt := hf7
          refine lv_if_ne (tgt := 44) hx hb dX7_meal_38 (by decide) (fun c27 => absurd c27 (by decide)) (fun c27 => ?_)
          refine lv_bipush (v := (-2)) hx hb dX7_meal_41 (by decide) ?_
          have hP9 := mx_subP (wc := []) hP [] rfl
          have hD9 := hD.sub (ws' := []) [] (by decide) rfl
          exact W.iret (v := (-2)) hx hb hr (fun t ht hW => ⟨⟨(-2), (), rfl, (by first | exact Or.inl (⟨rfl, by omega⟩) | exact Or.inr (Or.inl (⟨rfl, by omega⟩)) | exact Or.inr (Or.inr (⟨rfl, by omega⟩))), by rw [ht]; exact hP9, hD9⟩, hS.F ht⟩) hS.2.2 dX7_meal_43
      · have hf5 : i2.toInt < (0 : Int) ∨ (60 : Int) < i2.toInt := hf5
        refine lv_if_eq (tgt := 41) hx hb dX7_meal_27 (by decide) (fun c28 => ?_) (fun c28 => absurd c28 (by decide))
        refine lv_bipush (v := (-2)) hx hb dX7_meal_41 (by decide) ?_
        have hP9 := mx_subP (wc := []) hP [] rfl
        have hD9 := hD.sub (ws' := []) [] (by decide) rfl
        exact W.iret (v := (-2)) hx hb hr (fun t ht hW => ⟨⟨(-2), (), rfl, (by first | exact Or.inl (⟨rfl, by omega⟩) | exact Or.inr (Or.inl (⟨rfl, by omega⟩)) | exact Or.inr (Or.inr (⟨rfl, by omega⟩))), by rw [ht]; exact hP9, hD9⟩, hS.F ht⟩) hS.2.2 dX7_meal_43
    · have hf3 : i1.toInt < (1 : Int) ∨ (4 : Int) < i1.toInt := hf3
      refine lv_if_eq (tgt := 41) hx hb dX7_meal_17 (by decide) (fun c29 => ?_) (fun c29 => absurd c29 (by decide))
      refine lv_bipush (v := (-2)) hx hb dX7_meal_41 (by decide) ?_
      have hP9 := mx_subP (wc := []) hP [] rfl
      have hD9 := hD.sub (ws' := []) [] (by decide) rfl
      exact W.iret (v := (-2)) hx hb hr (fun t ht hW => ⟨⟨(-2), (), rfl, (by first | exact Or.inl (⟨rfl, by omega⟩) | exact Or.inr (Or.inl (⟨rfl, by omega⟩)) | exact Or.inr (Or.inr (⟨rfl, by omega⟩))), by rw [ht]; exact hP9, hD9⟩, hS.F ht⟩) hS.2.2 dX7_meal_43
  · have hf1 : i0.toInt < (0 : Int) ∨ (5 : Int) < i0.toInt := hf1
    refine lv_if_ne (tgt := 11) hx hb dX7_meal_6 (by decide) (fun c30 => absurd c30 (by decide)) (fun c30 => ?_)
    refine lv_iconst (v := (-1)) hx hb dX7_meal_9 (by decide) ?_
    have hP9 := mx_subP (wc := []) hP [] rfl
    have hD9 := hD.sub (ws' := []) [] (by decide) rfl
    exact W.iret (v := (-1)) hx hb hr (fun t ht hW => ⟨⟨(-1), (), rfl, (by first | exact Or.inl (⟨rfl, by omega⟩) | exact Or.inr (Or.inl (⟨rfl, by omega⟩)) | exact Or.inr (Or.inr (⟨rfl, by omega⟩))), by rw [ht]; exact hP9, hD9⟩, hS.F ht⟩) hS.2.2 dX7_meal_10
set_option maxHeartbeats 4000000 in
set_option maxRecDepth 100000 in
theorem c_X7_toldOfMeal (l : Launch) (dC : Nat → ClassId) (dI : Nat → Nat → Nat) (cI cZ cK : ClassId) (tS aK aV : Nat) (h : Nat) (o : Nat) (f : Nat) (g : Nat) (wk : Nat) (im : Nat) (kt : Nat) (dl : Nat) (j : Nat) (k : Nat) (ks : Nat) (kw : Nat) (kc : Nat) (kq : Nat) (km : Nat) (kd : Nat) (ka : Nat) (kk : Nat) (d : Nat) (i0 : Int32) (i1 : Int32) (sz : Nat) : Ci l yX7_toldOfMeal (wq yX7_toldOfMeal cX7_toldOfMeal 3 (some .int)) ({ frames := 2, cells := 0, slots := 0, locals := 43 }) dC dI cI cZ cK tS aK aV [.ref h, .int i0, .int i1] sz [(h, .inr (7, [.ref k, .ref d, .ref j, .ref o, .ref f, .ref g, .ref wk, .ref im, .ref kt, .ref dl])), (k, .inr (0, [.ref ks, .ref kw, .ref kc, .int (-6), .int 0, .int 0, .ref kq, .ref km, .ref kd, .int 0, .ref ka, .ref kk]))] (fun (r : Int32) (_ : Unit) => r = (-2)) (fun _ => [(h, .inr (7, [.ref k, .ref d, .ref j, .ref o, .ref f, .ref g, .ref wk, .ref im, .ref kt, .ref dl])), (k, .inr (0, [.ref ks, .ref kw, .ref kc, .int (-6), .int 0, .int 0, .ref kq, .ref km, .ref kd, .int 0, .ref ka, .ref kk]))]) := by
  refine Met.ofW (cc := cX7_toldOfMeal) (maxL := 3) (ret := (some .int)) (by decide) rfl ?_
  intro p e s m args below meth c s₁ B hml hv
  obtain ⟨rfl, hsz, hP, hKx, hD0⟩ := hv
  have hx := B.exec
  have hb := B.bytes
  have hr := B.returns
  have hts := atoms_spec (ws := wq yX7_toldOfMeal cX7_toldOfMeal 3 (some .int)) B.pre
  have hown : s.vm.findClass RX7 = some m.cls := findClass_of_methodNamed B.named
  have hlocks := B.notSynchronized
  subst hsz
  have hD := hD0.self (sz := s.heap.size)
  generalize hAe : va_A [(h, .inr (7, [.ref k, .ref d, .ref j, .ref o, .ref f, .ref g, .ref wk, .ref im, .ref kt, .ref dl])), (k, .inr (0, [.ref ks, .ref kw, .ref kc, .int (-6), .int 0, .int 0, .ref kq, .ref km, .ref kd, .int 0, .ref ka, .ref kk]))] s.heap.size = A at hD hKx ⊢
  have hA : ∀ q : Nat, s.heap.size ≤ q → A q := fun q h => by rw [← hAe]; exact Or.inr h
  have hS : va_S A s.heap s.heap [] := va_S.rf
  have hP : va_P (dC, dI) vwCl [(h, .inr (7, [.ref k, .ref d, .ref j, .ref o, .ref f, .ref g, .ref wk, .ref im, .ref kt, .ref dl])), (k, .inr (0, [.ref ks, .ref kw, .ref kc, .int (-6), .int 0, .int 0, .ref kq, .ref km, .ref kd, .int 0, .ref ka, .ref kk]))] s.heap := hP
  have hl := lv_entry ([.ref h, .int i0, .int i1]) (n := 3) (Nat.le_of_ble_eq_true rfl)
  rw [lg_entry_eq]
  generalize (lg_sl ([.ref h, .int i0, .int i1]) ++ List.replicate (3 - (lg_sl ([.ref h, .int i0, .int i1])).length) Slot.unset).toArray = ls at hl ⊢
  have hl : lv_has ls 3 [(0, .ref h), (1, .int i0), (2, .int i1)] := hl
  have hK := hKx.1
  have hin7 := fun w9 h9 => List.mem_cons_of_mem (Cond.code yX7_toldOfMeal cX7_toldOfMeal 3 (some .int)) (inlX7 w9 h9)
  have hw0 := hts (.fieldLink RX7 12 "OneCan" "camp" "LOneCan$Camp;") (List.mem_cons_of_mem _ wm_69)
  refine lv_aload_n hx hb dX7_toldOfMeal_0 rfl (lv_at hl 0 rfl) ?_
  refine va_get (D := (dC, dI)) (ci := 7) (v := .ref k) (C := RX7) (T := TX7) (N := 10) hx hb hts hin7 hown hK hP 0 rfl rfl 0 (by decide) hw0 (fun _ h9 => h9) rfl dX7_toldOfMeal_1 ?_
  refine lv_iload_n hx hb dX7_toldOfMeal_4 rfl (lv_at hl 1 rfl) ?_
  refine mx_i (wr := [(h, .inr (7, [.ref k, .ref d, .ref j, .ref o, .ref f, .ref g, .ref wk, .ref im, .ref kt, .ref dl]))]) (va_runV (As := [.int i0]) (rest := []) ⟨hx, hb, hml, hown, hts⟩ (c_X0_has l dC dI cI cZ cK tS aK aV k ks kw kc kq km kd ka kk i0 s.heap.size) (cwV 1 hts (gw_v (fun _ h9 => List.mem_cons_of_mem _ h9) wm_97 wm_98 wm_99 wm_10 wm_100) rfl rfl rfl (by decide +kernel) ⟨Nat.le_of_ble_eq_true rfl, Nat.le_of_ble_eq_true rfl⟩) (mx_preV (C := RX0) (T := TX0) (N := 12) (ci := 0) hKx hP hD hS hA [1] (by decide) rfl rfl rfl) rfl rfl hl.1 rfl (lv_room (Nat.le_of_ble_eq_true rfl)) dX7_toldOfMeal_5 ⟨Nat.le_of_ble_eq_true rfl, Nat.le_of_ble_eq_true rfl⟩) hP hD hS hA [1] [0] rfl rfl (by decide) (by decide) (fun r1 u1 H locs hq1 hP hD hS => ?_)
  replace hP : va_P (dC, dI) vwCl [(h, .inr (7, [.ref k, .ref d, .ref j, .ref o, .ref f, .ref g, .ref wk, .ref im, .ref kt, .ref dl])), (k, .inr (0, [.ref ks, .ref kw, .ref kc, .int (-6), .int 0, .int 0, .ref kq, .ref km, .ref kd, .int 0, .ref ka, .ref kk]))] H := hP
  replace hD : va_D A [(h, .inr (7, [.ref k, .ref d, .ref j, .ref o, .ref f, .ref g, .ref wk, .ref im, .ref kt, .ref dl])), (k, .inr (0, [.ref ks, .ref kw, .ref kc, .int (-6), .int 0, .int 0, .ref kq, .ref km, .ref kd, .int 0, .ref ka, .ref kk]))] := hD
  obtain rfl : r1 = 0 := hq1
  refine lv_if_ne (tgt := 14) hx hb dX7_toldOfMeal_8 (by decide) (fun c2 => absurd c2 (by decide)) (fun c2 => ?_)
  refine lv_bipush (v := (-2)) hx hb dX7_toldOfMeal_11 (by decide) ?_
  have hP9 := mx_subP (wc := [(h, .inr (7, [.ref k, .ref d, .ref j, .ref o, .ref f, .ref g, .ref wk, .ref im, .ref kt, .ref dl])), (k, .inr (0, [.ref ks, .ref kw, .ref kc, .int (-6), .int 0, .int 0, .ref kq, .ref km, .ref kd, .int 0, .ref ka, .ref kk]))]) hP [0, 1] rfl
  have hD9 := hD.sub (ws' := [(h, .inr (7, [.ref k, .ref d, .ref j, .ref o, .ref f, .ref g, .ref wk, .ref im, .ref kt, .ref dl])), (k, .inr (0, [.ref ks, .ref kw, .ref kc, .int (-6), .int 0, .int 0, .ref kq, .ref km, .ref kd, .int 0, .ref ka, .ref kk]))]) [0, 1] (by decide) rfl
  exact W.iret (v := (-2)) hx hb hr (fun t ht hW => ⟨⟨(-2), (), rfl, rfl, by rw [ht]; exact hP9, hD9⟩, hS.F ht⟩) hS.2.2 dX7_toldOfMeal_13
set_option maxHeartbeats 4000000 in
set_option maxRecDepth 100000 in
theorem c_X7_told (l : Launch) (dC : Nat → ClassId) (dI : Nat → Nat → Nat) (cI cZ cK : ClassId) (tS aK aV : Nat) (h : Nat) (o : Nat) (f : Nat) (g : Nat) (wk : Nat) (im : Nat) (kt : Nat) (dl : Nat) (j : Nat) (k : Nat) (ks : Nat) (kw : Nat) (kc : Nat) (kq : Nat) (km : Nat) (kd : Nat) (ka : Nat) (kk : Nat) (d : Nat) (ds : Nat) (dk : Nat) (dw : Nat) (i0 : Int32) (sz : Nat) : Ci l yX7_told (wq yX7_told cX7_told 3 (some .int)) ({ frames := 3, cells := 0, slots := 0, locals := 65 }) dC dI cI cZ cK tS aK aV [.ref h, .int i0] sz [(h, .inr (7, [.ref k, .ref d, .ref j, .ref o, .ref f, .ref g, .ref wk, .ref im, .ref kt, .ref dl])), (d, .inr (4, [.ref ds, .int 0, .ref dk, .ref dw, .int 0, .int 0])), (k, .inr (0, [.ref ks, .ref kw, .ref kc, .int (-6), .int 0, .int 0, .ref kq, .ref km, .ref kd, .int 0, .ref ka, .ref kk])), (ks, .inl (cI, 5, .inl (upd (fun _ => 0) 0 800))), (kw, .inl (cI, 14, .inl (fun _ => 0))), (kc, .inl (cZ, 14, .inl (fun _ => 0)))] (fun (r : Int32) (_ : Unit) => (r = 800 ∧ (i0.toInt = 1)) ∨ (r = 100 ∧ (i0.toInt = 8)) ∨ (r = 0 ∧ (i0.toInt = 0 ∨ (2 ≤ i0.toInt ∧ i0.toInt ≤ 7) ∨ (20 ≤ i0.toInt ∧ i0.toInt ≤ 33))) ∨ (r = (-2) ∧ (i0.toInt < 0 ∨ (9 ≤ i0.toInt ∧ i0.toInt ≤ 19) ∨ 34 ≤ i0.toInt))) (fun _ => []) := by
  refine Met.ofW (cc := cX7_told) (maxL := 3) (ret := (some .int)) (by decide) rfl ?_
  intro p e s m args below meth c s₁ B hml hv
  obtain ⟨rfl, hsz, hP, hKx, hD0⟩ := hv
  have hx := B.exec
  have hb := B.bytes
  have hr := B.returns
  have hts := atoms_spec (ws := wq yX7_told cX7_told 3 (some .int)) B.pre
  have hown : s.vm.findClass RX7 = some m.cls := findClass_of_methodNamed B.named
  have hlocks := B.notSynchronized
  subst hsz
  have hD := hD0.self (sz := s.heap.size)
  generalize hAe : va_A [(h, .inr (7, [.ref k, .ref d, .ref j, .ref o, .ref f, .ref g, .ref wk, .ref im, .ref kt, .ref dl])), (d, .inr (4, [.ref ds, .int 0, .ref dk, .ref dw, .int 0, .int 0])), (k, .inr (0, [.ref ks, .ref kw, .ref kc, .int (-6), .int 0, .int 0, .ref kq, .ref km, .ref kd, .int 0, .ref ka, .ref kk])), (ks, .inl (cI, 5, .inl (upd (fun _ => 0) 0 800))), (kw, .inl (cI, 14, .inl (fun _ => 0))), (kc, .inl (cZ, 14, .inl (fun _ => 0)))] s.heap.size = A at hD hKx ⊢
  have hA : ∀ q : Nat, s.heap.size ≤ q → A q := fun q h => by rw [← hAe]; exact Or.inr h
  have hS : va_S A s.heap s.heap [] := va_S.rf
  have hP : va_P (dC, dI) vwCl [(h, .inr (7, [.ref k, .ref d, .ref j, .ref o, .ref f, .ref g, .ref wk, .ref im, .ref kt, .ref dl])), (d, .inr (4, [.ref ds, .int 0, .ref dk, .ref dw, .int 0, .int 0])), (k, .inr (0, [.ref ks, .ref kw, .ref kc, .int (-6), .int 0, .int 0, .ref kq, .ref km, .ref kd, .int 0, .ref ka, .ref kk])), (ks, .inl (cI, 5, .inl (upd (fun _ => 0) 0 800))), (kw, .inl (cI, 14, .inl (fun _ => 0))), (kc, .inl (cZ, 14, .inl (fun _ => 0)))] s.heap := hP
  have hl := lv_entry ([.ref h, .int i0]) (n := 3) (Nat.le_of_ble_eq_true rfl)
  rw [lg_entry_eq]
  generalize (lg_sl ([.ref h, .int i0]) ++ List.replicate (3 - (lg_sl ([.ref h, .int i0])).length) Slot.unset).toArray = ls at hl ⊢
  have hl : lv_has ls 3 [(0, .ref h), (1, .int i0)] := hl
  have hK := hKx.1
  have hin7 := fun w9 h9 => List.mem_cons_of_mem (Cond.code yX7_told cX7_told 3 (some .int)) (inlX7 w9 h9)
  have hin0 := fun w9 h9 => List.mem_cons_of_mem (Cond.code yX7_told cX7_told 3 (some .int)) (inlX0 w9 h9)
  have hin4 := fun w9 h9 => List.mem_cons_of_mem (Cond.code yX7_told cX7_told 3 (some .int)) (inlX4 w9 h9)
  have hw0 := hts (.fieldLink RX7 12 "OneCan" "camp" "LOneCan$Camp;") (List.mem_cons_of_mem _ wm_69)
  have hw1 := hts (.fieldLink RX7 83 "OneCan$Camp" "settings" "[I") (List.mem_cons_of_mem _ wm_70)
  have hw2 := hts (.fieldLink RX7 90 "OneCan$Camp" "winds" "[I") (List.mem_cons_of_mem _ wm_104)
  have hw3 := hts (.fieldLink RX7 93 "OneCan$Camp" "colds" "[Z") (List.mem_cons_of_mem _ wm_105)
  have hw4 := hts (.fieldLink RX7 19 "OneCan" "pad" "LOneCan$Pad;") (List.mem_cons_of_mem _ wm_54)
  have hw5 := hts (.fieldLink RX7 115 "OneCan$Pad" "size" "I") (List.mem_cons_of_mem _ wm_68)
  have hw6 := hts (.fieldLink RX7 96 "OneCan$Camp" "meals" "I") (List.mem_cons_of_mem _ wm_110)
  have hw7 := hts (.fieldLink RX7 206 "OneCan$Camp" "sights" "I") (List.mem_cons_of_mem _ wm_71)
  refine lv_iload_n hx hb dX7_told_0 rfl (lv_at hl 1 rfl) ?_
  refine lv_iconst (v := 1) hx hb dX7_told_1 (by decide) ?_
  refine lv_iconst (v := 5) hx hb dX7_told_2 (by decide) ?_
  refine mx_i (wr := [(h, .inr (7, [.ref k, .ref d, .ref j, .ref o, .ref f, .ref g, .ref wk, .ref im, .ref kt, .ref dl])), (d, .inr (4, [.ref ds, .int 0, .ref dk, .ref dw, .int 0, .int 0])), (k, .inr (0, [.ref ks, .ref kw, .ref kc, .int (-6), .int 0, .int 0, .ref kq, .ref km, .ref kd, .int 0, .ref ka, .ref kk])), (ks, .inl (cI, 5, .inl (upd (fun _ => 0) 0 800))), (kw, .inl (cI, 14, .inl (fun _ => 0))), (kc, .inl (cZ, 14, .inl (fun _ => 0)))]) (va_runS (As := [.int i0, .int 1, .int 5]) (rest := []) ⟨hx, hb, hml, hown, hts⟩ (c_X7_isIn l dC dI cI cZ cK tS aK aV i0 1 5 s.heap.size) (va_cwS 3 hts (gw_s (fun _ h9 => List.mem_cons_of_mem _ h9) wm_0 wm_1 wm_2 wm_3) rfl rfl rfl (by decide +kernel) ⟨Nat.le_of_ble_eq_true rfl, Nat.le_of_ble_eq_true rfl⟩) (mx_preS hKx hP hD hS hA [] (by decide) rfl) rfl rfl hl.1 rfl (lv_room (Nat.le_of_ble_eq_true rfl)) dX7_told_3 ⟨Nat.le_of_ble_eq_true rfl, Nat.le_of_ble_eq_true rfl⟩) hP hD hS hA [] [0, 1, 2, 3, 4, 5] rfl rfl (by decide) (by decide) (fun r1 u1 H locs hq1 hP hD hS => ?_)
  replace hP : va_P (dC, dI) vwCl [(h, .inr (7, [.ref k, .ref d, .ref j, .ref o, .ref f, .ref g, .ref wk, .ref im, .ref kt, .ref dl])), (d, .inr (4, [.ref ds, .int 0, .ref dk, .ref dw, .int 0, .int 0])), (k, .inr (0, [.ref ks, .ref kw, .ref kc, .int (-6), .int 0, .int 0, .ref kq, .ref km, .ref kd, .int 0, .ref ka, .ref kk])), (ks, .inl (cI, 5, .inl (upd (fun _ => 0) 0 800))), (kw, .inl (cI, 14, .inl (fun _ => 0))), (kc, .inl (cZ, 14, .inl (fun _ => 0)))] H := hP
  replace hD : va_D A [(h, .inr (7, [.ref k, .ref d, .ref j, .ref o, .ref f, .ref g, .ref wk, .ref im, .ref kt, .ref dl])), (d, .inr (4, [.ref ds, .int 0, .ref dk, .ref dw, .int 0, .int 0])), (k, .inr (0, [.ref ks, .ref kw, .ref kc, .int (-6), .int 0, .int 0, .ref kq, .ref km, .ref kd, .int 0, .ref ka, .ref kk])), (ks, .inl (cI, 5, .inl (upd (fun _ => 0) 0 800))), (kw, .inl (cI, 14, .inl (fun _ => 0))), (kc, .inl (cZ, 14, .inl (fun _ => 0)))] := hD
  rcases hq1 with ⟨rfl, hf1⟩ | ⟨rfl, hf1⟩
  · have hf1 : (1 : Int) ≤ i0.toInt ∧ i0.toInt ≤ (5 : Int) := hf1
    refine lv_if_eq (tgt := 21) hx hb dX7_told_6 (by decide) (fun c2 => absurd c2 (by decide)) (fun c2 => ?_)
    rcases (show i0 = 1 ∨ i0 = 2 ∨ i0 = 3 ∨ i0 = 4 ∨ i0 = 5 from by rcases (show i0.toInt = 1 ∨ i0.toInt = 2 ∨ i0.toInt = 3 ∨ i0.toInt = 4 ∨ i0.toInt = 5 by omega) with h9 | h9 | h9 | h9 | h9 <;> first | exact Or.inl (ceq h9) | exact Or.inr (Or.inl (ceq h9)) | exact Or.inr (Or.inr (Or.inl (ceq h9))) | exact Or.inr (Or.inr (Or.inr (Or.inl (ceq h9)))) | exact Or.inr (Or.inr (Or.inr (Or.inr (ceq h9))))) with rfl | rfl | rfl | rfl | rfl
    · have z9 : (1 : Int32).toInt = 1 := rfl
      refine lv_aload_n hx hb dX7_told_9 rfl (lv_at hl 0 rfl) ?_
      refine va_get (D := (dC, dI)) (ci := 7) (v := .ref k) (C := RX7) (T := TX7) (N := 10) hx hb hts hin7 hown hK hP 0 rfl rfl 0 (by decide) hw0 (fun _ h9 => h9) rfl dX7_told_10 ?_
      refine va_get (D := (dC, dI)) (ci := 0) (v := .ref ks) (C := RX0) (T := TX0) (N := 12) hx hb hts hin0 hown hK hP 2 rfl rfl 0 (by decide) hw1 (fun _ h9 => h9) rfl dX7_told_13 ?_
      refine lv_iload_n hx hb dX7_told_16 rfl (lv_at hl 1 rfl) ?_
      refine lv_iconst (v := 1) hx hb dX7_told_17 (by decide) ?_
      refine lv_isub hx hb dX7_told_18 ?_
      refine lv_topi (fun x3 e3 => ?_)
      obtain rfl : x3 = 0 := e3.trans (by decide)
      refine va_iald hx hb hK hP 3 0 rfl rfl (vin (by decide) (by decide)) dX7_told_19 ?_
      refine lv_topi (fun x4 e4 => ?_)
      obtain rfl : x4 = 800 := e4.trans (by first | rfl | decide)
      have hP9 := mx_subP (wc := []) hP [] rfl
      have hD9 := hD.sub (ws' := []) [] (by decide) rfl
      exact W.iret (v := 800) hx hb hr (fun t ht hW => ⟨⟨800, (), rfl, (by first | exact Or.inl (⟨rfl, by omega⟩) | exact Or.inr (Or.inl (⟨rfl, by omega⟩)) | exact Or.inr (Or.inr (Or.inl (⟨rfl, by omega⟩))) | exact Or.inr (Or.inr (Or.inr (⟨rfl, by omega⟩)))), by rw [ht]; exact hP9, hD9⟩, hS.F ht⟩) hS.2.2 dX7_told_20
    · have z9 : (2 : Int32).toInt = 2 := rfl
      refine lv_aload_n hx hb dX7_told_9 rfl (lv_at hl 0 rfl) ?_
      refine va_get (D := (dC, dI)) (ci := 7) (v := .ref k) (C := RX7) (T := TX7) (N := 10) hx hb hts hin7 hown hK hP 0 rfl rfl 0 (by decide) hw0 (fun _ h9 => h9) rfl dX7_told_10 ?_
      refine va_get (D := (dC, dI)) (ci := 0) (v := .ref ks) (C := RX0) (T := TX0) (N := 12) hx hb hts hin0 hown hK hP 2 rfl rfl 0 (by decide) hw1 (fun _ h9 => h9) rfl dX7_told_13 ?_
      refine lv_iload_n hx hb dX7_told_16 rfl (lv_at hl 1 rfl) ?_
      refine lv_iconst (v := 1) hx hb dX7_told_17 (by decide) ?_
      refine lv_isub hx hb dX7_told_18 ?_
      refine lv_topi (fun x5 e5 => ?_)
      obtain rfl : x5 = 1 := e5.trans (by decide)
      refine va_iald hx hb hK hP 3 0 rfl rfl (vin (by decide) (by decide)) dX7_told_19 ?_
      refine lv_topi (fun x6 e6 => ?_)
      obtain rfl : x6 = 0 := e6.trans (by first | rfl | decide)
      have hP9 := mx_subP (wc := []) hP [] rfl
      have hD9 := hD.sub (ws' := []) [] (by decide) rfl
      exact W.iret (v := 0) hx hb hr (fun t ht hW => ⟨⟨0, (), rfl, (by first | exact Or.inl (⟨rfl, by omega⟩) | exact Or.inr (Or.inl (⟨rfl, by omega⟩)) | exact Or.inr (Or.inr (Or.inl (⟨rfl, by omega⟩))) | exact Or.inr (Or.inr (Or.inr (⟨rfl, by omega⟩)))), by rw [ht]; exact hP9, hD9⟩, hS.F ht⟩) hS.2.2 dX7_told_20
    · have z9 : (3 : Int32).toInt = 3 := rfl
      refine lv_aload_n hx hb dX7_told_9 rfl (lv_at hl 0 rfl) ?_
      refine va_get (D := (dC, dI)) (ci := 7) (v := .ref k) (C := RX7) (T := TX7) (N := 10) hx hb hts hin7 hown hK hP 0 rfl rfl 0 (by decide) hw0 (fun _ h9 => h9) rfl dX7_told_10 ?_
      refine va_get (D := (dC, dI)) (ci := 0) (v := .ref ks) (C := RX0) (T := TX0) (N := 12) hx hb hts hin0 hown hK hP 2 rfl rfl 0 (by decide) hw1 (fun _ h9 => h9) rfl dX7_told_13 ?_
      refine lv_iload_n hx hb dX7_told_16 rfl (lv_at hl 1 rfl) ?_
      refine lv_iconst (v := 1) hx hb dX7_told_17 (by decide) ?_
      refine lv_isub hx hb dX7_told_18 ?_
      refine lv_topi (fun x7 e7 => ?_)
      obtain rfl : x7 = 2 := e7.trans (by decide)
      refine va_iald hx hb hK hP 3 0 rfl rfl (vin (by decide) (by decide)) dX7_told_19 ?_
      refine lv_topi (fun x8 e8 => ?_)
      obtain rfl : x8 = 0 := e8.trans (by first | rfl | decide)
      have hP9 := mx_subP (wc := []) hP [] rfl
      have hD9 := hD.sub (ws' := []) [] (by decide) rfl
      exact W.iret (v := 0) hx hb hr (fun t ht hW => ⟨⟨0, (), rfl, (by first | exact Or.inl (⟨rfl, by omega⟩) | exact Or.inr (Or.inl (⟨rfl, by omega⟩)) | exact Or.inr (Or.inr (Or.inl (⟨rfl, by omega⟩))) | exact Or.inr (Or.inr (Or.inr (⟨rfl, by omega⟩)))), by rw [ht]; exact hP9, hD9⟩, hS.F ht⟩) hS.2.2 dX7_told_20
    · have z9 : (4 : Int32).toInt = 4 := rfl
      refine lv_aload_n hx hb dX7_told_9 rfl (lv_at hl 0 rfl) ?_
      refine va_get (D := (dC, dI)) (ci := 7) (v := .ref k) (C := RX7) (T := TX7) (N := 10) hx hb hts hin7 hown hK hP 0 rfl rfl 0 (by decide) hw0 (fun _ h9 => h9) rfl dX7_told_10 ?_
      refine va_get (D := (dC, dI)) (ci := 0) (v := .ref ks) (C := RX0) (T := TX0) (N := 12) hx hb hts hin0 hown hK hP 2 rfl rfl 0 (by decide) hw1 (fun _ h9 => h9) rfl dX7_told_13 ?_
      refine lv_iload_n hx hb dX7_told_16 rfl (lv_at hl 1 rfl) ?_
      refine lv_iconst (v := 1) hx hb dX7_told_17 (by decide) ?_
      refine lv_isub hx hb dX7_told_18 ?_
      refine lv_topi (fun x9 e9 => ?_)
      obtain rfl : x9 = 3 := e9.trans (by decide)
      refine va_iald hx hb hK hP 3 0 rfl rfl (vin (by decide) (by decide)) dX7_told_19 ?_
      refine lv_topi (fun x10 e10 => ?_)
      obtain rfl : x10 = 0 := e10.trans (by first | rfl | decide)
      have hP9 := mx_subP (wc := []) hP [] rfl
      have hD9 := hD.sub (ws' := []) [] (by decide) rfl
      exact W.iret (v := 0) hx hb hr (fun t ht hW => ⟨⟨0, (), rfl, (by first | exact Or.inl (⟨rfl, by omega⟩) | exact Or.inr (Or.inl (⟨rfl, by omega⟩)) | exact Or.inr (Or.inr (Or.inl (⟨rfl, by omega⟩))) | exact Or.inr (Or.inr (Or.inr (⟨rfl, by omega⟩)))), by rw [ht]; exact hP9, hD9⟩, hS.F ht⟩) hS.2.2 dX7_told_20
    · have z9 : (5 : Int32).toInt = 5 := rfl
      refine lv_aload_n hx hb dX7_told_9 rfl (lv_at hl 0 rfl) ?_
      refine va_get (D := (dC, dI)) (ci := 7) (v := .ref k) (C := RX7) (T := TX7) (N := 10) hx hb hts hin7 hown hK hP 0 rfl rfl 0 (by decide) hw0 (fun _ h9 => h9) rfl dX7_told_10 ?_
      refine va_get (D := (dC, dI)) (ci := 0) (v := .ref ks) (C := RX0) (T := TX0) (N := 12) hx hb hts hin0 hown hK hP 2 rfl rfl 0 (by decide) hw1 (fun _ h9 => h9) rfl dX7_told_13 ?_
      refine lv_iload_n hx hb dX7_told_16 rfl (lv_at hl 1 rfl) ?_
      refine lv_iconst (v := 1) hx hb dX7_told_17 (by decide) ?_
      refine lv_isub hx hb dX7_told_18 ?_
      refine lv_topi (fun x11 e11 => ?_)
      obtain rfl : x11 = 4 := e11.trans (by decide)
      refine va_iald hx hb hK hP 3 0 rfl rfl (vin (by decide) (by decide)) dX7_told_19 ?_
      refine lv_topi (fun x12 e12 => ?_)
      obtain rfl : x12 = 0 := e12.trans (by first | rfl | decide)
      have hP9 := mx_subP (wc := []) hP [] rfl
      have hD9 := hD.sub (ws' := []) [] (by decide) rfl
      exact W.iret (v := 0) hx hb hr (fun t ht hW => ⟨⟨0, (), rfl, (by first | exact Or.inl (⟨rfl, by omega⟩) | exact Or.inr (Or.inl (⟨rfl, by omega⟩)) | exact Or.inr (Or.inr (Or.inl (⟨rfl, by omega⟩))) | exact Or.inr (Or.inr (Or.inr (⟨rfl, by omega⟩)))), by rw [ht]; exact hP9, hD9⟩, hS.F ht⟩) hS.2.2 dX7_told_20
  · have hf1 : i0.toInt < (1 : Int) ∨ (5 : Int) < i0.toInt := hf1
    refine lv_if_eq (tgt := 21) hx hb dX7_told_6 (by decide) (fun c13 => ?_) (fun c13 => absurd c13 (by decide))
    refine lv_iload_n hx hb dX7_told_21 rfl (lv_at hl 1 rfl) ?_
    refine lv_bipush (v := 20) hx hb dX7_told_22 (by decide) ?_
    refine lv_bipush (v := 33) hx hb dX7_told_24 (by decide) ?_
    refine mx_i (wr := [(h, .inr (7, [.ref k, .ref d, .ref j, .ref o, .ref f, .ref g, .ref wk, .ref im, .ref kt, .ref dl])), (d, .inr (4, [.ref ds, .int 0, .ref dk, .ref dw, .int 0, .int 0])), (k, .inr (0, [.ref ks, .ref kw, .ref kc, .int (-6), .int 0, .int 0, .ref kq, .ref km, .ref kd, .int 0, .ref ka, .ref kk])), (ks, .inl (cI, 5, .inl (upd (fun _ => 0) 0 800))), (kw, .inl (cI, 14, .inl (fun _ => 0))), (kc, .inl (cZ, 14, .inl (fun _ => 0)))]) (va_runS (As := [.int i0, .int 20, .int 33]) (rest := []) ⟨hx, hb, hml, hown, hts⟩ (c_X7_isIn l dC dI cI cZ cK tS aK aV i0 20 33 H.size) (va_cwS 3 hts (gw_s (fun _ h9 => List.mem_cons_of_mem _ h9) wm_0 wm_1 wm_2 wm_3) rfl rfl rfl (by decide +kernel) ⟨Nat.le_of_ble_eq_true rfl, Nat.le_of_ble_eq_true rfl⟩) (mx_preS hKx hP hD hS hA [] (by decide) rfl) rfl rfl hl.1 rfl (lv_room (Nat.le_of_ble_eq_true rfl)) dX7_told_26 ⟨Nat.le_of_ble_eq_true rfl, Nat.le_of_ble_eq_true rfl⟩) hP hD hS hA [] [0, 1, 2, 3, 4, 5] rfl rfl (by decide) (by decide) (fun r14 u14 H locs hq14 hP hD hS => ?_)
    replace hP : va_P (dC, dI) vwCl [(h, .inr (7, [.ref k, .ref d, .ref j, .ref o, .ref f, .ref g, .ref wk, .ref im, .ref kt, .ref dl])), (d, .inr (4, [.ref ds, .int 0, .ref dk, .ref dw, .int 0, .int 0])), (k, .inr (0, [.ref ks, .ref kw, .ref kc, .int (-6), .int 0, .int 0, .ref kq, .ref km, .ref kd, .int 0, .ref ka, .ref kk])), (ks, .inl (cI, 5, .inl (upd (fun _ => 0) 0 800))), (kw, .inl (cI, 14, .inl (fun _ => 0))), (kc, .inl (cZ, 14, .inl (fun _ => 0)))] H := hP
    replace hD : va_D A [(h, .inr (7, [.ref k, .ref d, .ref j, .ref o, .ref f, .ref g, .ref wk, .ref im, .ref kt, .ref dl])), (d, .inr (4, [.ref ds, .int 0, .ref dk, .ref dw, .int 0, .int 0])), (k, .inr (0, [.ref ks, .ref kw, .ref kc, .int (-6), .int 0, .int 0, .ref kq, .ref km, .ref kd, .int 0, .ref ka, .ref kk])), (ks, .inl (cI, 5, .inl (upd (fun _ => 0) 0 800))), (kw, .inl (cI, 14, .inl (fun _ => 0))), (kc, .inl (cZ, 14, .inl (fun _ => 0)))] := hD
    rcases hq14 with ⟨rfl, hf14⟩ | ⟨rfl, hf14⟩
    · have hf14 : (20 : Int) ≤ i0.toInt ∧ i0.toInt ≤ (33 : Int) := hf14
      refine lv_if_eq (tgt := 66) hx hb dX7_told_29 (by decide) (fun c15 => absurd c15 (by decide)) (fun c15 => ?_)
      refine lv_iload_n hx hb dX7_told_32 rfl (lv_at hl 1 rfl) ?_
      refine lv_bipush (v := 20) hx hb dX7_told_33 (by decide) ?_
      refine lv_isub hx hb dX7_told_35 ?_
      refine lv_topi (fun x16 e16 => ?_)
      have f16 : x16.toInt = i0.toInt - (20 : Int) := by rw [e16]; exact tsub (by have z8 : (20 : Int32).toInt = 20 := rfl; omega) (by have z8 : (20 : Int32).toInt = 20 := rfl; omega)
      refine lv_istore_n (lv' := [(2, .int x16), (0, .ref h), (1, .int i0)]) hx hb dX7_told_36 rfl hl (by decide) rfl (fun ls hl => ?_)
      refine lv_aload_n hx hb dX7_told_37 rfl (lv_at hl 1 rfl) ?_
      refine va_get (D := (dC, dI)) (ci := 7) (v := .ref k) (C := RX7) (T := TX7) (N := 10) hx hb hts hin7 hown hK hP 0 rfl rfl 0 (by decide) hw0 (fun _ h9 => h9) rfl dX7_told_38 ?_
      refine va_get (D := (dC, dI)) (ci := 0) (v := .ref kw) (C := RX0) (T := TX0) (N := 12) hx hb hts hin0 hown hK hP 2 rfl rfl 1 (by decide) hw2 (fun _ h9 => h9) rfl dX7_told_41 ?_
      refine lv_iload_n hx hb dX7_told_44 rfl (lv_at hl 0 rfl) ?_
      refine va_iald hx hb hK hP 4 0 rfl rfl (vin (by omega) (by omega)) dX7_told_45 ?_
      refine lv_topi (fun x17 e17 => ?_)
      obtain rfl : x17 = 0 := e17.trans rfl
      refine lv_aload_n hx hb dX7_told_46 rfl (lv_at hl 1 rfl) ?_
      refine va_get (D := (dC, dI)) (ci := 7) (v := .ref k) (C := RX7) (T := TX7) (N := 10) hx hb hts hin7 hown hK hP 0 rfl rfl 0 (by decide) hw0 (fun _ h9 => h9) rfl dX7_told_47 ?_
      refine va_get (D := (dC, dI)) (ci := 0) (v := .ref kc) (C := RX0) (T := TX0) (N := 12) hx hb hts hin0 hown hK hP 2 rfl rfl 2 (by decide) hw3 (fun _ h9 => h9) rfl dX7_told_50 ?_
      refine lv_iload_n hx hb dX7_told_53 rfl (lv_at hl 0 rfl) ?_
      refine va_zald hx hb hK hP 5 1 rfl rfl (vin (by omega) (by omega)) dX7_told_54 ?_
      refine lv_topi (fun x18 e18 => ?_)
      obtain rfl : x18 = 0 := e18.trans rfl
      refine lv_if_eq (tgt := 63) hx hb dX7_told_55 (by decide) (fun c19 => ?_) (fun c19 => absurd c19 (by decide))
      refine lv_iconst (v := 0) hx hb dX7_told_63 (by decide) ?_
      refine lv_iadd hx hb dX7_told_64 ?_
      refine lv_topi (fun x20 e20 => ?_)
      obtain rfl : x20 = 0 := e20.trans (by decide)
      have hP9 := mx_subP (wc := []) hP [] rfl
      have hD9 := hD.sub (ws' := []) [] (by decide) rfl
      exact W.iret (v := 0) hx hb hr (fun t ht hW => ⟨⟨0, (), rfl, (by first | exact Or.inl (⟨rfl, by omega⟩) | exact Or.inr (Or.inl (⟨rfl, by omega⟩)) | exact Or.inr (Or.inr (Or.inl (⟨rfl, by omega⟩))) | exact Or.inr (Or.inr (Or.inr (⟨rfl, by omega⟩)))), by rw [ht]; exact hP9, hD9⟩, hS.F ht⟩) hS.2.2 dX7_told_65
    · have hf14 : i0.toInt < (20 : Int) ∨ (33 : Int) < i0.toInt := hf14
      refine lv_if_eq (tgt := 66) hx hb dX7_told_29 (by decide) (fun c21 => ?_) (fun c21 => absurd c21 (by decide))
      refine lv_iload_n hx hb dX7_told_66 rfl (lv_at hl 1 rfl) ?_
      refine lv_bipush (v := 100) hx hb dX7_told_67 (by decide) ?_
      refine lv_icmp_lt (tgt := 87) hx hb dX7_told_69 (by decide) (fun c22 => ?_) (fun c22 => ?_)
      · have t22 : i0.toInt < (100 : Int) := (tlt c22)
        refine lv_iload_n hx hb dX7_told_87 rfl (lv_at hl 1 rfl) ?_
        rcases (show (i0.toInt < 0 ∨ 8 < i0.toInt) ∨ i0.toInt = 0 ∨ i0.toInt = 1 ∨ i0.toInt = 2 ∨ i0.toInt = 3 ∨ i0.toInt = 4 ∨ i0.toInt = 5 ∨ i0.toInt = 6 ∨ i0.toInt = 7 ∨ i0.toInt = 8 by omega) with h23 | h23 | h23 | h23 | h23 | h23 | h23 | h23 | h23 | h23
        · refine lv_tableOut (tgt := 172) hx hb dX7_told_88 h23 (by decide) ?_
          refine lv_bipush (v := (-2)) hx hb dX7_told_172 (by decide) ?_
          have hP9 := mx_subP (wc := []) hP [] rfl
          have hD9 := hD.sub (ws' := []) [] (by decide) rfl
          exact W.iret (v := (-2)) hx hb hr (fun t ht hW => ⟨⟨(-2), (), rfl, (by first | exact Or.inl (⟨rfl, by omega⟩) | exact Or.inr (Or.inl (⟨rfl, by omega⟩)) | exact Or.inr (Or.inr (Or.inl (⟨rfl, by omega⟩))) | exact Or.inr (Or.inr (Or.inr (⟨rfl, by omega⟩)))), by rw [ht]; exact hP9, hD9⟩, hS.F ht⟩) hS.2.2 dX7_told_174
        · refine lv_tableIn (tgt := 140) (off := 52) hx hb dX7_told_88 (by omega) (by omega) (by rw [h23]; decide) (by decide) ?_
          refine lv_aload_n hx hb dX7_told_140 rfl (lv_at hl 0 rfl) ?_
          refine va_get (D := (dC, dI)) (ci := 7) (v := .ref d) (C := RX7) (T := TX7) (N := 10) hx hb hts hin7 hown hK hP 0 rfl rfl 1 (by decide) hw4 (fun _ h9 => h9) rfl dX7_told_141 ?_
          refine va_get (D := (dC, dI)) (ci := 4) (v := .int 0) (C := RX4) (T := TX4) (N := 6) hx hb hts hin4 hown hK hP 1 rfl rfl 1 (by decide) hw5 (fun _ h9 => h9) rfl dX7_told_144 ?_
          have hP9 := mx_subP (wc := []) hP [] rfl
          have hD9 := hD.sub (ws' := []) [] (by decide) rfl
          exact W.iret (v := 0) hx hb hr (fun t ht hW => ⟨⟨0, (), rfl, (by first | exact Or.inl (⟨rfl, by omega⟩) | exact Or.inr (Or.inl (⟨rfl, by omega⟩)) | exact Or.inr (Or.inr (Or.inl (⟨rfl, by omega⟩))) | exact Or.inr (Or.inr (Or.inr (⟨rfl, by omega⟩)))), by rw [ht]; exact hP9, hD9⟩, hS.F ht⟩) hS.2.2 dX7_told_147
        · refine lv_tableIn (tgt := 172) (off := 84) hx hb dX7_told_88 (by omega) (by omega) (by rw [h23]; decide) (by decide) ?_
          refine lv_bipush (v := (-2)) hx hb dX7_told_172 (by decide) ?_
          have hP9 := mx_subP (wc := []) hP [] rfl
          have hD9 := hD.sub (ws' := []) [] (by decide) rfl
          exact W.iret (v := (-2)) hx hb hr (fun t ht hW => ⟨⟨(-2), (), rfl, (by first | exact Or.inl (⟨rfl, by omega⟩) | exact Or.inr (Or.inl (⟨rfl, by omega⟩)) | exact Or.inr (Or.inr (Or.inl (⟨rfl, by omega⟩))) | exact Or.inr (Or.inr (Or.inr (⟨rfl, by omega⟩)))), by rw [ht]; exact hP9, hD9⟩, hS.F ht⟩) hS.2.2 dX7_told_174
        · refine lv_tableIn (tgt := 172) (off := 84) hx hb dX7_told_88 (by omega) (by omega) (by rw [h23]; decide) (by decide) ?_
          refine lv_bipush (v := (-2)) hx hb dX7_told_172 (by decide) ?_
          have hP9 := mx_subP (wc := []) hP [] rfl
          have hD9 := hD.sub (ws' := []) [] (by decide) rfl
          exact W.iret (v := (-2)) hx hb hr (fun t ht hW => ⟨⟨(-2), (), rfl, (by first | exact Or.inl (⟨rfl, by omega⟩) | exact Or.inr (Or.inl (⟨rfl, by omega⟩)) | exact Or.inr (Or.inr (Or.inl (⟨rfl, by omega⟩))) | exact Or.inr (Or.inr (Or.inr (⟨rfl, by omega⟩)))), by rw [ht]; exact hP9, hD9⟩, hS.F ht⟩) hS.2.2 dX7_told_174
        · refine lv_tableIn (tgt := 172) (off := 84) hx hb dX7_told_88 (by omega) (by omega) (by rw [h23]; decide) (by decide) ?_
          refine lv_bipush (v := (-2)) hx hb dX7_told_172 (by decide) ?_
          have hP9 := mx_subP (wc := []) hP [] rfl
          have hD9 := hD.sub (ws' := []) [] (by decide) rfl
          exact W.iret (v := (-2)) hx hb hr (fun t ht hW => ⟨⟨(-2), (), rfl, (by first | exact Or.inl (⟨rfl, by omega⟩) | exact Or.inr (Or.inl (⟨rfl, by omega⟩)) | exact Or.inr (Or.inr (Or.inl (⟨rfl, by omega⟩))) | exact Or.inr (Or.inr (Or.inr (⟨rfl, by omega⟩)))), by rw [ht]; exact hP9, hD9⟩, hS.F ht⟩) hS.2.2 dX7_told_174
        · refine lv_tableIn (tgt := 172) (off := 84) hx hb dX7_told_88 (by omega) (by omega) (by rw [h23]; decide) (by decide) ?_
          refine lv_bipush (v := (-2)) hx hb dX7_told_172 (by decide) ?_
          have hP9 := mx_subP (wc := []) hP [] rfl
          have hD9 := hD.sub (ws' := []) [] (by decide) rfl
          exact W.iret (v := (-2)) hx hb hr (fun t ht hW => ⟨⟨(-2), (), rfl, (by first | exact Or.inl (⟨rfl, by omega⟩) | exact Or.inr (Or.inl (⟨rfl, by omega⟩)) | exact Or.inr (Or.inr (Or.inl (⟨rfl, by omega⟩))) | exact Or.inr (Or.inr (Or.inr (⟨rfl, by omega⟩)))), by rw [ht]; exact hP9, hD9⟩, hS.F ht⟩) hS.2.2 dX7_told_174
        · refine lv_tableIn (tgt := 172) (off := 84) hx hb dX7_told_88 (by omega) (by omega) (by rw [h23]; decide) (by decide) ?_
          refine lv_bipush (v := (-2)) hx hb dX7_told_172 (by decide) ?_
          have hP9 := mx_subP (wc := []) hP [] rfl
          have hD9 := hD.sub (ws' := []) [] (by decide) rfl
          exact W.iret (v := (-2)) hx hb hr (fun t ht hW => ⟨⟨(-2), (), rfl, (by first | exact Or.inl (⟨rfl, by omega⟩) | exact Or.inr (Or.inl (⟨rfl, by omega⟩)) | exact Or.inr (Or.inr (Or.inl (⟨rfl, by omega⟩))) | exact Or.inr (Or.inr (Or.inr (⟨rfl, by omega⟩)))), by rw [ht]; exact hP9, hD9⟩, hS.F ht⟩) hS.2.2 dX7_told_174
        · refine lv_tableIn (tgt := 148) (off := 60) hx hb dX7_told_88 (by omega) (by omega) (by rw [h23]; decide) (by decide) ?_
          refine lv_aload_n hx hb dX7_told_148 rfl (lv_at hl 0 rfl) ?_
          refine va_get (D := (dC, dI)) (ci := 7) (v := .ref k) (C := RX7) (T := TX7) (N := 10) hx hb hts hin7 hown hK hP 0 rfl rfl 0 (by decide) hw0 (fun _ h9 => h9) rfl dX7_told_149 ?_
          refine va_get (D := (dC, dI)) (ci := 0) (v := .int 0) (C := RX0) (T := TX0) (N := 12) hx hb hts hin0 hown hK hP 2 rfl rfl 5 (by decide) hw6 (fun _ h9 => h9) rfl dX7_told_152 ?_
          have hP9 := mx_subP (wc := []) hP [] rfl
          have hD9 := hD.sub (ws' := []) [] (by decide) rfl
          exact W.iret (v := 0) hx hb hr (fun t ht hW => ⟨⟨0, (), rfl, (by first | exact Or.inl (⟨rfl, by omega⟩) | exact Or.inr (Or.inl (⟨rfl, by omega⟩)) | exact Or.inr (Or.inr (Or.inl (⟨rfl, by omega⟩))) | exact Or.inr (Or.inr (Or.inr (⟨rfl, by omega⟩)))), by rw [ht]; exact hP9, hD9⟩, hS.F ht⟩) hS.2.2 dX7_told_155
        · refine lv_tableIn (tgt := 156) (off := 68) hx hb dX7_told_88 (by omega) (by omega) (by rw [h23]; decide) (by decide) ?_
          refine lv_aload_n hx hb dX7_told_156 rfl (lv_at hl 0 rfl) ?_
          refine va_get (D := (dC, dI)) (ci := 7) (v := .ref k) (C := RX7) (T := TX7) (N := 10) hx hb hts hin7 hown hK hP 0 rfl rfl 0 (by decide) hw0 (fun _ h9 => h9) rfl dX7_told_157 ?_
          refine va_get (D := (dC, dI)) (ci := 0) (v := .int 0) (C := RX0) (T := TX0) (N := 12) hx hb hts hin0 hown hK hP 2 rfl rfl 9 (by decide) hw7 (fun _ h9 => h9) rfl dX7_told_160 ?_
          have hP9 := mx_subP (wc := []) hP [] rfl
          have hD9 := hD.sub (ws' := []) [] (by decide) rfl
          exact W.iret (v := 0) hx hb hr (fun t ht hW => ⟨⟨0, (), rfl, (by first | exact Or.inl (⟨rfl, by omega⟩) | exact Or.inr (Or.inl (⟨rfl, by omega⟩)) | exact Or.inr (Or.inr (Or.inl (⟨rfl, by omega⟩))) | exact Or.inr (Or.inr (Or.inr (⟨rfl, by omega⟩)))), by rw [ht]; exact hP9, hD9⟩, hS.F ht⟩) hS.2.2 dX7_told_163
        · refine lv_tableIn (tgt := 164) (off := 76) hx hb dX7_told_88 (by omega) (by omega) (by rw [h23]; decide) (by decide) ?_
          refine lv_aload_n hx hb dX7_told_164 rfl (lv_at hl 0 rfl) ?_
          refine va_get (D := (dC, dI)) (ci := 7) (v := .ref k) (C := RX7) (T := TX7) (N := 10) hx hb hts hin7 hown hK hP 0 rfl rfl 0 (by decide) hw0 (fun _ h9 => h9) rfl dX7_told_165 ?_
          refine mx_i (wr := [(h, .inr (7, [.ref k, .ref d, .ref j, .ref o, .ref f, .ref g, .ref wk, .ref im, .ref kt, .ref dl])), (d, .inr (4, [.ref ds, .int 0, .ref dk, .ref dw, .int 0, .int 0])), (kw, .inl (cI, 14, .inl (fun _ => 0))), (kc, .inl (cZ, 14, .inl (fun _ => 0)))]) (va_runV (As := []) (rest := []) ⟨hx, hb, hml, hown, hts⟩ (c_X0_boilsAt l dC dI cI cZ cK tS aK aV k ks kw kc kq km kd ka kk H.size) (cwV 0 hts (gw_v (fun _ h9 => List.mem_cons_of_mem _ h9) wm_118 wm_8 wm_9 wm_10 wm_11) rfl rfl rfl (by decide +kernel) ⟨Nat.le_of_ble_eq_true rfl, Nat.le_of_ble_eq_true rfl⟩) (mx_preV (C := RX0) (T := TX0) (N := 12) (ci := 0) hKx hP hD hS hA [2, 3] (by decide) rfl rfl rfl) rfl rfl hl.1 rfl (lv_room (Nat.le_of_ble_eq_true rfl)) dX7_told_168 ⟨Nat.le_of_ble_eq_true rfl, Nat.le_of_ble_eq_true rfl⟩) hP hD hS hA [2, 3] [0, 1, 4, 5] rfl rfl (by decide) (by decide) (fun r24 u24 H locs hq24 hP hD hS => ?_)
          replace hP : va_P (dC, dI) vwCl [(h, .inr (7, [.ref k, .ref d, .ref j, .ref o, .ref f, .ref g, .ref wk, .ref im, .ref kt, .ref dl])), (d, .inr (4, [.ref ds, .int 0, .ref dk, .ref dw, .int 0, .int 0])), (kw, .inl (cI, 14, .inl (fun _ => 0))), (kc, .inl (cZ, 14, .inl (fun _ => 0))), (k, .inr (0, [.ref ks, .ref kw, .ref kc, .int (-6), .int 0, .int 0, .ref kq, .ref km, .ref kd, .int 0, .ref ka, .ref kk])), (ks, .inl (cI, 5, .inl (upd (fun _ => 0) 0 800)))] H := hP
          replace hD : va_D A [(h, .inr (7, [.ref k, .ref d, .ref j, .ref o, .ref f, .ref g, .ref wk, .ref im, .ref kt, .ref dl])), (d, .inr (4, [.ref ds, .int 0, .ref dk, .ref dw, .int 0, .int 0])), (kw, .inl (cI, 14, .inl (fun _ => 0))), (kc, .inl (cZ, 14, .inl (fun _ => 0))), (k, .inr (0, [.ref ks, .ref kw, .ref kc, .int (-6), .int 0, .int 0, .ref kq, .ref km, .ref kd, .int 0, .ref ka, .ref kk])), (ks, .inl (cI, 5, .inl (upd (fun _ => 0) 0 800)))] := hD
          obtain rfl : r24 = 100 := hq24
          have hP9 := mx_subP (wc := []) hP [] rfl
          have hD9 := hD.sub (ws' := []) [] (by decide) rfl
          exact W.iret (v := 100) hx hb hr (fun t ht hW => ⟨⟨100, (), rfl, (by first | exact Or.inl (⟨rfl, by omega⟩) | exact Or.inr (Or.inl (⟨rfl, by omega⟩)) | exact Or.inr (Or.inr (Or.inl (⟨rfl, by omega⟩))) | exact Or.inr (Or.inr (Or.inr (⟨rfl, by omega⟩)))), by rw [ht]; exact hP9, hD9⟩, hS.F ht⟩) hS.2.2 dX7_told_171
      · have t22 : (100 : Int) ≤ i0.toInt := (tnlt c22)
        refine lv_aload_n hx hb dX7_told_72 rfl (lv_at hl 0 rfl) ?_
        refine lv_iload_n hx hb dX7_told_73 rfl (lv_at hl 1 rfl) ?_
        refine lv_bipush (v := 100) hx hb dX7_told_74 (by decide) ?_
        refine lv_idiv hx hb dX7_told_76 (by decide) ?_
        refine lv_topi (fun x25 e25 => ?_)
        refine lv_iconst (v := 1) hx hb dX7_told_77 (by decide) ?_
        refine lv_isub hx hb dX7_told_78 ?_
        refine lv_topi (fun x26 e26 => ?_)
        refine lv_iload_n hx hb dX7_told_79 rfl (lv_at hl 1 rfl) ?_
        refine lv_bipush (v := 100) hx hb dX7_told_80 (by decide) ?_
        refine lv_irem hx hb dX7_told_82 (by decide) ?_
        refine lv_topi (fun x27 e27 => ?_)
        refine mx_i (wr := [(d, .inr (4, [.ref ds, .int 0, .ref dk, .ref dw, .int 0, .int 0])), (ks, .inl (cI, 5, .inl (upd (fun _ => 0) 0 800))), (kw, .inl (cI, 14, .inl (fun _ => 0))), (kc, .inl (cZ, 14, .inl (fun _ => 0)))]) (va_runV (As := [.int x26, .int x27]) (rest := []) ⟨hx, hb, hml, hown, hts⟩ (c_X7_toldOfMeal l dC dI cI cZ cK tS aK aV h o f g wk im kt dl j k ks kw kc kq km kd ka kk d x26 x27 H.size) (cwV 2 hts (gw_v (fun _ h9 => List.mem_cons_of_mem _ h9) wm_119 wm_120 wm_121 wm_2 wm_122) rfl rfl rfl (by decide +kernel) ⟨Nat.le_of_ble_eq_true rfl, Nat.le_of_ble_eq_true rfl⟩) (mx_preV (C := RX7) (T := TX7) (N := 10) (ci := 7) hKx hP hD hS hA [0, 2] (by decide) rfl rfl rfl) rfl rfl hl.1 rfl (lv_room (Nat.le_of_ble_eq_true rfl)) dX7_told_83 ⟨Nat.le_of_ble_eq_true rfl, Nat.le_of_ble_eq_true rfl⟩) hP hD hS hA [0, 2] [1, 3, 4, 5] rfl rfl (by decide) (by decide) (fun r28 u28 H locs hq28 hP hD hS => ?_)
        replace hP : va_P (dC, dI) vwCl [(d, .inr (4, [.ref ds, .int 0, .ref dk, .ref dw, .int 0, .int 0])), (ks, .inl (cI, 5, .inl (upd (fun _ => 0) 0 800))), (kw, .inl (cI, 14, .inl (fun _ => 0))), (kc, .inl (cZ, 14, .inl (fun _ => 0))), (h, .inr (7, [.ref k, .ref d, .ref j, .ref o, .ref f, .ref g, .ref wk, .ref im, .ref kt, .ref dl])), (k, .inr (0, [.ref ks, .ref kw, .ref kc, .int (-6), .int 0, .int 0, .ref kq, .ref km, .ref kd, .int 0, .ref ka, .ref kk]))] H := hP
        replace hD : va_D A [(d, .inr (4, [.ref ds, .int 0, .ref dk, .ref dw, .int 0, .int 0])), (ks, .inl (cI, 5, .inl (upd (fun _ => 0) 0 800))), (kw, .inl (cI, 14, .inl (fun _ => 0))), (kc, .inl (cZ, 14, .inl (fun _ => 0))), (h, .inr (7, [.ref k, .ref d, .ref j, .ref o, .ref f, .ref g, .ref wk, .ref im, .ref kt, .ref dl])), (k, .inr (0, [.ref ks, .ref kw, .ref kc, .int (-6), .int 0, .int 0, .ref kq, .ref km, .ref kd, .int 0, .ref ka, .ref kk]))] := hD
        obtain rfl : r28 = (-2) := hq28
        have hP9 := mx_subP (wc := []) hP [] rfl
        have hD9 := hD.sub (ws' := []) [] (by decide) rfl
        exact W.iret (v := (-2)) hx hb hr (fun t ht hW => ⟨⟨(-2), (), rfl, (by first | exact Or.inl (⟨rfl, by omega⟩) | exact Or.inr (Or.inl (⟨rfl, by omega⟩)) | exact Or.inr (Or.inr (Or.inl (⟨rfl, by omega⟩))) | exact Or.inr (Or.inr (Or.inr (⟨rfl, by omega⟩)))), by rw [ht]; exact hP9, hD9⟩, hS.F ht⟩) hS.2.2 dX7_told_86
