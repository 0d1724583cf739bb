set_option maxHeartbeats 4000000 in
set_option maxRecDepth 100000 in
theorem c_X2_weight_0_3 (l : Launch) (dC : Nat → ClassId) (dI : Nat → Nat → Nat) (cI cZ cK : ClassId) (tS aK aV : Nat) (sz : Nat) : Cl l yX2_weight (wq yX2_weight cX2_weight 4 (some .long)) ({ frames := 1, cells := 0, slots := 0, locals := 25 }) dC dI cI cZ cK tS aK aV [.int 0, .int 1, .int 3] sz [] (fun (r : Int64) (_ : Unit) => r = 7) (fun _ => []) := by
  refine Met.ofW (cc := cX2_weight) (maxL := 4) (ret := (some .long)) (by decide) rfl ?_
  intro p e s m args below meth c s₁ B hml hv
  obtain ⟨rfl, hsz, hP, hKx, hD0⟩ := hv
  have hx := B.exec
  have hb := B.bytes
  have hr := B.returns
  have hts := atoms_spec (ws := wq yX2_weight cX2_weight 4 (some .long)) B.pre
  have hown : s.vm.findClass RX2 = some m.cls := findClass_of_methodNamed B.named
  have hlocks := B.notSynchronized
  subst hsz
  have hD := hD0.self (sz := s.heap.size)
  generalize hAe : va_A [] s.heap.size = A at hD hKx ⊢
  have hA : ∀ q : Nat, s.heap.size ≤ q → A q := fun q h => by rw [← hAe]; exact Or.inr h
  have hS : va_S A s.heap s.heap [] := va_S.rf
  have hP : va_P (dC, dI) vwCl [] s.heap := hP
  have hl := lv_entry ([.int 0, .int 1, .int 3]) (n := 4) (Nat.le_of_ble_eq_true rfl)
  rw [lg_entry_eq]
  generalize (lg_sl ([.int 0, .int 1, .int 3]) ++ List.replicate (4 - (lg_sl ([.int 0, .int 1, .int 3])).length) Slot.unset).toArray = ls at hl ⊢
  have hl : lv_has ls 4 [(0, .int 0), (1, .int 1), (2, .int 3)] := hl
  have hK := hKx.1
  refine lv_iload_n hx hb dX2_weight_0 rfl (lv_at hl 0 rfl) ?_
  refine mx_i (wr := []) (va_runS (As := [.int 0]) (rest := []) ⟨hx, hb, hml, hown, hts⟩ (c_J6_bitCount_0f7a4_0 l dC dI cI cZ cK tS aK aV  s.heap.size) (va_cwS 1 hts (gw_s (fun _ h9 => List.mem_cons_of_mem _ h9) wm_259 wm_115 wm_116 wm_117) rfl rfl rfl (by decide +kernel) ⟨Nat.le_of_ble_eq_true rfl, Nat.le_of_ble_eq_true rfl⟩) (mx_preS hKx hP hD hS hA [] (by decide) rfl) rfl rfl hl.1 rfl (lv_room (Nat.le_of_ble_eq_true rfl)) dX2_weight_1 ⟨Nat.le_of_ble_eq_true rfl, Nat.le_of_ble_eq_true rfl⟩) hP hD hS hA [] [] rfl rfl (by decide) (by decide) (fun r1 u1 H locs hq1 hP hD hS => ?_)
  replace hP : va_P (dC, dI) vwCl [] H := hP
  replace hD : va_D A [] := hD
  obtain rfl : r1 = 0 := hq1
  refine lv_istore_n (lv' := [(3, .int 0), (0, .int 0), (1, .int 1), (2, .int 3)]) hx hb dX2_weight_4 rfl hl (by decide) rfl (fun ls hl => ?_)
  refine lv_iload_n hx hb dX2_weight_5 rfl (lv_at hl 3 rfl) ?_
  refine lv_i2l (v := 3) hx hb dX2_weight_6 (by decide) ?_
  refine lv_iload_n hx hb dX2_weight_7 rfl (lv_at hl 0 rfl) ?_
  refine mx_l (wr := []) (va_runS (As := [.long 3, .int 0]) (rest := []) ⟨hx, hb, hml, hown, hts⟩ (c_X2_power0 l dC dI cI cZ cK tS aK aV 3 H.size) (va_cwS 2 hts (gw_s (fun _ h9 => List.mem_cons_of_mem _ h9) wm_260 wm_261 wm_262 wm_263) rfl rfl rfl (by decide +kernel) ⟨Nat.le_of_ble_eq_true rfl, Nat.le_of_ble_eq_true rfl⟩) (mx_preS hKx hP hD hS hA [] (by decide) rfl) rfl rfl hl.1 rfl (lv_room (Nat.le_of_ble_eq_true rfl)) dX2_weight_8 ⟨Nat.le_of_ble_eq_true rfl, Nat.le_of_ble_eq_true rfl⟩) hP hD hS hA [] [] rfl rfl (by decide) (by decide) (fun r2 u2 H locs hq2 hP hD hS => ?_)
  replace hP : va_P (dC, dI) vwCl [] H := hP
  replace hD : va_D A [] := hD
  obtain rfl : r2 = 1 := hq2
  refine lv_bipush (v := 10) hx hb dX2_weight_11 (by decide) ?_
  refine lv_iload_n hx hb dX2_weight_13 rfl (lv_at hl 3 rfl) ?_
  refine lv_isub hx hb dX2_weight_14 ?_
  refine lv_topi (fun x3 e3 => ?_)
  obtain rfl : x3 = 7 := e3.trans (by decide)
  refine lv_i2l (v := 7) hx hb dX2_weight_15 (by decide) ?_
  refine lv_iload_n hx hb dX2_weight_16 rfl (lv_at hl 2 rfl) ?_
  refine lv_iload_n hx hb dX2_weight_17 rfl (lv_at hl 0 rfl) ?_
  refine lv_isub hx hb dX2_weight_18 ?_
  refine lv_topi (fun x4 e4 => ?_)
  obtain rfl : x4 = 1 := e4.trans (by decide)
  refine mx_l (wr := []) (va_runS (As := [.long 7, .int 1]) (rest := [.long 1]) ⟨hx, hb, hml, hown, hts⟩ (c_X2_power1 l dC dI cI cZ cK tS aK aV 7 H.size) (va_cwS 2 hts (gw_s (fun _ h9 => List.mem_cons_of_mem _ h9) wm_260 wm_261 wm_262 wm_263) rfl rfl rfl (by decide +kernel) ⟨Nat.le_of_ble_eq_true rfl, Nat.le_of_ble_eq_true rfl⟩) (mx_preS hKx hP hD hS hA [] (by decide) rfl) rfl rfl hl.1 rfl (lv_room (Nat.le_of_ble_eq_true rfl)) dX2_weight_19 ⟨Nat.le_of_ble_eq_true rfl, Nat.le_of_ble_eq_true rfl⟩) hP hD hS hA [] [] rfl rfl (by decide) (by decide) (fun r5 u5 H locs hq5 hP hD hS => ?_)
  replace hP : va_P (dC, dI) vwCl [] H := hP
  replace hD : va_D A [] := hD
  obtain rfl : r5 = 7 := hq5
  refine lv_lmul hx hb dX2_weight_22 ?_
  refine lv_topl (fun x6 e6 => ?_)
  obtain rfl : x6 = 7 := e6.trans (by decide)
  have hP9 := mx_subP (wc := []) hP [] rfl
  have hD9 := hD.sub (ws' := []) [] (by decide) rfl
  exact W.lret (v := 7) hx hb hr (fun t ht hW => ⟨⟨7, (), rfl, rfl, by rw [ht]; exact hP9, hD9⟩, hS.F ht⟩) hS.2.2 dX2_weight_23
set_option maxHeartbeats 4000000 in
set_option maxRecDepth 100000 in
theorem c_X2_weight_1_3 (l : Launch) (dC : Nat → ClassId) (dI : Nat → Nat → Nat) (cI cZ cK : ClassId) (tS aK aV : Nat) (sz : Nat) : Cl l yX2_weight (wq yX2_weight cX2_weight 4 (some .long)) ({ frames := 1, cells := 0, slots := 0, locals := 25 }) dC dI cI cZ cK tS aK aV [.int 1, .int 1, .int 3] sz [] (fun (r : Int64) (_ : Unit) => r = 3) (fun _ => []) := by
  refine Met.ofW (cc := cX2_weight) (maxL := 4) (ret := (some .long)) (by decide) rfl ?_
  intro p e s m args below meth c s₁ B hml hv
  obtain ⟨rfl, hsz, hP, hKx, hD0⟩ := hv
  have hx := B.exec
  have hb := B.bytes
  have hr := B.returns
  have hts := atoms_spec (ws := wq yX2_weight cX2_weight 4 (some .long)) B.pre
  have hown : s.vm.findClass RX2 = some m.cls := findClass_of_methodNamed B.named
  have hlocks := B.notSynchronized
  subst hsz
  have hD := hD0.self (sz := s.heap.size)
  generalize hAe : va_A [] s.heap.size = A at hD hKx ⊢
  have hA : ∀ q : Nat, s.heap.size ≤ q → A q := fun q h => by rw [← hAe]; exact Or.inr h
  have hS : va_S A s.heap s.heap [] := va_S.rf
  have hP : va_P (dC, dI) vwCl [] s.heap := hP
  have hl := lv_entry ([.int 1, .int 1, .int 3]) (n := 4) (Nat.le_of_ble_eq_true rfl)
  rw [lg_entry_eq]
  generalize (lg_sl ([.int 1, .int 1, .int 3]) ++ List.replicate (4 - (lg_sl ([.int 1, .int 1, .int 3])).length) Slot.unset).toArray = ls at hl ⊢
  have hl : lv_has ls 4 [(0, .int 1), (1, .int 1), (2, .int 3)] := hl
  have hK := hKx.1
  refine lv_iload_n hx hb dX2_weight_0 rfl (lv_at hl 0 rfl) ?_
  refine mx_i (wr := []) (va_runS (As := [.int 1]) (rest := []) ⟨hx, hb, hml, hown, hts⟩ (c_J6_bitCount_0f7a4_1 l dC dI cI cZ cK tS aK aV  s.heap.size) (va_cwS 1 hts (gw_s (fun _ h9 => List.mem_cons_of_mem _ h9) wm_259 wm_115 wm_116 wm_117) rfl rfl rfl (by decide +kernel) ⟨Nat.le_of_ble_eq_true rfl, Nat.le_of_ble_eq_true rfl⟩) (mx_preS hKx hP hD hS hA [] (by decide) rfl) rfl rfl hl.1 rfl (lv_room (Nat.le_of_ble_eq_true rfl)) dX2_weight_1 ⟨Nat.le_of_ble_eq_true rfl, Nat.le_of_ble_eq_true rfl⟩) hP hD hS hA [] [] rfl rfl (by decide) (by decide) (fun r1 u1 H locs hq1 hP hD hS => ?_)
  replace hP : va_P (dC, dI) vwCl [] H := hP
  replace hD : va_D A [] := hD
  obtain rfl : r1 = 1 := hq1
  refine lv_istore_n (lv' := [(3, .int 1), (0, .int 1), (1, .int 1), (2, .int 3)]) hx hb dX2_weight_4 rfl hl (by decide) rfl (fun ls hl => ?_)
  refine lv_iload_n hx hb dX2_weight_5 rfl (lv_at hl 3 rfl) ?_
  refine lv_i2l (v := 3) hx hb dX2_weight_6 (by decide) ?_
  refine lv_iload_n hx hb dX2_weight_7 rfl (lv_at hl 0 rfl) ?_
  refine mx_l (wr := []) (va_runS (As := [.long 3, .int 1]) (rest := []) ⟨hx, hb, hml, hown, hts⟩ (c_X2_power1 l dC dI cI cZ cK tS aK aV 3 H.size) (va_cwS 2 hts (gw_s (fun _ h9 => List.mem_cons_of_mem _ h9) wm_260 wm_261 wm_262 wm_263) rfl rfl rfl (by decide +kernel) ⟨Nat.le_of_ble_eq_true rfl, Nat.le_of_ble_eq_true rfl⟩) (mx_preS hKx hP hD hS hA [] (by decide) rfl) rfl rfl hl.1 rfl (lv_room (Nat.le_of_ble_eq_true rfl)) dX2_weight_8 ⟨Nat.le_of_ble_eq_true rfl, Nat.le_of_ble_eq_true rfl⟩) hP hD hS hA [] [] rfl rfl (by decide) (by decide) (fun r2 u2 H locs hq2 hP hD hS => ?_)
  replace hP : va_P (dC, dI) vwCl [] H := hP
  replace hD : va_D A [] := hD
  obtain rfl : r2 = 3 := hq2
  refine lv_bipush (v := 10) hx hb dX2_weight_11 (by decide) ?_
  refine lv_iload_n hx hb dX2_weight_13 rfl (lv_at hl 3 rfl) ?_
  refine lv_isub hx hb dX2_weight_14 ?_
  refine lv_topi (fun x3 e3 => ?_)
  obtain rfl : x3 = 7 := e3.trans (by decide)
  refine lv_i2l (v := 7) hx hb dX2_weight_15 (by decide) ?_
  refine lv_iload_n hx hb dX2_weight_16 rfl (lv_at hl 2 rfl) ?_
  refine lv_iload_n hx hb dX2_weight_17 rfl (lv_at hl 0 rfl) ?_
  refine lv_isub hx hb dX2_weight_18 ?_
  refine lv_topi (fun x4 e4 => ?_)
  obtain rfl : x4 = 0 := e4.trans (by decide)
  refine mx_l (wr := []) (va_runS (As := [.long 7, .int 0]) (rest := [.long 3]) ⟨hx, hb, hml, hown, hts⟩ (c_X2_power0 l dC dI cI cZ cK tS aK aV 7 H.size) (va_cwS 2 hts (gw_s (fun _ h9 => List.mem_cons_of_mem _ h9) wm_260 wm_261 wm_262 wm_263) rfl rfl rfl (by decide +kernel) ⟨Nat.le_of_ble_eq_true rfl, Nat.le_of_ble_eq_true rfl⟩) (mx_preS hKx hP hD hS hA [] (by decide) rfl) rfl rfl hl.1 rfl (lv_room (Nat.le_of_ble_eq_true rfl)) dX2_weight_19 ⟨Nat.le_of_ble_eq_true rfl, Nat.le_of_ble_eq_true rfl⟩) hP hD hS hA [] [] rfl rfl (by decide) (by decide) (fun r5 u5 H locs hq5 hP hD hS => ?_)
  replace hP : va_P (dC, dI) vwCl [] H := hP
  replace hD : va_D A [] := hD
  obtain rfl : r5 = 1 := hq5
  refine lv_lmul hx hb dX2_weight_22 ?_
  refine lv_topl (fun x6 e6 => ?_)
  obtain rfl : x6 = 3 := e6.trans (by decide)
  have hP9 := mx_subP (wc := []) hP [] rfl
  have hD9 := hD.sub (ws' := []) [] (by decide) rfl
  exact W.lret (v := 3) hx hb hr (fun t ht hW => ⟨⟨3, (), rfl, rfl, by rw [ht]; exact hP9, hD9⟩, hS.F ht⟩) hS.2.2 dX2_weight_23
set_option maxHeartbeats 4000000 in
set_option maxRecDepth 100000 in
theorem c_X2_weight_0_4 (l : Launch) (dC : Nat → ClassId) (dI : Nat → Nat → Nat) (cI cZ cK : ClassId) (tS aK aV : Nat) (sz : Nat) : Cl l yX2_weight (wq yX2_weight cX2_weight 4 (some .long)) ({ frames := 1, cells := 0, slots := 0, locals := 25 }) dC dI cI cZ cK tS aK aV [.int 0, .int 1, .int 4] sz [] (fun (r : Int64) (_ : Unit) => r = 6) (fun _ => []) := by
  refine Met.ofW (cc := cX2_weight) (maxL := 4) (ret := (some .long)) (by decide) rfl ?_
  intro p e s m args below meth c s₁ B hml hv
  obtain ⟨rfl, hsz, hP, hKx, hD0⟩ := hv
  have hx := B.exec
  have hb := B.bytes
  have hr := B.returns
  have hts := atoms_spec (ws := wq yX2_weight cX2_weight 4 (some .long)) B.pre
  have hown : s.vm.findClass RX2 = some m.cls := findClass_of_methodNamed B.named
  have hlocks := B.notSynchronized
  subst hsz
  have hD := hD0.self (sz := s.heap.size)
  generalize hAe : va_A [] s.heap.size = A at hD hKx ⊢
  have hA : ∀ q : Nat, s.heap.size ≤ q → A q := fun q h => by rw [← hAe]; exact Or.inr h
  have hS : va_S A s.heap s.heap [] := va_S.rf
  have hP : va_P (dC, dI) vwCl [] s.heap := hP
  have hl := lv_entry ([.int 0, .int 1, .int 4]) (n := 4) (Nat.le_of_ble_eq_true rfl)
  rw [lg_entry_eq]
  generalize (lg_sl ([.int 0, .int 1, .int 4]) ++ List.replicate (4 - (lg_sl ([.int 0, .int 1, .int 4])).length) Slot.unset).toArray = ls at hl ⊢
  have hl : lv_has ls 4 [(0, .int 0), (1, .int 1), (2, .int 4)] := hl
  have hK := hKx.1
  refine lv_iload_n hx hb dX2_weight_0 rfl (lv_at hl 0 rfl) ?_
  refine mx_i (wr := []) (va_runS (As := [.int 0]) (rest := []) ⟨hx, hb, hml, hown, hts⟩ (c_J6_bitCount_0f7a4_0 l dC dI cI cZ cK tS aK aV  s.heap.size) (va_cwS 1 hts (gw_s (fun _ h9 => List.mem_cons_of_mem _ h9) wm_259 wm_115 wm_116 wm_117) rfl rfl rfl (by decide +kernel) ⟨Nat.le_of_ble_eq_true rfl, Nat.le_of_ble_eq_true rfl⟩) (mx_preS hKx hP hD hS hA [] (by decide) rfl) rfl rfl hl.1 rfl (lv_room (Nat.le_of_ble_eq_true rfl)) dX2_weight_1 ⟨Nat.le_of_ble_eq_true rfl, Nat.le_of_ble_eq_true rfl⟩) hP hD hS hA [] [] rfl rfl (by decide) (by decide) (fun r1 u1 H locs hq1 hP hD hS => ?_)
  replace hP : va_P (dC, dI) vwCl [] H := hP
  replace hD : va_D A [] := hD
  obtain rfl : r1 = 0 := hq1
  refine lv_istore_n (lv' := [(3, .int 0), (0, .int 0), (1, .int 1), (2, .int 4)]) hx hb dX2_weight_4 rfl hl (by decide) rfl (fun ls hl => ?_)
  refine lv_iload_n hx hb dX2_weight_5 rfl (lv_at hl 3 rfl) ?_
  refine lv_i2l (v := 4) hx hb dX2_weight_6 (by decide) ?_
  refine lv_iload_n hx hb dX2_weight_7 rfl (lv_at hl 0 rfl) ?_
  refine mx_l (wr := []) (va_runS (As := [.long 4, .int 0]) (rest := []) ⟨hx, hb, hml, hown, hts⟩ (c_X2_power0 l dC dI cI cZ cK tS aK aV 4 H.size) (va_cwS 2 hts (gw_s (fun _ h9 => List.mem_cons_of_mem _ h9) wm_260 wm_261 wm_262 wm_263) rfl rfl rfl (by decide +kernel) ⟨Nat.le_of_ble_eq_true rfl, Nat.le_of_ble_eq_true rfl⟩) (mx_preS hKx hP hD hS hA [] (by decide) rfl) rfl rfl hl.1 rfl (lv_room (Nat.le_of_ble_eq_true rfl)) dX2_weight_8 ⟨Nat.le_of_ble_eq_true rfl, Nat.le_of_ble_eq_true rfl⟩) hP hD hS hA [] [] rfl rfl (by decide) (by decide) (fun r2 u2 H locs hq2 hP hD hS => ?_)
  replace hP : va_P (dC, dI) vwCl [] H := hP
  replace hD : va_D A [] := hD
  obtain rfl : r2 = 1 := hq2
  refine lv_bipush (v := 10) hx hb dX2_weight_11 (by decide) ?_
  refine lv_iload_n hx hb dX2_weight_13 rfl (lv_at hl 3 rfl) ?_
  refine lv_isub hx hb dX2_weight_14 ?_
  refine lv_topi (fun x3 e3 => ?_)
  obtain rfl : x3 = 6 := e3.trans (by decide)
  refine lv_i2l (v := 6) hx hb dX2_weight_15 (by decide) ?_
  refine lv_iload_n hx hb dX2_weight_16 rfl (lv_at hl 2 rfl) ?_
  refine lv_iload_n hx hb dX2_weight_17 rfl (lv_at hl 0 rfl) ?_
  refine lv_isub hx hb dX2_weight_18 ?_
  refine lv_topi (fun x4 e4 => ?_)
  obtain rfl : x4 = 1 := e4.trans (by decide)
  refine mx_l (wr := []) (va_runS (As := [.long 6, .int 1]) (rest := [.long 1]) ⟨hx, hb, hml, hown, hts⟩ (c_X2_power1 l dC dI cI cZ cK tS aK aV 6 H.size) (va_cwS 2 hts (gw_s (fun _ h9 => List.mem_cons_of_mem _ h9) wm_260 wm_261 wm_262 wm_263) rfl rfl rfl (by decide +kernel) ⟨Nat.le_of_ble_eq_true rfl, Nat.le_of_ble_eq_true rfl⟩) (mx_preS hKx hP hD hS hA [] (by decide) rfl) rfl rfl hl.1 rfl (lv_room (Nat.le_of_ble_eq_true rfl)) dX2_weight_19 ⟨Nat.le_of_ble_eq_true rfl, Nat.le_of_ble_eq_true rfl⟩) hP hD hS hA [] [] rfl rfl (by decide) (by decide) (fun r5 u5 H locs hq5 hP hD hS => ?_)
  replace hP : va_P (dC, dI) vwCl [] H := hP
  replace hD : va_D A [] := hD
  obtain rfl : r5 = 6 := hq5
  refine lv_lmul hx hb dX2_weight_22 ?_
  refine lv_topl (fun x6 e6 => ?_)
  obtain rfl : x6 = 6 := e6.trans (by decide)
  have hP9 := mx_subP (wc := []) hP [] rfl
  have hD9 := hD.sub (ws' := []) [] (by decide) rfl
  exact W.lret (v := 6) hx hb hr (fun t ht hW => ⟨⟨6, (), rfl, rfl, by rw [ht]; exact hP9, hD9⟩, hS.F ht⟩) hS.2.2 dX2_weight_23
set_option maxHeartbeats 4000000 in
set_option maxRecDepth 100000 in
theorem c_X2_weight_1_4 (l : Launch) (dC : Nat → ClassId) (dI : Nat → Nat → Nat) (cI cZ cK : ClassId) (tS aK aV : Nat) (sz : Nat) : Cl l yX2_weight (wq yX2_weight cX2_weight 4 (some .long)) ({ frames := 1, cells := 0, slots := 0, locals := 25 }) dC dI cI cZ cK tS aK aV [.int 1, .int 1, .int 4] sz [] (fun (r : Int64) (_ : Unit) => r = 4) (fun _ => []) := by
  refine Met.ofW (cc := cX2_weight) (maxL := 4) (ret := (some .long)) (by decide) rfl ?_
  intro p e s m args below meth c s₁ B hml hv
  obtain ⟨rfl, hsz, hP, hKx, hD0⟩ := hv
  have hx := B.exec
  have hb := B.bytes
  have hr := B.returns
  have hts := atoms_spec (ws := wq yX2_weight cX2_weight 4 (some .long)) B.pre
  have hown : s.vm.findClass RX2 = some m.cls := findClass_of_methodNamed B.named
  have hlocks := B.notSynchronized
  subst hsz
  have hD := hD0.self (sz := s.heap.size)
  generalize hAe : va_A [] s.heap.size = A at hD hKx ⊢
  have hA : ∀ q : Nat, s.heap.size ≤ q → A q := fun q h => by rw [← hAe]; exact Or.inr h
  have hS : va_S A s.heap s.heap [] := va_S.rf
  have hP : va_P (dC, dI) vwCl [] s.heap := hP
  have hl := lv_entry ([.int 1, .int 1, .int 4]) (n := 4) (Nat.le_of_ble_eq_true rfl)
  rw [lg_entry_eq]
  generalize (lg_sl ([.int 1, .int 1, .int 4]) ++ List.replicate (4 - (lg_sl ([.int 1, .int 1, .int 4])).length) Slot.unset).toArray = ls at hl ⊢
  have hl : lv_has ls 4 [(0, .int 1), (1, .int 1), (2, .int 4)] := hl
  have hK := hKx.1
  refine lv_iload_n hx hb dX2_weight_0 rfl (lv_at hl 0 rfl) ?_
  refine mx_i (wr := []) (va_runS (As := [.int 1]) (rest := []) ⟨hx, hb, hml, hown, hts⟩ (c_J6_bitCount_0f7a4_1 l dC dI cI cZ cK tS aK aV  s.heap.size) (va_cwS 1 hts (gw_s (fun _ h9 => List.mem_cons_of_mem _ h9) wm_259 wm_115 wm_116 wm_117) rfl rfl rfl (by decide +kernel) ⟨Nat.le_of_ble_eq_true rfl, Nat.le_of_ble_eq_true rfl⟩) (mx_preS hKx hP hD hS hA [] (by decide) rfl) rfl rfl hl.1 rfl (lv_room (Nat.le_of_ble_eq_true rfl)) dX2_weight_1 ⟨Nat.le_of_ble_eq_true rfl, Nat.le_of_ble_eq_true rfl⟩) hP hD hS hA [] [] rfl rfl (by decide) (by decide) (fun r1 u1 H locs hq1 hP hD hS => ?_)
  replace hP : va_P (dC, dI) vwCl [] H := hP
  replace hD : va_D A [] := hD
  obtain rfl : r1 = 1 := hq1
  refine lv_istore_n (lv' := [(3, .int 1), (0, .int 1), (1, .int 1), (2, .int 4)]) hx hb dX2_weight_4 rfl hl (by decide) rfl (fun ls hl => ?_)
  refine lv_iload_n hx hb dX2_weight_5 rfl (lv_at hl 3 rfl) ?_
  refine lv_i2l (v := 4) hx hb dX2_weight_6 (by decide) ?_
  refine lv_iload_n hx hb dX2_weight_7 rfl (lv_at hl 0 rfl) ?_
  refine mx_l (wr := []) (va_runS (As := [.long 4, .int 1]) (rest := []) ⟨hx, hb, hml, hown, hts⟩ (c_X2_power1 l dC dI cI cZ cK tS aK aV 4 H.size) (va_cwS 2 hts (gw_s (fun _ h9 => List.mem_cons_of_mem _ h9) wm_260 wm_261 wm_262 wm_263) rfl rfl rfl (by decide +kernel) ⟨Nat.le_of_ble_eq_true rfl, Nat.le_of_ble_eq_true rfl⟩) (mx_preS hKx hP hD hS hA [] (by decide) rfl) rfl rfl hl.1 rfl (lv_room (Nat.le_of_ble_eq_true rfl)) dX2_weight_8 ⟨Nat.le_of_ble_eq_true rfl, Nat.le_of_ble_eq_true rfl⟩) hP hD hS hA [] [] rfl rfl (by decide) (by decide) (fun r2 u2 H locs hq2 hP hD hS => ?_)
  replace hP : va_P (dC, dI) vwCl [] H := hP
  replace hD : va_D A [] := hD
  obtain rfl : r2 = 4 := hq2
  refine lv_bipush (v := 10) hx hb dX2_weight_11 (by decide) ?_
  refine lv_iload_n hx hb dX2_weight_13 rfl (lv_at hl 3 rfl) ?_
  refine lv_isub hx hb dX2_weight_14 ?_
  refine lv_topi (fun x3 e3 => ?_)
  obtain rfl : x3 = 6 := e3.trans (by decide)
  refine lv_i2l (v := 6) hx hb dX2_weight_15 (by decide) ?_
  refine lv_iload_n hx hb dX2_weight_16 rfl (lv_at hl 2 rfl) ?_
  refine lv_iload_n hx hb dX2_weight_17 rfl (lv_at hl 0 rfl) ?_
  refine lv_isub hx hb dX2_weight_18 ?_
  refine lv_topi (fun x4 e4 => ?_)
  obtain rfl : x4 = 0 := e4.trans (by decide)
  refine mx_l (wr := []) (va_runS (As := [.long 6, .int 0]) (rest := [.long 4]) ⟨hx, hb, hml, hown, hts⟩ (c_X2_power0 l dC dI cI cZ cK tS aK aV 6 H.size) (va_cwS 2 hts (gw_s (fun _ h9 => List.mem_cons_of_mem _ h9) wm_260 wm_261 wm_262 wm_263) rfl rfl rfl (by decide +kernel) ⟨Nat.le_of_ble_eq_true rfl, Nat.le_of_ble_eq_true rfl⟩) (mx_preS hKx hP hD hS hA [] (by decide) rfl) rfl rfl hl.1 rfl (lv_room (Nat.le_of_ble_eq_true rfl)) dX2_weight_19 ⟨Nat.le_of_ble_eq_true rfl, Nat.le_of_ble_eq_true rfl⟩) hP hD hS hA [] [] rfl rfl (by decide) (by decide) (fun r5 u5 H locs hq5 hP hD hS => ?_)
  replace hP : va_P (dC, dI) vwCl [] H := hP
  replace hD : va_D A [] := hD
  obtain rfl : r5 = 1 := hq5
  refine lv_lmul hx hb dX2_weight_22 ?_
  refine lv_topl (fun x6 e6 => ?_)
  obtain rfl : x6 = 4 := e6.trans (by decide)
  have hP9 := mx_subP (wc := []) hP [] rfl
  have hD9 := hD.sub (ws' := []) [] (by decide) rfl
  exact W.lret (v := 4) hx hb hr (fun t ht hW => ⟨⟨4, (), rfl, rfl, by rw [ht]; exact hP9, hD9⟩, hS.F ht⟩) hS.2.2 dX2_weight_23
set_option maxHeartbeats 4000000 in
set_option maxRecDepth 100000 in
theorem c_X2_weight_0_5 (l : Launch) (dC : Nat → ClassId) (dI : Nat → Nat → Nat) (cI cZ cK : ClassId) (tS aK aV : Nat) (sz : Nat) : Cl l yX2_weight (wq yX2_weight cX2_weight 4 (some .long)) ({ frames := 1, cells := 0, slots := 0, locals := 25 }) dC dI cI cZ cK tS aK aV [.int 0, .int 1, .int 5] sz [] (fun (r : Int64) (_ : Unit) => r = 5) (fun _ => []) := by
  refine Met.ofW (cc := cX2_weight) (maxL := 4) (ret := (some .long)) (by decide) rfl ?_
  intro p e s m args below meth c s₁ B hml hv
  obtain ⟨rfl, hsz, hP, hKx, hD0⟩ := hv
  have hx := B.exec
  have hb := B.bytes
  have hr := B.returns
  have hts := atoms_spec (ws := wq yX2_weight cX2_weight 4 (some .long)) B.pre
  have hown : s.vm.findClass RX2 = some m.cls := findClass_of_methodNamed B.named
  have hlocks := B.notSynchronized
  subst hsz
  have hD := hD0.self (sz := s.heap.size)
  generalize hAe : va_A [] s.heap.size = A at hD hKx ⊢
  have hA : ∀ q : Nat, s.heap.size ≤ q → A q := fun q h => by rw [← hAe]; exact Or.inr h
  have hS : va_S A s.heap s.heap [] := va_S.rf
  have hP : va_P (dC, dI) vwCl [] s.heap := hP
  have hl := lv_entry ([.int 0, .int 1, .int 5]) (n := 4) (Nat.le_of_ble_eq_true rfl)
  rw [lg_entry_eq]
  generalize (lg_sl ([.int 0, .int 1, .int 5]) ++ List.replicate (4 - (lg_sl ([.int 0, .int 1, .int 5])).length) Slot.unset).toArray = ls at hl ⊢
  have hl : lv_has ls 4 [(0, .int 0), (1, .int 1), (2, .int 5)] := hl
  have hK := hKx.1
  refine lv_iload_n hx hb dX2_weight_0 rfl (lv_at hl 0 rfl) ?_
  refine mx_i (wr := []) (va_runS (As := [.int 0]) (rest := []) ⟨hx, hb, hml, hown, hts⟩ (c_J6_bitCount_0f7a4_0 l dC dI cI cZ cK tS aK aV  s.heap.size) (va_cwS 1 hts (gw_s (fun _ h9 => List.mem_cons_of_mem _ h9) wm_259 wm_115 wm_116 wm_117) rfl rfl rfl (by decide +kernel) ⟨Nat.le_of_ble_eq_true rfl, Nat.le_of_ble_eq_true rfl⟩) (mx_preS hKx hP hD hS hA [] (by decide) rfl) rfl rfl hl.1 rfl (lv_room (Nat.le_of_ble_eq_true rfl)) dX2_weight_1 ⟨Nat.le_of_ble_eq_true rfl, Nat.le_of_ble_eq_true rfl⟩) hP hD hS hA [] [] rfl rfl (by decide) (by decide) (fun r1 u1 H locs hq1 hP hD hS => ?_)
  replace hP : va_P (dC, dI) vwCl [] H := hP
  replace hD : va_D A [] := hD
  obtain rfl : r1 = 0 := hq1
  refine lv_istore_n (lv' := [(3, .int 0), (0, .int 0), (1, .int 1), (2, .int 5)]) hx hb dX2_weight_4 rfl hl (by decide) rfl (fun ls hl => ?_)
  refine lv_iload_n hx hb dX2_weight_5 rfl (lv_at hl 3 rfl) ?_
  refine lv_i2l (v := 5) hx hb dX2_weight_6 (by decide) ?_
  refine lv_iload_n hx hb dX2_weight_7 rfl (lv_at hl 0 rfl) ?_
  refine mx_l (wr := []) (va_runS (As := [.long 5, .int 0]) (rest := []) ⟨hx, hb, hml, hown, hts⟩ (c_X2_power0 l dC dI cI cZ cK tS aK aV 5 H.size) (va_cwS 2 hts (gw_s (fun _ h9 => List.mem_cons_of_mem _ h9) wm_260 wm_261 wm_262 wm_263) rfl rfl rfl (by decide +kernel) ⟨Nat.le_of_ble_eq_true rfl, Nat.le_of_ble_eq_true rfl⟩) (mx_preS hKx hP hD hS hA [] (by decide) rfl) rfl rfl hl.1 rfl (lv_room (Nat.le_of_ble_eq_true rfl)) dX2_weight_8 ⟨Nat.le_of_ble_eq_true rfl, Nat.le_of_ble_eq_true rfl⟩) hP hD hS hA [] [] rfl rfl (by decide) (by decide) (fun r2 u2 H locs hq2 hP hD hS => ?_)
  replace hP : va_P (dC, dI) vwCl [] H := hP
  replace hD : va_D A [] := hD
  obtain rfl : r2 = 1 := hq2
  refine lv_bipush (v := 10) hx hb dX2_weight_11 (by decide) ?_
  refine lv_iload_n hx hb dX2_weight_13 rfl (lv_at hl 3 rfl) ?_
  refine lv_isub hx hb dX2_weight_14 ?_
  refine lv_topi (fun x3 e3 => ?_)
  obtain rfl : x3 = 5 := e3.trans (by decide)
  refine lv_i2l (v := 5) hx hb dX2_weight_15 (by decide) ?_
  refine lv_iload_n hx hb dX2_weight_16 rfl (lv_at hl 2 rfl) ?_
  refine lv_iload_n hx hb dX2_weight_17 rfl (lv_at hl 0 rfl) ?_
  refine lv_isub hx hb dX2_weight_18 ?_
  refine lv_topi (fun x4 e4 => ?_)
  obtain rfl : x4 = 1 := e4.trans (by decide)
  refine mx_l (wr := []) (va_runS (As := [.long 5, .int 1]) (rest := [.long 1]) ⟨hx, hb, hml, hown, hts⟩ (c_X2_power1 l dC dI cI cZ cK tS aK aV 5 H.size) (va_cwS 2 hts (gw_s (fun _ h9 => List.mem_cons_of_mem _ h9) wm_260 wm_261 wm_262 wm_263) rfl rfl rfl (by decide +kernel) ⟨Nat.le_of_ble_eq_true rfl, Nat.le_of_ble_eq_true rfl⟩) (mx_preS hKx hP hD hS hA [] (by decide) rfl) rfl rfl hl.1 rfl (lv_room (Nat.le_of_ble_eq_true rfl)) dX2_weight_19 ⟨Nat.le_of_ble_eq_true rfl, Nat.le_of_ble_eq_true rfl⟩) hP hD hS hA [] [] rfl rfl (by decide) (by decide) (fun r5 u5 H locs hq5 hP hD hS => ?_)
  replace hP : va_P (dC, dI) vwCl [] H := hP
  replace hD : va_D A [] := hD
  obtain rfl : r5 = 5 := hq5
  refine lv_lmul hx hb dX2_weight_22 ?_
  refine lv_topl (fun x6 e6 => ?_)
  obtain rfl : x6 = 5 := e6.trans (by decide)
  have hP9 := mx_subP (wc := []) hP [] rfl
  have hD9 := hD.sub (ws' := []) [] (by decide) rfl
  exact W.lret (v := 5) hx hb hr (fun t ht hW => ⟨⟨5, (), rfl, rfl, by rw [ht]; exact hP9, hD9⟩, hS.F ht⟩) hS.2.2 dX2_weight_23
set_option maxHeartbeats 4000000 in
set_option maxRecDepth 100000 in
theorem c_X2_weight_1_5 (l : Launch) (dC : Nat → ClassId) (dI : Nat → Nat → Nat) (cI cZ cK : ClassId) (tS aK aV : Nat) (sz : Nat) : Cl l yX2_weight (wq yX2_weight cX2_weight 4 (some .long)) ({ frames := 1, cells := 0, slots := 0, locals := 25 }) dC dI cI cZ cK tS aK aV [.int 1, .int 1, .int 5] sz [] (fun (r : Int64) (_ : Unit) => r = 5) (fun _ => []) := by
  refine Met.ofW (cc := cX2_weight) (maxL := 4) (ret := (some .long)) (by decide) rfl ?_
  intro p e s m args below meth c s₁ B hml hv
  obtain ⟨rfl, hsz, hP, hKx, hD0⟩ := hv
  have hx := B.exec
  have hb := B.bytes
  have hr := B.returns
  have hts := atoms_spec (ws := wq yX2_weight cX2_weight 4 (some .long)) B.pre
  have hown : s.vm.findClass RX2 = some m.cls := findClass_of_methodNamed B.named
  have hlocks := B.notSynchronized
  subst hsz
  have hD := hD0.self (sz := s.heap.size)
  generalize hAe : va_A [] s.heap.size = A at hD hKx ⊢
  have hA : ∀ q : Nat, s.heap.size ≤ q → A q := fun q h => by rw [← hAe]; exact Or.inr h
  have hS : va_S A s.heap s.heap [] := va_S.rf
  have hP : va_P (dC, dI) vwCl [] s.heap := hP
  have hl := lv_entry ([.int 1, .int 1, .int 5]) (n := 4) (Nat.le_of_ble_eq_true rfl)
  rw [lg_entry_eq]
  generalize (lg_sl ([.int 1, .int 1, .int 5]) ++ List.replicate (4 - (lg_sl ([.int 1, .int 1, .int 5])).length) Slot.unset).toArray = ls at hl ⊢
  have hl : lv_has ls 4 [(0, .int 1), (1, .int 1), (2, .int 5)] := hl
  have hK := hKx.1
  refine lv_iload_n hx hb dX2_weight_0 rfl (lv_at hl 0 rfl) ?_
  refine mx_i (wr := []) (va_runS (As := [.int 1]) (rest := []) ⟨hx, hb, hml, hown, hts⟩ (c_J6_bitCount_0f7a4_1 l dC dI cI cZ cK tS aK aV  s.heap.size) (va_cwS 1 hts (gw_s (fun _ h9 => List.mem_cons_of_mem _ h9) wm_259 wm_115 wm_116 wm_117) rfl rfl rfl (by decide +kernel) ⟨Nat.le_of_ble_eq_true rfl, Nat.le_of_ble_eq_true rfl⟩) (mx_preS hKx hP hD hS hA [] (by decide) rfl) rfl rfl hl.1 rfl (lv_room (Nat.le_of_ble_eq_true rfl)) dX2_weight_1 ⟨Nat.le_of_ble_eq_true rfl, Nat.le_of_ble_eq_true rfl⟩) hP hD hS hA [] [] rfl rfl (by decide) (by decide) (fun r1 u1 H locs hq1 hP hD hS => ?_)
  replace hP : va_P (dC, dI) vwCl [] H := hP
  replace hD : va_D A [] := hD
  obtain rfl : r1 = 1 := hq1
  refine lv_istore_n (lv' := [(3, .int 1), (0, .int 1), (1, .int 1), (2, .int 5)]) hx hb dX2_weight_4 rfl hl (by decide) rfl (fun ls hl => ?_)
  refine lv_iload_n hx hb dX2_weight_5 rfl (lv_at hl 3 rfl) ?_
  refine lv_i2l (v := 5) hx hb dX2_weight_6 (by decide) ?_
  refine lv_iload_n hx hb dX2_weight_7 rfl (lv_at hl 0 rfl) ?_
  refine mx_l (wr := []) (va_runS (As := [.long 5, .int 1]) (rest := []) ⟨hx, hb, hml, hown, hts⟩ (c_X2_power1 l dC dI cI cZ cK tS aK aV 5 H.size) (va_cwS 2 hts (gw_s (fun _ h9 => List.mem_cons_of_mem _ h9) wm_260 wm_261 wm_262 wm_263) rfl rfl rfl (by decide +kernel) ⟨Nat.le_of_ble_eq_true rfl, Nat.le_of_ble_eq_true rfl⟩) (mx_preS hKx hP hD hS hA [] (by decide) rfl) rfl rfl hl.1 rfl (lv_room (Nat.le_of_ble_eq_true rfl)) dX2_weight_8 ⟨Nat.le_of_ble_eq_true rfl, Nat.le_of_ble_eq_true rfl⟩) hP hD hS hA [] [] rfl rfl (by decide) (by decide) (fun r2 u2 H locs hq2 hP hD hS => ?_)
  replace hP : va_P (dC, dI) vwCl [] H := hP
  replace hD : va_D A [] := hD
  obtain rfl : r2 = 5 := hq2
  refine lv_bipush (v := 10) hx hb dX2_weight_11 (by decide) ?_
  refine lv_iload_n hx hb dX2_weight_13 rfl (lv_at hl 3 rfl) ?_
  refine lv_isub hx hb dX2_weight_14 ?_
  refine lv_topi (fun x3 e3 => ?_)
  obtain rfl : x3 = 5 := e3.trans (by decide)
  refine lv_i2l (v := 5) hx hb dX2_weight_15 (by decide) ?_
  refine lv_iload_n hx hb dX2_weight_16 rfl (lv_at hl 2 rfl) ?_
  refine lv_iload_n hx hb dX2_weight_17 rfl (lv_at hl 0 rfl) ?_
  refine lv_isub hx hb dX2_weight_18 ?_
  refine lv_topi (fun x4 e4 => ?_)
  obtain rfl : x4 = 0 := e4.trans (by decide)
  refine mx_l (wr := []) (va_runS (As := [.long 5, .int 0]) (rest := [.long 5]) ⟨hx, hb, hml, hown, hts⟩ (c_X2_power0 l dC dI cI cZ cK tS aK aV 5 H.size) (va_cwS 2 hts (gw_s (fun _ h9 => List.mem_cons_of_mem _ h9) wm_260 wm_261 wm_262 wm_263) rfl rfl rfl (by decide +kernel) ⟨Nat.le_of_ble_eq_true rfl, Nat.le_of_ble_eq_true rfl⟩) (mx_preS hKx hP hD hS hA [] (by decide) rfl) rfl rfl hl.1 rfl (lv_room (Nat.le_of_ble_eq_true rfl)) dX2_weight_19 ⟨Nat.le_of_ble_eq_true rfl, Nat.le_of_ble_eq_true rfl⟩) hP hD hS hA [] [] rfl rfl (by decide) (by decide) (fun r5 u5 H locs hq5 hP hD hS => ?_)
  replace hP : va_P (dC, dI) vwCl [] H := hP
  replace hD : va_D A [] := hD
  obtain rfl : r5 = 1 := hq5
  refine lv_lmul hx hb dX2_weight_22 ?_
  refine lv_topl (fun x6 e6 => ?_)
  obtain rfl : x6 = 5 := e6.trans (by decide)
  have hP9 := mx_subP (wc := []) hP [] rfl
  have hD9 := hD.sub (ws' := []) [] (by decide) rfl
  exact W.lret (v := 5) hx hb hr (fun t ht hW => ⟨⟨5, (), rfl, rfl, by rw [ht]; exact hP9, hD9⟩, hS.F ht⟩) hS.2.2 dX2_weight_23
set_option maxHeartbeats 4000000 in
set_option maxRecDepth 100000 in
theorem c_X2_weight_0_6 (l : Launch) (dC : Nat → ClassId) (dI : Nat → Nat → Nat) (cI cZ cK : ClassId) (tS aK aV : Nat) (sz : Nat) : Cl l yX2_weight (wq yX2_weight cX2_weight 4 (some .long)) ({ frames := 1, cells := 0, slots := 0, locals := 25 }) dC dI cI cZ cK tS aK aV [.int 0, .int 1, .int 6] sz [] (fun (r : Int64) (_ : Unit) => r = 4) (fun _ => []) := by
  refine Met.ofW (cc := cX2_weight) (maxL := 4) (ret := (some .long)) (by decide) rfl ?_
  intro p e s m args below meth c s₁ B hml hv
  obtain ⟨rfl, hsz, hP, hKx, hD0⟩ := hv
  have hx := B.exec
  have hb := B.bytes
  have hr := B.returns
  have hts := atoms_spec (ws := wq yX2_weight cX2_weight 4 (some .long)) B.pre
  have hown : s.vm.findClass RX2 = some m.cls := findClass_of_methodNamed B.named
  have hlocks := B.notSynchronized
  subst hsz
  have hD := hD0.self (sz := s.heap.size)
  generalize hAe : va_A [] s.heap.size = A at hD hKx ⊢
  have hA : ∀ q : Nat, s.heap.size ≤ q → A q := fun q h => by rw [← hAe]; exact Or.inr h
  have hS : va_S A s.heap s.heap [] := va_S.rf
  have hP : va_P (dC, dI) vwCl [] s.heap := hP
  have hl := lv_entry ([.int 0, .int 1, .int 6]) (n := 4) (Nat.le_of_ble_eq_true rfl)
  rw [lg_entry_eq]
  generalize (lg_sl ([.int 0, .int 1, .int 6]) ++ List.replicate (4 - (lg_sl ([.int 0, .int 1, .int 6])).length) Slot.unset).toArray = ls at hl ⊢
  have hl : lv_has ls 4 [(0, .int 0), (1, .int 1), (2, .int 6)] := hl
  have hK := hKx.1
  refine lv_iload_n hx hb dX2_weight_0 rfl (lv_at hl 0 rfl) ?_
  refine mx_i (wr := []) (va_runS (As := [.int 0]) (rest := []) ⟨hx, hb, hml, hown, hts⟩ (c_J6_bitCount_0f7a4_0 l dC dI cI cZ cK tS aK aV  s.heap.size) (va_cwS 1 hts (gw_s (fun _ h9 => List.mem_cons_of_mem _ h9) wm_259 wm_115 wm_116 wm_117) rfl rfl rfl (by decide +kernel) ⟨Nat.le_of_ble_eq_true rfl, Nat.le_of_ble_eq_true rfl⟩) (mx_preS hKx hP hD hS hA [] (by decide) rfl) rfl rfl hl.1 rfl (lv_room (Nat.le_of_ble_eq_true rfl)) dX2_weight_1 ⟨Nat.le_of_ble_eq_true rfl, Nat.le_of_ble_eq_true rfl⟩) hP hD hS hA [] [] rfl rfl (by decide) (by decide) (fun r1 u1 H locs hq1 hP hD hS => ?_)
  replace hP : va_P (dC, dI) vwCl [] H := hP
  replace hD : va_D A [] := hD
  obtain rfl : r1 = 0 := hq1
  refine lv_istore_n (lv' := [(3, .int 0), (0, .int 0), (1, .int 1), (2, .int 6)]) hx hb dX2_weight_4 rfl hl (by decide) rfl (fun ls hl => ?_)
  refine lv_iload_n hx hb dX2_weight_5 rfl (lv_at hl 3 rfl) ?_
  refine lv_i2l (v := 6) hx hb dX2_weight_6 (by decide) ?_
  refine lv_iload_n hx hb dX2_weight_7 rfl (lv_at hl 0 rfl) ?_
  refine mx_l (wr := []) (va_runS (As := [.long 6, .int 0]) (rest := []) ⟨hx, hb, hml, hown, hts⟩ (c_X2_power0 l dC dI cI cZ cK tS aK aV 6 H.size) (va_cwS 2 hts (gw_s (fun _ h9 => List.mem_cons_of_mem _ h9) wm_260 wm_261 wm_262 wm_263) rfl rfl rfl (by decide +kernel) ⟨Nat.le_of_ble_eq_true rfl, Nat.le_of_ble_eq_true rfl⟩) (mx_preS hKx hP hD hS hA [] (by decide) rfl) rfl rfl hl.1 rfl (lv_room (Nat.le_of_ble_eq_true rfl)) dX2_weight_8 ⟨Nat.le_of_ble_eq_true rfl, Nat.le_of_ble_eq_true rfl⟩) hP hD hS hA [] [] rfl rfl (by decide) (by decide) (fun r2 u2 H locs hq2 hP hD hS => ?_)
  replace hP : va_P (dC, dI) vwCl [] H := hP
  replace hD : va_D A [] := hD
  obtain rfl : r2 = 1 := hq2
  refine lv_bipush (v := 10) hx hb dX2_weight_11 (by decide) ?_
  refine lv_iload_n hx hb dX2_weight_13 rfl (lv_at hl 3 rfl) ?_
  refine lv_isub hx hb dX2_weight_14 ?_
  refine lv_topi (fun x3 e3 => ?_)
  obtain rfl : x3 = 4 := e3.trans (by decide)
  refine lv_i2l (v := 4) hx hb dX2_weight_15 (by decide) ?_
  refine lv_iload_n hx hb dX2_weight_16 rfl (lv_at hl 2 rfl) ?_
  refine lv_iload_n hx hb dX2_weight_17 rfl (lv_at hl 0 rfl) ?_
  refine lv_isub hx hb dX2_weight_18 ?_
  refine lv_topi (fun x4 e4 => ?_)
  obtain rfl : x4 = 1 := e4.trans (by decide)
  refine mx_l (wr := []) (va_runS (As := [.long 4, .int 1]) (rest := [.long 1]) ⟨hx, hb, hml, hown, hts⟩ (c_X2_power1 l dC dI cI cZ cK tS aK aV 4 H.size) (va_cwS 2 hts (gw_s (fun _ h9 => List.mem_cons_of_mem _ h9) wm_260 wm_261 wm_262 wm_263) rfl rfl rfl (by decide +kernel) ⟨Nat.le_of_ble_eq_true rfl, Nat.le_of_ble_eq_true rfl⟩) (mx_preS hKx hP hD hS hA [] (by decide) rfl) rfl rfl hl.1 rfl (lv_room (Nat.le_of_ble_eq_true rfl)) dX2_weight_19 ⟨Nat.le_of_ble_eq_true rfl, Nat.le_of_ble_eq_true rfl⟩) hP hD hS hA [] [] rfl rfl (by decide) (by decide) (fun r5 u5 H locs hq5 hP hD hS => ?_)
  replace hP : va_P (dC, dI) vwCl [] H := hP
  replace hD : va_D A [] := hD
  obtain rfl : r5 = 4 := hq5
  refine lv_lmul hx hb dX2_weight_22 ?_
  refine lv_topl (fun x6 e6 => ?_)
  obtain rfl : x6 = 4 := e6.trans (by decide)
  have hP9 := mx_subP (wc := []) hP [] rfl
  have hD9 := hD.sub (ws' := []) [] (by decide) rfl
  exact W.lret (v := 4) hx hb hr (fun t ht hW => ⟨⟨4, (), rfl, rfl, by rw [ht]; exact hP9, hD9⟩, hS.F ht⟩) hS.2.2 dX2_weight_23
set_option maxHeartbeats 4000000 in
set_option maxRecDepth 100000 in
theorem c_X2_weight_1_6 (l : Launch) (dC : Nat → ClassId) (dI : Nat → Nat → Nat) (cI cZ cK : ClassId) (tS aK aV : Nat) (sz : Nat) : Cl l yX2_weight (wq yX2_weight cX2_weight 4 (some .long)) ({ frames := 1, cells := 0, slots := 0, locals := 25 }) dC dI cI cZ cK tS aK aV [.int 1, .int 1, .int 6] sz [] (fun (r : Int64) (_ : Unit) => r = 6) (fun _ => []) := by
  refine Met.ofW (cc := cX2_weight) (maxL := 4) (ret := (some .long)) (by decide) rfl ?_
  intro p e s m args below meth c s₁ B hml hv
  obtain ⟨rfl, hsz, hP, hKx, hD0⟩ := hv
  have hx := B.exec
  have hb := B.bytes
  have hr := B.returns
  have hts := atoms_spec (ws := wq yX2_weight cX2_weight 4 (some .long)) B.pre
  have hown : s.vm.findClass RX2 = some m.cls := findClass_of_methodNamed B.named
  have hlocks := B.notSynchronized
  subst hsz
  have hD := hD0.self (sz := s.heap.size)
  generalize hAe : va_A [] s.heap.size = A at hD hKx ⊢
  have hA : ∀ q : Nat, s.heap.size ≤ q → A q := fun q h => by rw [← hAe]; exact Or.inr h
  have hS : va_S A s.heap s.heap [] := va_S.rf
  have hP : va_P (dC, dI) vwCl [] s.heap := hP
  have hl := lv_entry ([.int 1, .int 1, .int 6]) (n := 4) (Nat.le_of_ble_eq_true rfl)
  rw [lg_entry_eq]
  generalize (lg_sl ([.int 1, .int 1, .int 6]) ++ List.replicate (4 - (lg_sl ([.int 1, .int 1, .int 6])).length) Slot.unset).toArray = ls at hl ⊢
  have hl : lv_has ls 4 [(0, .int 1), (1, .int 1), (2, .int 6)] := hl
  have hK := hKx.1
  refine lv_iload_n hx hb dX2_weight_0 rfl (lv_at hl 0 rfl) ?_
  refine mx_i (wr := []) (va_runS (As := [.int 1]) (rest := []) ⟨hx, hb, hml, hown, hts⟩ (c_J6_bitCount_0f7a4_1 l dC dI cI cZ cK tS aK aV  s.heap.size) (va_cwS 1 hts (gw_s (fun _ h9 => List.mem_cons_of_mem _ h9) wm_259 wm_115 wm_116 wm_117) rfl rfl rfl (by decide +kernel) ⟨Nat.le_of_ble_eq_true rfl, Nat.le_of_ble_eq_true rfl⟩) (mx_preS hKx hP hD hS hA [] (by decide) rfl) rfl rfl hl.1 rfl (lv_room (Nat.le_of_ble_eq_true rfl)) dX2_weight_1 ⟨Nat.le_of_ble_eq_true rfl, Nat.le_of_ble_eq_true rfl⟩) hP hD hS hA [] [] rfl rfl (by decide) (by decide) (fun r1 u1 H locs hq1 hP hD hS => ?_)
  replace hP : va_P (dC, dI) vwCl [] H := hP
  replace hD : va_D A [] := hD
  obtain rfl : r1 = 1 := hq1
  refine lv_istore_n (lv' := [(3, .int 1), (0, .int 1), (1, .int 1), (2, .int 6)]) hx hb dX2_weight_4 rfl hl (by decide) rfl (fun ls hl => ?_)
  refine lv_iload_n hx hb dX2_weight_5 rfl (lv_at hl 3 rfl) ?_
  refine lv_i2l (v := 6) hx hb dX2_weight_6 (by decide) ?_
  refine lv_iload_n hx hb dX2_weight_7 rfl (lv_at hl 0 rfl) ?_
  refine mx_l (wr := []) (va_runS (As := [.long 6, .int 1]) (rest := []) ⟨hx, hb, hml, hown, hts⟩ (c_X2_power1 l dC dI cI cZ cK tS aK aV 6 H.size) (va_cwS 2 hts (gw_s (fun _ h9 => List.mem_cons_of_mem _ h9) wm_260 wm_261 wm_262 wm_263) rfl rfl rfl (by decide +kernel) ⟨Nat.le_of_ble_eq_true rfl, Nat.le_of_ble_eq_true rfl⟩) (mx_preS hKx hP hD hS hA [] (by decide) rfl) rfl rfl hl.1 rfl (lv_room (Nat.le_of_ble_eq_true rfl)) dX2_weight_8 ⟨Nat.le_of_ble_eq_true rfl, Nat.le_of_ble_eq_true rfl⟩) hP hD hS hA [] [] rfl rfl (by decide) (by decide) (fun r2 u2 H locs hq2 hP hD hS => ?_)
  replace hP : va_P (dC, dI) vwCl [] H := hP
  replace hD : va_D A [] := hD
  obtain rfl : r2 = 6 := hq2
  refine lv_bipush (v := 10) hx hb dX2_weight_11 (by decide) ?_
  refine lv_iload_n hx hb dX2_weight_13 rfl (lv_at hl 3 rfl) ?_
  refine lv_isub hx hb dX2_weight_14 ?_
  refine lv_topi (fun x3 e3 => ?_)
  obtain rfl : x3 = 4 := e3.trans (by decide)
  refine lv_i2l (v := 4) hx hb dX2_weight_15 (by decide) ?_
  refine lv_iload_n hx hb dX2_weight_16 rfl (lv_at hl 2 rfl) ?_
  refine lv_iload_n hx hb dX2_weight_17 rfl (lv_at hl 0 rfl) ?_
  refine lv_isub hx hb dX2_weight_18 ?_
  refine lv_topi (fun x4 e4 => ?_)
  obtain rfl : x4 = 0 := e4.trans (by decide)
  refine mx_l (wr := []) (va_runS (As := [.long 4, .int 0]) (rest := [.long 6]) ⟨hx, hb, hml, hown, hts⟩ (c_X2_power0 l dC dI cI cZ cK tS aK aV 4 H.size) (va_cwS 2 hts (gw_s (fun _ h9 => List.mem_cons_of_mem _ h9) wm_260 wm_261 wm_262 wm_263) rfl rfl rfl (by decide +kernel) ⟨Nat.le_of_ble_eq_true rfl, Nat.le_of_ble_eq_true rfl⟩) (mx_preS hKx hP hD hS hA [] (by decide) rfl) rfl rfl hl.1 rfl (lv_room (Nat.le_of_ble_eq_true rfl)) dX2_weight_19 ⟨Nat.le_of_ble_eq_true rfl, Nat.le_of_ble_eq_true rfl⟩) hP hD hS hA [] [] rfl rfl (by decide) (by decide) (fun r5 u5 H locs hq5 hP hD hS => ?_)
  replace hP : va_P (dC, dI) vwCl [] H := hP
  replace hD : va_D A [] := hD
  obtain rfl : r5 = 1 := hq5
  refine lv_lmul hx hb dX2_weight_22 ?_
  refine lv_topl (fun x6 e6 => ?_)
  obtain rfl : x6 = 6 := e6.trans (by decide)
  have hP9 := mx_subP (wc := []) hP [] rfl
  have hD9 := hD.sub (ws' := []) [] (by decide) rfl
  exact W.lret (v := 6) hx hb hr (fun t ht hW => ⟨⟨6, (), rfl, rfl, by rw [ht]; exact hP9, hD9⟩, hS.F ht⟩) hS.2.2 dX2_weight_23
set_option maxHeartbeats 4000000 in
set_option maxRecDepth 100000 in
theorem c_X2_weight_0_7 (l : Launch) (dC : Nat → ClassId) (dI : Nat → Nat → Nat) (cI cZ cK : ClassId) (tS aK aV : Nat) (sz : Nat) : Cl l yX2_weight (wq yX2_weight cX2_weight 4 (some .long)) ({ frames := 1, cells := 0, slots := 0, locals := 25 }) dC dI cI cZ cK tS aK aV [.int 0, .int 1, .int 7] sz [] (fun (r : Int64) (_ : Unit) => r = 3) (fun _ => []) := by
  refine Met.ofW (cc := cX2_weight) (maxL := 4) (ret := (some .long)) (by decide) rfl ?_
  intro p e s m args below meth c s₁ B hml hv
  obtain ⟨rfl, hsz, hP, hKx, hD0⟩ := hv
  have hx := B.exec
  have hb := B.bytes
  have hr := B.returns
  have hts := atoms_spec (ws := wq yX2_weight cX2_weight 4 (some .long)) B.pre
  have hown : s.vm.findClass RX2 = some m.cls := findClass_of_methodNamed B.named
  have hlocks := B.notSynchronized
  subst hsz
  have hD := hD0.self (sz := s.heap.size)
  generalize hAe : va_A [] s.heap.size = A at hD hKx ⊢
  have hA : ∀ q : Nat, s.heap.size ≤ q → A q := fun q h => by rw [← hAe]; exact Or.inr h
  have hS : va_S A s.heap s.heap [] := va_S.rf
  have hP : va_P (dC, dI) vwCl [] s.heap := hP
  have hl := lv_entry ([.int 0, .int 1, .int 7]) (n := 4) (Nat.le_of_ble_eq_true rfl)
  rw [lg_entry_eq]
  generalize (lg_sl ([.int 0, .int 1, .int 7]) ++ List.replicate (4 - (lg_sl ([.int 0, .int 1, .int 7])).length) Slot.unset).toArray = ls at hl ⊢
  have hl : lv_has ls 4 [(0, .int 0), (1, .int 1), (2, .int 7)] := hl
  have hK := hKx.1
  refine lv_iload_n hx hb dX2_weight_0 rfl (lv_at hl 0 rfl) ?_
  refine mx_i (wr := []) (va_runS (As := [.int 0]) (rest := []) ⟨hx, hb, hml, hown, hts⟩ (c_J6_bitCount_0f7a4_0 l dC dI cI cZ cK tS aK aV  s.heap.size) (va_cwS 1 hts (gw_s (fun _ h9 => List.mem_cons_of_mem _ h9) wm_259 wm_115 wm_116 wm_117) rfl rfl rfl (by decide +kernel) ⟨Nat.le_of_ble_eq_true rfl, Nat.le_of_ble_eq_true rfl⟩) (mx_preS hKx hP hD hS hA [] (by decide) rfl) rfl rfl hl.1 rfl (lv_room (Nat.le_of_ble_eq_true rfl)) dX2_weight_1 ⟨Nat.le_of_ble_eq_true rfl, Nat.le_of_ble_eq_true rfl⟩) hP hD hS hA [] [] rfl rfl (by decide) (by decide) (fun r1 u1 H locs hq1 hP hD hS => ?_)
  replace hP : va_P (dC, dI) vwCl [] H := hP
  replace hD : va_D A [] := hD
  obtain rfl : r1 = 0 := hq1
  refine lv_istore_n (lv' := [(3, .int 0), (0, .int 0), (1, .int 1), (2, .int 7)]) hx hb dX2_weight_4 rfl hl (by decide) rfl (fun ls hl => ?_)
  refine lv_iload_n hx hb dX2_weight_5 rfl (lv_at hl 3 rfl) ?_
  refine lv_i2l (v := 7) hx hb dX2_weight_6 (by decide) ?_
  refine lv_iload_n hx hb dX2_weight_7 rfl (lv_at hl 0 rfl) ?_
  refine mx_l (wr := []) (va_runS (As := [.long 7, .int 0]) (rest := []) ⟨hx, hb, hml, hown, hts⟩ (c_X2_power0 l dC dI cI cZ cK tS aK aV 7 H.size) (va_cwS 2 hts (gw_s (fun _ h9 => List.mem_cons_of_mem _ h9) wm_260 wm_261 wm_262 wm_263) rfl rfl rfl (by decide +kernel) ⟨Nat.le_of_ble_eq_true rfl, Nat.le_of_ble_eq_true rfl⟩) (mx_preS hKx hP hD hS hA [] (by decide) rfl) rfl rfl hl.1 rfl (lv_room (Nat.le_of_ble_eq_true rfl)) dX2_weight_8 ⟨Nat.le_of_ble_eq_true rfl, Nat.le_of_ble_eq_true rfl⟩) hP hD hS hA [] [] rfl rfl (by decide) (by decide) (fun r2 u2 H locs hq2 hP hD hS => ?_)
  replace hP : va_P (dC, dI) vwCl [] H := hP
  replace hD : va_D A [] := hD
  obtain rfl : r2 = 1 := hq2
  refine lv_bipush (v := 10) hx hb dX2_weight_11 (by decide) ?_
  refine lv_iload_n hx hb dX2_weight_13 rfl (lv_at hl 3 rfl) ?_
  refine lv_isub hx hb dX2_weight_14 ?_
  refine lv_topi (fun x3 e3 => ?_)
  obtain rfl : x3 = 3 := e3.trans (by decide)
  refine lv_i2l (v := 3) hx hb dX2_weight_15 (by decide) ?_
  refine lv_iload_n hx hb dX2_weight_16 rfl (lv_at hl 2 rfl) ?_
  refine lv_iload_n hx hb dX2_weight_17 rfl (lv_at hl 0 rfl) ?_
  refine lv_isub hx hb dX2_weight_18 ?_
  refine lv_topi (fun x4 e4 => ?_)
  obtain rfl : x4 = 1 := e4.trans (by decide)
  refine mx_l (wr := []) (va_runS (As := [.long 3, .int 1]) (rest := [.long 1]) ⟨hx, hb, hml, hown, hts⟩ (c_X2_power1 l dC dI cI cZ cK tS aK aV 3 H.size) (va_cwS 2 hts (gw_s (fun _ h9 => List.mem_cons_of_mem _ h9) wm_260 wm_261 wm_262 wm_263) rfl rfl rfl (by decide +kernel) ⟨Nat.le_of_ble_eq_true rfl, Nat.le_of_ble_eq_true rfl⟩) (mx_preS hKx hP hD hS hA [] (by decide) rfl) rfl rfl hl.1 rfl (lv_room (Nat.le_of_ble_eq_true rfl)) dX2_weight_19 ⟨Nat.le_of_ble_eq_true rfl, Nat.le_of_ble_eq_true rfl⟩) hP hD hS hA [] [] rfl rfl (by decide) (by decide) (fun r5 u5 H locs hq5 hP hD hS => ?_)
  replace hP : va_P (dC, dI) vwCl [] H := hP
  replace hD : va_D A [] := hD
  obtain rfl : r5 = 3 := hq5
  refine lv_lmul hx hb dX2_weight_22 ?_
  refine lv_topl (fun x6 e6 => ?_)
  obtain rfl : x6 = 3 := e6.trans (by decide)
  have hP9 := mx_subP (wc := []) hP [] rfl
  have hD9 := hD.sub (ws' := []) [] (by decide) rfl
  exact W.lret (v := 3) hx hb hr (fun t ht hW => ⟨⟨3, (), rfl, rfl, by rw [ht]; exact hP9, hD9⟩, hS.F ht⟩) hS.2.2 dX2_weight_23
set_option maxHeartbeats 4000000 in
set_option maxRecDepth 100000 in
theorem c_X2_weight_1_7 (l : Launch) (dC : Nat → ClassId) (dI : Nat → Nat → Nat) (cI cZ cK : ClassId) (tS aK aV : Nat) (sz : Nat) : Cl l yX2_weight (wq yX2_weight cX2_weight 4 (some .long)) ({ frames := 1, cells := 0, slots := 0, locals := 25 }) dC dI cI cZ cK tS aK aV [.int 1, .int 1, .int 7] sz [] (fun (r : Int64) (_ : Unit) => r = 7) (fun _ => []) := by
  refine Met.ofW (cc := cX2_weight) (maxL := 4) (ret := (some .long)) (by decide) rfl ?_
  intro p e s m args below meth c s₁ B hml hv
  obtain ⟨rfl, hsz, hP, hKx, hD0⟩ := hv
  have hx := B.exec
  have hb := B.bytes
  have hr := B.returns
  have hts := atoms_spec (ws := wq yX2_weight cX2_weight 4 (some .long)) B.pre
  have hown : s.vm.findClass RX2 = some m.cls := findClass_of_methodNamed B.named
  have hlocks := B.notSynchronized
  subst hsz
  have hD := hD0.self (sz := s.heap.size)
  generalize hAe : va_A [] s.heap.size = A at hD hKx ⊢
  have hA : ∀ q : Nat, s.heap.size ≤ q → A q := fun q h => by rw [← hAe]; exact Or.inr h
  have hS : va_S A s.heap s.heap [] := va_S.rf
  have hP : va_P (dC, dI) vwCl [] s.heap := hP
  have hl := lv_entry ([.int 1, .int 1, .int 7]) (n := 4) (Nat.le_of_ble_eq_true rfl)
  rw [lg_entry_eq]
  generalize (lg_sl ([.int 1, .int 1, .int 7]) ++ List.replicate (4 - (lg_sl ([.int 1, .int 1, .int 7])).length) Slot.unset).toArray = ls at hl ⊢
  have hl : lv_has ls 4 [(0, .int 1), (1, .int 1), (2, .int 7)] := hl
  have hK := hKx.1
  refine lv_iload_n hx hb dX2_weight_0 rfl (lv_at hl 0 rfl) ?_
  refine mx_i (wr := []) (va_runS (As := [.int 1]) (rest := []) ⟨hx, hb, hml, hown, hts⟩ (c_J6_bitCount_0f7a4_1 l dC dI cI cZ cK tS aK aV  s.heap.size) (va_cwS 1 hts (gw_s (fun _ h9 => List.mem_cons_of_mem _ h9) wm_259 wm_115 wm_116 wm_117) rfl rfl rfl (by decide +kernel) ⟨Nat.le_of_ble_eq_true rfl, Nat.le_of_ble_eq_true rfl⟩) (mx_preS hKx hP hD hS hA [] (by decide) rfl) rfl rfl hl.1 rfl (lv_room (Nat.le_of_ble_eq_true rfl)) dX2_weight_1 ⟨Nat.le_of_ble_eq_true rfl, Nat.le_of_ble_eq_true rfl⟩) hP hD hS hA [] [] rfl rfl (by decide) (by decide) (fun r1 u1 H locs hq1 hP hD hS => ?_)
  replace hP : va_P (dC, dI) vwCl [] H := hP
  replace hD : va_D A [] := hD
  obtain rfl : r1 = 1 := hq1
  refine lv_istore_n (lv' := [(3, .int 1), (0, .int 1), (1, .int 1), (2, .int 7)]) hx hb dX2_weight_4 rfl hl (by decide) rfl (fun ls hl => ?_)
  refine lv_iload_n hx hb dX2_weight_5 rfl (lv_at hl 3 rfl) ?_
  refine lv_i2l (v := 7) hx hb dX2_weight_6 (by decide) ?_
  refine lv_iload_n hx hb dX2_weight_7 rfl (lv_at hl 0 rfl) ?_
  refine mx_l (wr := []) (va_runS (As := [.long 7, .int 1]) (rest := []) ⟨hx, hb, hml, hown, hts⟩ (c_X2_power1 l dC dI cI cZ cK tS aK aV 7 H.size) (va_cwS 2 hts (gw_s (fun _ h9 => List.mem_cons_of_mem _ h9) wm_260 wm_261 wm_262 wm_263) rfl rfl rfl (by decide +kernel) ⟨Nat.le_of_ble_eq_true rfl, Nat.le_of_ble_eq_true rfl⟩) (mx_preS hKx hP hD hS hA [] (by decide) rfl) rfl rfl hl.1 rfl (lv_room (Nat.le_of_ble_eq_true rfl)) dX2_weight_8 ⟨Nat.le_of_ble_eq_true rfl, Nat.le_of_ble_eq_true rfl⟩) hP hD hS hA [] [] rfl rfl (by decide) (by decide) (fun r2 u2 H locs hq2 hP hD hS => ?_)
  replace hP : va_P (dC, dI) vwCl [] H := hP
  replace hD : va_D A [] := hD
  obtain rfl : r2 = 7 := hq2
  refine lv_bipush (v := 10) hx hb dX2_weight_11 (by decide) ?_
  refine lv_iload_n hx hb dX2_weight_13 rfl (lv_at hl 3 rfl) ?_
  refine lv_isub hx hb dX2_weight_14 ?_
  refine lv_topi (fun x3 e3 => ?_)
  obtain rfl : x3 = 3 := e3.trans (by decide)
  refine lv_i2l (v := 3) hx hb dX2_weight_15 (by decide) ?_
  refine lv_iload_n hx hb dX2_weight_16 rfl (lv_at hl 2 rfl) ?_
  refine lv_iload_n hx hb dX2_weight_17 rfl (lv_at hl 0 rfl) ?_
  refine lv_isub hx hb dX2_weight_18 ?_
  refine lv_topi (fun x4 e4 => ?_)
  obtain rfl : x4 = 0 := e4.trans (by decide)
  refine mx_l (wr := []) (va_runS (As := [.long 3, .int 0]) (rest := [.long 7]) ⟨hx, hb, hml, hown, hts⟩ (c_X2_power0 l dC dI cI cZ cK tS aK aV 3 H.size) (va_cwS 2 hts (gw_s (fun _ h9 => List.mem_cons_of_mem _ h9) wm_260 wm_261 wm_262 wm_263) rfl rfl rfl (by decide +kernel) ⟨Nat.le_of_ble_eq_true rfl, Nat.le_of_ble_eq_true rfl⟩) (mx_preS hKx hP hD hS hA [] (by decide) rfl) rfl rfl hl.1 rfl (lv_room (Nat.le_of_ble_eq_true rfl)) dX2_weight_19 ⟨Nat.le_of_ble_eq_true rfl, Nat.le_of_ble_eq_true rfl⟩) hP hD hS hA [] [] rfl rfl (by decide) (by decide) (fun r5 u5 H locs hq5 hP hD hS => ?_)
  replace hP : va_P (dC, dI) vwCl [] H := hP
  replace hD : va_D A [] := hD
  obtain rfl : r5 = 1 := hq5
  refine lv_lmul hx hb dX2_weight_22 ?_
  refine lv_topl (fun x6 e6 => ?_)
  obtain rfl : x6 = 7 := e6.trans (by decide)
  have hP9 := mx_subP (wc := []) hP [] rfl
  have hD9 := hD.sub (ws' := []) [] (by decide) rfl
  exact W.lret (v := 7) hx hb hr (fun t ht hW => ⟨⟨7, (), rfl, rfl, by rw [ht]; exact hP9, hD9⟩, hS.F ht⟩) hS.2.2 dX2_weight_23
set_option maxHeartbeats 4000000 in
set_option maxRecDepth 100000 in
theorem c_X2_weight_0_8 (l : Launch) (dC : Nat → ClassId) (dI : Nat → Nat → Nat) (cI cZ cK : ClassId) (tS aK aV : Nat) (sz : Nat) : Cl l yX2_weight (wq yX2_weight cX2_weight 4 (some .long)) ({ frames := 1, cells := 0, slots := 0, locals := 25 }) dC dI cI cZ cK tS aK aV [.int 0, .int 1, .int 8] sz [] (fun (r : Int64) (_ : Unit) => r = 2) (fun _ => []) := by
  refine Met.ofW (cc := cX2_weight) (maxL := 4) (ret := (some .long)) (by decide) rfl ?_
  intro p e s m args below meth c s₁ B hml hv
  obtain ⟨rfl, hsz, hP, hKx, hD0⟩ := hv
  have hx := B.exec
  have hb := B.bytes
  have hr := B.returns
  have hts := atoms_spec (ws := wq yX2_weight cX2_weight 4 (some .long)) B.pre
  have hown : s.vm.findClass RX2 = some m.cls := findClass_of_methodNamed B.named
  have hlocks := B.notSynchronized
  subst hsz
  have hD := hD0.self (sz := s.heap.size)
  generalize hAe : va_A [] s.heap.size = A at hD hKx ⊢
  have hA : ∀ q : Nat, s.heap.size ≤ q → A q := fun q h => by rw [← hAe]; exact Or.inr h
  have hS : va_S A s.heap s.heap [] := va_S.rf
  have hP : va_P (dC, dI) vwCl [] s.heap := hP
  have hl := lv_entry ([.int 0, .int 1, .int 8]) (n := 4) (Nat.le_of_ble_eq_true rfl)
  rw [lg_entry_eq]
  generalize (lg_sl ([.int 0, .int 1, .int 8]) ++ List.replicate (4 - (lg_sl ([.int 0, .int 1, .int 8])).length) Slot.unset).toArray = ls at hl ⊢
  have hl : lv_has ls 4 [(0, .int 0), (1, .int 1), (2, .int 8)] := hl
  have hK := hKx.1
  refine lv_iload_n hx hb dX2_weight_0 rfl (lv_at hl 0 rfl) ?_
  refine mx_i (wr := []) (va_runS (As := [.int 0]) (rest := []) ⟨hx, hb, hml, hown, hts⟩ (c_J6_bitCount_0f7a4_0 l dC dI cI cZ cK tS aK aV  s.heap.size) (va_cwS 1 hts (gw_s (fun _ h9 => List.mem_cons_of_mem _ h9) wm_259 wm_115 wm_116 wm_117) rfl rfl rfl (by decide +kernel) ⟨Nat.le_of_ble_eq_true rfl, Nat.le_of_ble_eq_true rfl⟩) (mx_preS hKx hP hD hS hA [] (by decide) rfl) rfl rfl hl.1 rfl (lv_room (Nat.le_of_ble_eq_true rfl)) dX2_weight_1 ⟨Nat.le_of_ble_eq_true rfl, Nat.le_of_ble_eq_true rfl⟩) hP hD hS hA [] [] rfl rfl (by decide) (by decide) (fun r1 u1 H locs hq1 hP hD hS => ?_)
  replace hP : va_P (dC, dI) vwCl [] H := hP
  replace hD : va_D A [] := hD
  obtain rfl : r1 = 0 := hq1
  refine lv_istore_n (lv' := [(3, .int 0), (0, .int 0), (1, .int 1), (2, .int 8)]) hx hb dX2_weight_4 rfl hl (by decide) rfl (fun ls hl => ?_)
  refine lv_iload_n hx hb dX2_weight_5 rfl (lv_at hl 3 rfl) ?_
  refine lv_i2l (v := 8) hx hb dX2_weight_6 (by decide) ?_
  refine lv_iload_n hx hb dX2_weight_7 rfl (lv_at hl 0 rfl) ?_
  refine mx_l (wr := []) (va_runS (As := [.long 8, .int 0]) (rest := []) ⟨hx, hb, hml, hown, hts⟩ (c_X2_power0 l dC dI cI cZ cK tS aK aV 8 H.size) (va_cwS 2 hts (gw_s (fun _ h9 => List.mem_cons_of_mem _ h9) wm_260 wm_261 wm_262 wm_263) rfl rfl rfl (by decide +kernel) ⟨Nat.le_of_ble_eq_true rfl, Nat.le_of_ble_eq_true rfl⟩) (mx_preS hKx hP hD hS hA [] (by decide) rfl) rfl rfl hl.1 rfl (lv_room (Nat.le_of_ble_eq_true rfl)) dX2_weight_8 ⟨Nat.le_of_ble_eq_true rfl, Nat.le_of_ble_eq_true rfl⟩) hP hD hS hA [] [] rfl rfl (by decide) (by decide) (fun r2 u2 H locs hq2 hP hD hS => ?_)
  replace hP : va_P (dC, dI) vwCl [] H := hP
  replace hD : va_D A [] := hD
  obtain rfl : r2 = 1 := hq2
  refine lv_bipush (v := 10) hx hb dX2_weight_11 (by decide) ?_
  refine lv_iload_n hx hb dX2_weight_13 rfl (lv_at hl 3 rfl) ?_
  refine lv_isub hx hb dX2_weight_14 ?_
  refine lv_topi (fun x3 e3 => ?_)
  obtain rfl : x3 = 2 := e3.trans (by decide)
  refine lv_i2l (v := 2) hx hb dX2_weight_15 (by decide) ?_
  refine lv_iload_n hx hb dX2_weight_16 rfl (lv_at hl 2 rfl) ?_
  refine lv_iload_n hx hb dX2_weight_17 rfl (lv_at hl 0 rfl) ?_
  refine lv_isub hx hb dX2_weight_18 ?_
  refine lv_topi (fun x4 e4 => ?_)
  obtain rfl : x4 = 1 := e4.trans (by decide)
  refine mx_l (wr := []) (va_runS (As := [.long 2, .int 1]) (rest := [.long 1]) ⟨hx, hb, hml, hown, hts⟩ (c_X2_power1 l dC dI cI cZ cK tS aK aV 2 H.size) (va_cwS 2 hts (gw_s (fun _ h9 => List.mem_cons_of_mem _ h9) wm_260 wm_261 wm_262 wm_263) rfl rfl rfl (by decide +kernel) ⟨Nat.le_of_ble_eq_true rfl, Nat.le_of_ble_eq_true rfl⟩) (mx_preS hKx hP hD hS hA [] (by decide) rfl) rfl rfl hl.1 rfl (lv_room (Nat.le_of_ble_eq_true rfl)) dX2_weight_19 ⟨Nat.le_of_ble_eq_true rfl, Nat.le_of_ble_eq_true rfl⟩) hP hD hS hA [] [] rfl rfl (by decide) (by decide) (fun r5 u5 H locs hq5 hP hD hS => ?_)
  replace hP : va_P (dC, dI) vwCl [] H := hP
  replace hD : va_D A [] := hD
  obtain rfl : r5 = 2 := hq5
  refine lv_lmul hx hb dX2_weight_22 ?_
  refine lv_topl (fun x6 e6 => ?_)
  obtain rfl : x6 = 2 := e6.trans (by decide)
  have hP9 := mx_subP (wc := []) hP [] rfl
  have hD9 := hD.sub (ws' := []) [] (by decide) rfl
  exact W.lret (v := 2) hx hb hr (fun t ht hW => ⟨⟨2, (), rfl, rfl, by rw [ht]; exact hP9, hD9⟩, hS.F ht⟩) hS.2.2 dX2_weight_23
set_option maxHeartbeats 4000000 in
set_option maxRecDepth 100000 in
theorem c_X2_weight_1_8 (l : Launch) (dC : Nat → ClassId) (dI : Nat → Nat → Nat) (cI cZ cK : ClassId) (tS aK aV : Nat) (sz : Nat) : Cl l yX2_weight (wq yX2_weight cX2_weight 4 (some .long)) ({ frames := 1, cells := 0, slots := 0, locals := 25 }) dC dI cI cZ cK tS aK aV [.int 1, .int 1, .int 8] sz [] (fun (r : Int64) (_ : Unit) => r = 8) (fun _ => []) := by
  refine Met.ofW (cc := cX2_weight) (maxL := 4) (ret := (some .long)) (by decide) rfl ?_
  intro p e s m args below meth c s₁ B hml hv
  obtain ⟨rfl, hsz, hP, hKx, hD0⟩ := hv
  have hx := B.exec
  have hb := B.bytes
  have hr := B.returns
  have hts := atoms_spec (ws := wq yX2_weight cX2_weight 4 (some .long)) B.pre
  have hown : s.vm.findClass RX2 = some m.cls := findClass_of_methodNamed B.named
  have hlocks := B.notSynchronized
  subst hsz
  have hD := hD0.self (sz := s.heap.size)
  generalize hAe : va_A [] s.heap.size = A at hD hKx ⊢
  have hA : ∀ q : Nat, s.heap.size ≤ q → A q := fun q h => by rw [← hAe]; exact Or.inr h
  have hS : va_S A s.heap s.heap [] := va_S.rf
  have hP : va_P (dC, dI) vwCl [] s.heap := hP
  have hl := lv_entry ([.int 1, .int 1, .int 8]) (n := 4) (Nat.le_of_ble_eq_true rfl)
  rw [lg_entry_eq]
  generalize (lg_sl ([.int 1, .int 1, .int 8]) ++ List.replicate (4 - (lg_sl ([.int 1, .int 1, .int 8])).length) Slot.unset).toArray = ls at hl ⊢
  have hl : lv_has ls 4 [(0, .int 1), (1, .int 1), (2, .int 8)] := hl
  have hK := hKx.1
  refine lv_iload_n hx hb dX2_weight_0 rfl (lv_at hl 0 rfl) ?_
  refine mx_i (wr := []) (va_runS (As := [.int 1]) (rest := []) ⟨hx, hb, hml, hown, hts⟩ (c_J6_bitCount_0f7a4_1 l dC dI cI cZ cK tS aK aV  s.heap.size) (va_cwS 1 hts (gw_s (fun _ h9 => List.mem_cons_of_mem _ h9) wm_259 wm_115 wm_116 wm_117) rfl rfl rfl (by decide +kernel) ⟨Nat.le_of_ble_eq_true rfl, Nat.le_of_ble_eq_true rfl⟩) (mx_preS hKx hP hD hS hA [] (by decide) rfl) rfl rfl hl.1 rfl (lv_room (Nat.le_of_ble_eq_true rfl)) dX2_weight_1 ⟨Nat.le_of_ble_eq_true rfl, Nat.le_of_ble_eq_true rfl⟩) hP hD hS hA [] [] rfl rfl (by decide) (by decide) (fun r1 u1 H locs hq1 hP hD hS => ?_)
  replace hP : va_P (dC, dI) vwCl [] H := hP
  replace hD : va_D A [] := hD
  obtain rfl : r1 = 1 := hq1
  refine lv_istore_n (lv' := [(3, .int 1), (0, .int 1), (1, .int 1), (2, .int 8)]) hx hb dX2_weight_4 rfl hl (by decide) rfl (fun ls hl => ?_)
  refine lv_iload_n hx hb dX2_weight_5 rfl (lv_at hl 3 rfl) ?_
  refine lv_i2l (v := 8) hx hb dX2_weight_6 (by decide) ?_
  refine lv_iload_n hx hb dX2_weight_7 rfl (lv_at hl 0 rfl) ?_
  refine mx_l (wr := []) (va_runS (As := [.long 8, .int 1]) (rest := []) ⟨hx, hb, hml, hown, hts⟩ (c_X2_power1 l dC dI cI cZ cK tS aK aV 8 H.size) (va_cwS 2 hts (gw_s (fun _ h9 => List.mem_cons_of_mem _ h9) wm_260 wm_261 wm_262 wm_263) rfl rfl rfl (by decide +kernel) ⟨Nat.le_of_ble_eq_true rfl, Nat.le_of_ble_eq_true rfl⟩) (mx_preS hKx hP hD hS hA [] (by decide) rfl) rfl rfl hl.1 rfl (lv_room (Nat.le_of_ble_eq_true rfl)) dX2_weight_8 ⟨Nat.le_of_ble_eq_true rfl, Nat.le_of_ble_eq_true rfl⟩) hP hD hS hA [] [] rfl rfl (by decide) (by decide) (fun r2 u2 H locs hq2 hP hD hS => ?_)
  replace hP : va_P (dC, dI) vwCl [] H := hP
  replace hD : va_D A [] := hD
  obtain rfl : r2 = 8 := hq2
  refine lv_bipush (v := 10) hx hb dX2_weight_11 (by decide) ?_
  refine lv_iload_n hx hb dX2_weight_13 rfl (lv_at hl 3 rfl) ?_
  refine lv_isub hx hb dX2_weight_14 ?_
  refine lv_topi (fun x3 e3 => ?_)
  obtain rfl : x3 = 2 := e3.trans (by decide)
  refine lv_i2l (v := 2) hx hb dX2_weight_15 (by decide) ?_
  refine lv_iload_n hx hb dX2_weight_16 rfl (lv_at hl 2 rfl) ?_
  refine lv_iload_n hx hb dX2_weight_17 rfl (lv_at hl 0 rfl) ?_
  refine lv_isub hx hb dX2_weight_18 ?_
  refine lv_topi (fun x4 e4 => ?_)
  obtain rfl : x4 = 0 := e4.trans (by decide)
  refine mx_l (wr := []) (va_runS (As := [.long 2, .int 0]) (rest := [.long 8]) ⟨hx, hb, hml, hown, hts⟩ (c_X2_power0 l dC dI cI cZ cK tS aK aV 2 H.size) (va_cwS 2 hts (gw_s (fun _ h9 => List.mem_cons_of_mem _ h9) wm_260 wm_261 wm_262 wm_263) rfl rfl rfl (by decide +kernel) ⟨Nat.le_of_ble_eq_true rfl, Nat.le_of_ble_eq_true rfl⟩) (mx_preS hKx hP hD hS hA [] (by decide) rfl) rfl rfl hl.1 rfl (lv_room (Nat.le_of_ble_eq_true rfl)) dX2_weight_19 ⟨Nat.le_of_ble_eq_true rfl, Nat.le_of_ble_eq_true rfl⟩) hP hD hS hA [] [] rfl rfl (by decide) (by decide) (fun r5 u5 H locs hq5 hP hD hS => ?_)
  replace hP : va_P (dC, dI) vwCl [] H := hP
  replace hD : va_D A [] := hD
  obtain rfl : r5 = 1 := hq5
  refine lv_lmul hx hb dX2_weight_22 ?_
  refine lv_topl (fun x6 e6 => ?_)
  obtain rfl : x6 = 8 := e6.trans (by decide)
  have hP9 := mx_subP (wc := []) hP [] rfl
  have hD9 := hD.sub (ws' := []) [] (by decide) rfl
  exact W.lret (v := 8) hx hb hr (fun t ht hW => ⟨⟨8, (), rfl, rfl, by rw [ht]; exact hP9, hD9⟩, hS.F ht⟩) hS.2.2 dX2_weight_23
set_option maxHeartbeats 4000000 in
set_option maxRecDepth 100000 in
theorem c_X2_weight_0_9 (l : Launch) (dC : Nat → ClassId) (dI : Nat → Nat → Nat) (cI cZ cK : ClassId) (tS aK aV : Nat) (sz : Nat) : Cl l yX2_weight (wq yX2_weight cX2_weight 4 (some .long)) ({ frames := 1, cells := 0, slots := 0, locals := 25 }) dC dI cI cZ cK tS aK aV [.int 0, .int 1, .int 9] sz [] (fun (r : Int64) (_ : Unit) => r = 1) (fun _ => []) := by
  refine Met.ofW (cc := cX2_weight) (maxL := 4) (ret := (some .long)) (by decide) rfl ?_
  intro p e s m args below meth c s₁ B hml hv
  obtain ⟨rfl, hsz, hP, hKx, hD0⟩ := hv
  have hx := B.exec
  have hb := B.bytes
  have hr := B.returns
  have hts := atoms_spec (ws := wq yX2_weight cX2_weight 4 (some .long)) B.pre
  have hown : s.vm.findClass RX2 = some m.cls := findClass_of_methodNamed B.named
  have hlocks := B.notSynchronized
  subst hsz
  have hD := hD0.self (sz := s.heap.size)
  generalize hAe : va_A [] s.heap.size = A at hD hKx ⊢
  have hA : ∀ q : Nat, s.heap.size ≤ q → A q := fun q h => by rw [← hAe]; exact Or.inr h
  have hS : va_S A s.heap s.heap [] := va_S.rf
  have hP : va_P (dC, dI) vwCl [] s.heap := hP
  have hl := lv_entry ([.int 0, .int 1, .int 9]) (n := 4) (Nat.le_of_ble_eq_true rfl)
  rw [lg_entry_eq]
  generalize (lg_sl ([.int 0, .int 1, .int 9]) ++ List.replicate (4 - (lg_sl ([.int 0, .int 1, .int 9])).length) Slot.unset).toArray = ls at hl ⊢
  have hl : lv_has ls 4 [(0, .int 0), (1, .int 1), (2, .int 9)] := hl
  have hK := hKx.1
  refine lv_iload_n hx hb dX2_weight_0 rfl (lv_at hl 0 rfl) ?_
  refine mx_i (wr := []) (va_runS (As := [.int 0]) (rest := []) ⟨hx, hb, hml, hown, hts⟩ (c_J6_bitCount_0f7a4_0 l dC dI cI cZ cK tS aK aV  s.heap.size) (va_cwS 1 hts (gw_s (fun _ h9 => List.mem_cons_of_mem _ h9) wm_259 wm_115 wm_116 wm_117) rfl rfl rfl (by decide +kernel) ⟨Nat.le_of_ble_eq_true rfl, Nat.le_of_ble_eq_true rfl⟩) (mx_preS hKx hP hD hS hA [] (by decide) rfl) rfl rfl hl.1 rfl (lv_room (Nat.le_of_ble_eq_true rfl)) dX2_weight_1 ⟨Nat.le_of_ble_eq_true rfl, Nat.le_of_ble_eq_true rfl⟩) hP hD hS hA [] [] rfl rfl (by decide) (by decide) (fun r1 u1 H locs hq1 hP hD hS => ?_)
  replace hP : va_P (dC, dI) vwCl [] H := hP
  replace hD : va_D A [] := hD
  obtain rfl : r1 = 0 := hq1
  refine lv_istore_n (lv' := [(3, .int 0), (0, .int 0), (1, .int 1), (2, .int 9)]) hx hb dX2_weight_4 rfl hl (by decide) rfl (fun ls hl => ?_)
  refine lv_iload_n hx hb dX2_weight_5 rfl (lv_at hl 3 rfl) ?_
  refine lv_i2l (v := 9) hx hb dX2_weight_6 (by decide) ?_
  refine lv_iload_n hx hb dX2_weight_7 rfl (lv_at hl 0 rfl) ?_
  refine mx_l (wr := []) (va_runS (As := [.long 9, .int 0]) (rest := []) ⟨hx, hb, hml, hown, hts⟩ (c_X2_power0 l dC dI cI cZ cK tS aK aV 9 H.size) (va_cwS 2 hts (gw_s (fun _ h9 => List.mem_cons_of_mem _ h9) wm_260 wm_261 wm_262 wm_263) rfl rfl rfl (by decide +kernel) ⟨Nat.le_of_ble_eq_true rfl, Nat.le_of_ble_eq_true rfl⟩) (mx_preS hKx hP hD hS hA [] (by decide) rfl) rfl rfl hl.1 rfl (lv_room (Nat.le_of_ble_eq_true rfl)) dX2_weight_8 ⟨Nat.le_of_ble_eq_true rfl, Nat.le_of_ble_eq_true rfl⟩) hP hD hS hA [] [] rfl rfl (by decide) (by decide) (fun r2 u2 H locs hq2 hP hD hS => ?_)
  replace hP : va_P (dC, dI) vwCl [] H := hP
  replace hD : va_D A [] := hD
  obtain rfl : r2 = 1 := hq2
  refine lv_bipush (v := 10) hx hb dX2_weight_11 (by decide) ?_
  refine lv_iload_n hx hb dX2_weight_13 rfl (lv_at hl 3 rfl) ?_
  refine lv_isub hx hb dX2_weight_14 ?_
  refine lv_topi (fun x3 e3 => ?_)
  obtain rfl : x3 = 1 := e3.trans (by decide)
  refine lv_i2l (v := 1) hx hb dX2_weight_15 (by decide) ?_
  refine lv_iload_n hx hb dX2_weight_16 rfl (lv_at hl 2 rfl) ?_
  refine lv_iload_n hx hb dX2_weight_17 rfl (lv_at hl 0 rfl) ?_
  refine lv_isub hx hb dX2_weight_18 ?_
  refine lv_topi (fun x4 e4 => ?_)
  obtain rfl : x4 = 1 := e4.trans (by decide)
  refine mx_l (wr := []) (va_runS (As := [.long 1, .int 1]) (rest := [.long 1]) ⟨hx, hb, hml, hown, hts⟩ (c_X2_power1 l dC dI cI cZ cK tS aK aV 1 H.size) (va_cwS 2 hts (gw_s (fun _ h9 => List.mem_cons_of_mem _ h9) wm_260 wm_261 wm_262 wm_263) rfl rfl rfl (by decide +kernel) ⟨Nat.le_of_ble_eq_true rfl, Nat.le_of_ble_eq_true rfl⟩) (mx_preS hKx hP hD hS hA [] (by decide) rfl) rfl rfl hl.1 rfl (lv_room (Nat.le_of_ble_eq_true rfl)) dX2_weight_19 ⟨Nat.le_of_ble_eq_true rfl, Nat.le_of_ble_eq_true rfl⟩) hP hD hS hA [] [] rfl rfl (by decide) (by decide) (fun r5 u5 H locs hq5 hP hD hS => ?_)
  replace hP : va_P (dC, dI) vwCl [] H := hP
  replace hD : va_D A [] := hD
  obtain rfl : r5 = 1 := hq5
  refine lv_lmul hx hb dX2_weight_22 ?_
  refine lv_topl (fun x6 e6 => ?_)
  obtain rfl : x6 = 1 := e6.trans (by decide)
  have hP9 := mx_subP (wc := []) hP [] rfl
  have hD9 := hD.sub (ws' := []) [] (by decide) rfl
  exact W.lret (v := 1) hx hb hr (fun t ht hW => ⟨⟨1, (), rfl, rfl, by rw [ht]; exact hP9, hD9⟩, hS.F ht⟩) hS.2.2 dX2_weight_23
set_option maxHeartbeats 4000000 in
set_option maxRecDepth 100000 in
theorem c_X2_weight_1_9 (l : Launch) (dC : Nat → ClassId) (dI : Nat → Nat → Nat) (cI cZ cK : ClassId) (tS aK aV : Nat) (sz : Nat) : Cl l yX2_weight (wq yX2_weight cX2_weight 4 (some .long)) ({ frames := 1, cells := 0, slots := 0, locals := 25 }) dC dI cI cZ cK tS aK aV [.int 1, .int 1, .int 9] sz [] (fun (r : Int64) (_ : Unit) => r = 9) (fun _ => []) := by
  refine Met.ofW (cc := cX2_weight) (maxL := 4) (ret := (some .long)) (by decide) rfl ?_
  intro p e s m args below meth c s₁ B hml hv
  obtain ⟨rfl, hsz, hP, hKx, hD0⟩ := hv
  have hx := B.exec
  have hb := B.bytes
  have hr := B.returns
  have hts := atoms_spec (ws := wq yX2_weight cX2_weight 4 (some .long)) B.pre
  have hown : s.vm.findClass RX2 = some m.cls := findClass_of_methodNamed B.named
  have hlocks := B.notSynchronized
  subst hsz
  have hD := hD0.self (sz := s.heap.size)
  generalize hAe : va_A [] s.heap.size = A at hD hKx ⊢
  have hA : ∀ q : Nat, s.heap.size ≤ q → A q := fun q h => by rw [← hAe]; exact Or.inr h
  have hS : va_S A s.heap s.heap [] := va_S.rf
  have hP : va_P (dC, dI) vwCl [] s.heap := hP
  have hl := lv_entry ([.int 1, .int 1, .int 9]) (n := 4) (Nat.le_of_ble_eq_true rfl)
  rw [lg_entry_eq]
  generalize (lg_sl ([.int 1, .int 1, .int 9]) ++ List.replicate (4 - (lg_sl ([.int 1, .int 1, .int 9])).length) Slot.unset).toArray = ls at hl ⊢
  have hl : lv_has ls 4 [(0, .int 1), (1, .int 1), (2, .int 9)] := hl
  have hK := hKx.1
  refine lv_iload_n hx hb dX2_weight_0 rfl (lv_at hl 0 rfl) ?_
  refine mx_i (wr := []) (va_runS (As := [.int 1]) (rest := []) ⟨hx, hb, hml, hown, hts⟩ (c_J6_bitCount_0f7a4_1 l dC dI cI cZ cK tS aK aV  s.heap.size) (va_cwS 1 hts (gw_s (fun _ h9 => List.mem_cons_of_mem _ h9) wm_259 wm_115 wm_116 wm_117) rfl rfl rfl (by decide +kernel) ⟨Nat.le_of_ble_eq_true rfl, Nat.le_of_ble_eq_true rfl⟩) (mx_preS hKx hP hD hS hA [] (by decide) rfl) rfl rfl hl.1 rfl (lv_room (Nat.le_of_ble_eq_true rfl)) dX2_weight_1 ⟨Nat.le_of_ble_eq_true rfl, Nat.le_of_ble_eq_true rfl⟩) hP hD hS hA [] [] rfl rfl (by decide) (by decide) (fun r1 u1 H locs hq1 hP hD hS => ?_)
  replace hP : va_P (dC, dI) vwCl [] H := hP
  replace hD : va_D A [] := hD
  obtain rfl : r1 = 1 := hq1
  refine lv_istore_n (lv' := [(3, .int 1), (0, .int 1), (1, .int 1), (2, .int 9)]) hx hb dX2_weight_4 rfl hl (by decide) rfl (fun ls hl => ?_)
  refine lv_iload_n hx hb dX2_weight_5 rfl (lv_at hl 3 rfl) ?_
  refine lv_i2l (v := 9) hx hb dX2_weight_6 (by decide) ?_
  refine lv_iload_n hx hb dX2_weight_7 rfl (lv_at hl 0 rfl) ?_
  refine mx_l (wr := []) (va_runS (As := [.long 9, .int 1]) (rest := []) ⟨hx, hb, hml, hown, hts⟩ (c_X2_power1 l dC dI cI cZ cK tS aK aV 9 H.size) (va_cwS 2 hts (gw_s (fun _ h9 => List.mem_cons_of_mem _ h9) wm_260 wm_261 wm_262 wm_263) rfl rfl rfl (by decide +kernel) ⟨Nat.le_of_ble_eq_true rfl, Nat.le_of_ble_eq_true rfl⟩) (mx_preS hKx hP hD hS hA [] (by decide) rfl) rfl rfl hl.1 rfl (lv_room (Nat.le_of_ble_eq_true rfl)) dX2_weight_8 ⟨Nat.le_of_ble_eq_true rfl, Nat.le_of_ble_eq_true rfl⟩) hP hD hS hA [] [] rfl rfl (by decide) (by decide) (fun r2 u2 H locs hq2 hP hD hS => ?_)
  replace hP : va_P (dC, dI) vwCl [] H := hP
  replace hD : va_D A [] := hD
  obtain rfl : r2 = 9 := hq2
  refine lv_bipush (v := 10) hx hb dX2_weight_11 (by decide) ?_
  refine lv_iload_n hx hb dX2_weight_13 rfl (lv_at hl 3 rfl) ?_
  refine lv_isub hx hb dX2_weight_14 ?_
  refine lv_topi (fun x3 e3 => ?_)
  obtain rfl : x3 = 1 := e3.trans (by decide)
  refine lv_i2l (v := 1) hx hb dX2_weight_15 (by decide) ?_
  refine lv_iload_n hx hb dX2_weight_16 rfl (lv_at hl 2 rfl) ?_
  refine lv_iload_n hx hb dX2_weight_17 rfl (lv_at hl 0 rfl) ?_
  refine lv_isub hx hb dX2_weight_18 ?_
  refine lv_topi (fun x4 e4 => ?_)
  obtain rfl : x4 = 0 := e4.trans (by decide)
  refine mx_l (wr := []) (va_runS (As := [.long 1, .int 0]) (rest := [.long 9]) ⟨hx, hb, hml, hown, hts⟩ (c_X2_power0 l dC dI cI cZ cK tS aK aV 1 H.size) (va_cwS 2 hts (gw_s (fun _ h9 => List.mem_cons_of_mem _ h9) wm_260 wm_261 wm_262 wm_263) rfl rfl rfl (by decide +kernel) ⟨Nat.le_of_ble_eq_true rfl, Nat.le_of_ble_eq_true rfl⟩) (mx_preS hKx hP hD hS hA [] (by decide) rfl) rfl rfl hl.1 rfl (lv_room (Nat.le_of_ble_eq_true rfl)) dX2_weight_19 ⟨Nat.le_of_ble_eq_true rfl, Nat.le_of_ble_eq_true rfl⟩) hP hD hS hA [] [] rfl rfl (by decide) (by decide) (fun r5 u5 H locs hq5 hP hD hS => ?_)
  replace hP : va_P (dC, dI) vwCl [] H := hP
  replace hD : va_D A [] := hD
  obtain rfl : r5 = 1 := hq5
  refine lv_lmul hx hb dX2_weight_22 ?_
  refine lv_topl (fun x6 e6 => ?_)
  obtain rfl : x6 = 9 := e6.trans (by decide)
  have hP9 := mx_subP (wc := []) hP [] rfl
  have hD9 := hD.sub (ws' := []) [] (by decide) rfl
  exact W.lret (v := 9) hx hb hr (fun t ht hW => ⟨⟨9, (), rfl, rfl, by rw [ht]; exact hP9, hD9⟩, hS.F ht⟩) hS.2.2 dX2_weight_23
set_option maxHeartbeats 4000000 in
set_option maxRecDepth 100000 in
theorem c_X2_weight_0_10 (l : Launch) (dC : Nat → ClassId) (dI : Nat → Nat → Nat) (cI cZ cK : ClassId) (tS aK aV : Nat) (sz : Nat) : Cl l yX2_weight (wq yX2_weight cX2_weight 4 (some .long)) ({ frames := 1, cells := 0, slots := 0, locals := 25 }) dC dI cI cZ cK tS aK aV [.int 0, .int 1, .int 10] sz [] (fun (r : Int64) (_ : Unit) => r = 0) (fun _ => []) := by
  refine Met.ofW (cc := cX2_weight) (maxL := 4) (ret := (some .long)) (by decide) rfl ?_
  intro p e s m args below meth c s₁ B hml hv
  obtain ⟨rfl, hsz, hP, hKx, hD0⟩ := hv
  have hx := B.exec
  have hb := B.bytes
  have hr := B.returns
  have hts := atoms_spec (ws := wq yX2_weight cX2_weight 4 (some .long)) B.pre
  have hown : s.vm.findClass RX2 = some m.cls := findClass_of_methodNamed B.named
  have hlocks := B.notSynchronized
  subst hsz
  have hD := hD0.self (sz := s.heap.size)
  generalize hAe : va_A [] s.heap.size = A at hD hKx ⊢
  have hA : ∀ q : Nat, s.heap.size ≤ q → A q := fun q h => by rw [← hAe]; exact Or.inr h
  have hS : va_S A s.heap s.heap [] := va_S.rf
  have hP : va_P (dC, dI) vwCl [] s.heap := hP
  have hl := lv_entry ([.int 0, .int 1, .int 10]) (n := 4) (Nat.le_of_ble_eq_true rfl)
  rw [lg_entry_eq]
  generalize (lg_sl ([.int 0, .int 1, .int 10]) ++ List.replicate (4 - (lg_sl ([.int 0, .int 1, .int 10])).length) Slot.unset).toArray = ls at hl ⊢
  have hl : lv_has ls 4 [(0, .int 0), (1, .int 1), (2, .int 10)] := hl
  have hK := hKx.1
  refine lv_iload_n hx hb dX2_weight_0 rfl (lv_at hl 0 rfl) ?_
  refine mx_i (wr := []) (va_runS (As := [.int 0]) (rest := []) ⟨hx, hb, hml, hown, hts⟩ (c_J6_bitCount_0f7a4_0 l dC dI cI cZ cK tS aK aV  s.heap.size) (va_cwS 1 hts (gw_s (fun _ h9 => List.mem_cons_of_mem _ h9) wm_259 wm_115 wm_116 wm_117) rfl rfl rfl (by decide +kernel) ⟨Nat.le_of_ble_eq_true rfl, Nat.le_of_ble_eq_true rfl⟩) (mx_preS hKx hP hD hS hA [] (by decide) rfl) rfl rfl hl.1 rfl (lv_room (Nat.le_of_ble_eq_true rfl)) dX2_weight_1 ⟨Nat.le_of_ble_eq_true rfl, Nat.le_of_ble_eq_true rfl⟩) hP hD hS hA [] [] rfl rfl (by decide) (by decide) (fun r1 u1 H locs hq1 hP hD hS => ?_)
  replace hP : va_P (dC, dI) vwCl [] H := hP
  replace hD : va_D A [] := hD
  obtain rfl : r1 = 0 := hq1
  refine lv_istore_n (lv' := [(3, .int 0), (0, .int 0), (1, .int 1), (2, .int 10)]) hx hb dX2_weight_4 rfl hl (by decide) rfl (fun ls hl => ?_)
  refine lv_iload_n hx hb dX2_weight_5 rfl (lv_at hl 3 rfl) ?_
  refine lv_i2l (v := 10) hx hb dX2_weight_6 (by decide) ?_
  refine lv_iload_n hx hb dX2_weight_7 rfl (lv_at hl 0 rfl) ?_
  refine mx_l (wr := []) (va_runS (As := [.long 10, .int 0]) (rest := []) ⟨hx, hb, hml, hown, hts⟩ (c_X2_power0 l dC dI cI cZ cK tS aK aV 10 H.size) (va_cwS 2 hts (gw_s (fun _ h9 => List.mem_cons_of_mem _ h9) wm_260 wm_261 wm_262 wm_263) rfl rfl rfl (by decide +kernel) ⟨Nat.le_of_ble_eq_true rfl, Nat.le_of_ble_eq_true rfl⟩) (mx_preS hKx hP hD hS hA [] (by decide) rfl) rfl rfl hl.1 rfl (lv_room (Nat.le_of_ble_eq_true rfl)) dX2_weight_8 ⟨Nat.le_of_ble_eq_true rfl, Nat.le_of_ble_eq_true rfl⟩) hP hD hS hA [] [] rfl rfl (by decide) (by decide) (fun r2 u2 H locs hq2 hP hD hS => ?_)
  replace hP : va_P (dC, dI) vwCl [] H := hP
  replace hD : va_D A [] := hD
  obtain rfl : r2 = 1 := hq2
  refine lv_bipush (v := 10) hx hb dX2_weight_11 (by decide) ?_
  refine lv_iload_n hx hb dX2_weight_13 rfl (lv_at hl 3 rfl) ?_
  refine lv_isub hx hb dX2_weight_14 ?_
  refine lv_topi (fun x3 e3 => ?_)
  obtain rfl : x3 = 0 := e3.trans (by decide)
  refine lv_i2l (v := 0) hx hb dX2_weight_15 (by decide) ?_
  refine lv_iload_n hx hb dX2_weight_16 rfl (lv_at hl 2 rfl) ?_
  refine lv_iload_n hx hb dX2_weight_17 rfl (lv_at hl 0 rfl) ?_
  refine lv_isub hx hb dX2_weight_18 ?_
  refine lv_topi (fun x4 e4 => ?_)
  obtain rfl : x4 = 1 := e4.trans (by decide)
  refine mx_l (wr := []) (va_runS (As := [.long 0, .int 1]) (rest := [.long 1]) ⟨hx, hb, hml, hown, hts⟩ (c_X2_power1 l dC dI cI cZ cK tS aK aV 0 H.size) (va_cwS 2 hts (gw_s (fun _ h9 => List.mem_cons_of_mem _ h9) wm_260 wm_261 wm_262 wm_263) rfl rfl rfl (by decide +kernel) ⟨Nat.le_of_ble_eq_true rfl, Nat.le_of_ble_eq_true rfl⟩) (mx_preS hKx hP hD hS hA [] (by decide) rfl) rfl rfl hl.1 rfl (lv_room (Nat.le_of_ble_eq_true rfl)) dX2_weight_19 ⟨Nat.le_of_ble_eq_true rfl, Nat.le_of_ble_eq_true rfl⟩) hP hD hS hA [] [] rfl rfl (by decide) (by decide) (fun r5 u5 H locs hq5 hP hD hS => ?_)
  replace hP : va_P (dC, dI) vwCl [] H := hP
  replace hD : va_D A [] := hD
  obtain rfl : r5 = 0 := hq5
  refine lv_lmul hx hb dX2_weight_22 ?_
  refine lv_topl (fun x6 e6 => ?_)
  obtain rfl : x6 = 0 := e6.trans (by decide)
  have hP9 := mx_subP (wc := []) hP [] rfl
  have hD9 := hD.sub (ws' := []) [] (by decide) rfl
  exact W.lret (v := 0) hx hb hr (fun t ht hW => ⟨⟨0, (), rfl, rfl, by rw [ht]; exact hP9, hD9⟩, hS.F ht⟩) hS.2.2 dX2_weight_23
set_option maxHeartbeats 4000000 in
set_option maxRecDepth 100000 in
theorem c_X2_weight_1_10 (l : Launch) (dC : Nat → ClassId) (dI : Nat → Nat → Nat) (cI cZ cK : ClassId) (tS aK aV : Nat) (sz : Nat) : Cl l yX2_weight (wq yX2_weight cX2_weight 4 (some .long)) ({ frames := 1, cells := 0, slots := 0, locals := 25 }) dC dI cI cZ cK tS aK aV [.int 1, .int 1, .int 10] sz [] (fun (r : Int64) (_ : Unit) => r = 10) (fun _ => []) := by
  refine Met.ofW (cc := cX2_weight) (maxL := 4) (ret := (some .long)) (by decide) rfl ?_
  intro p e s m args below meth c s₁ B hml hv
  obtain ⟨rfl, hsz, hP, hKx, hD0⟩ := hv
  have hx := B.exec
  have hb := B.bytes
  have hr := B.returns
  have hts := atoms_spec (ws := wq yX2_weight cX2_weight 4 (some .long)) B.pre
  have hown : s.vm.findClass RX2 = some m.cls := findClass_of_methodNamed B.named
  have hlocks := B.notSynchronized
  subst hsz
  have hD := hD0.self (sz := s.heap.size)
  generalize hAe : va_A [] s.heap.size = A at hD hKx ⊢
  have hA : ∀ q : Nat, s.heap.size ≤ q → A q := fun q h => by rw [← hAe]; exact Or.inr h
  have hS : va_S A s.heap s.heap [] := va_S.rf
  have hP : va_P (dC, dI) vwCl [] s.heap := hP
  have hl := lv_entry ([.int 1, .int 1, .int 10]) (n := 4) (Nat.le_of_ble_eq_true rfl)
  rw [lg_entry_eq]
  generalize (lg_sl ([.int 1, .int 1, .int 10]) ++ List.replicate (4 - (lg_sl ([.int 1, .int 1, .int 10])).length) Slot.unset).toArray = ls at hl ⊢
  have hl : lv_has ls 4 [(0, .int 1), (1, .int 1), (2, .int 10)] := hl
  have hK := hKx.1
  refine lv_iload_n hx hb dX2_weight_0 rfl (lv_at hl 0 rfl) ?_
  refine mx_i (wr := []) (va_runS (As := [.int 1]) (rest := []) ⟨hx, hb, hml, hown, hts⟩ (c_J6_bitCount_0f7a4_1 l dC dI cI cZ cK tS aK aV  s.heap.size) (va_cwS 1 hts (gw_s (fun _ h9 => List.mem_cons_of_mem _ h9) wm_259 wm_115 wm_116 wm_117) rfl rfl rfl (by decide +kernel) ⟨Nat.le_of_ble_eq_true rfl, Nat.le_of_ble_eq_true rfl⟩) (mx_preS hKx hP hD hS hA [] (by decide) rfl) rfl rfl hl.1 rfl (lv_room (Nat.le_of_ble_eq_true rfl)) dX2_weight_1 ⟨Nat.le_of_ble_eq_true rfl, Nat.le_of_ble_eq_true rfl⟩) hP hD hS hA [] [] rfl rfl (by decide) (by decide) (fun r1 u1 H locs hq1 hP hD hS => ?_)
  replace hP : va_P (dC, dI) vwCl [] H := hP
  replace hD : va_D A [] := hD
  obtain rfl : r1 = 1 := hq1
  refine lv_istore_n (lv' := [(3, .int 1), (0, .int 1), (1, .int 1), (2, .int 10)]) hx hb dX2_weight_4 rfl hl (by decide) rfl (fun ls hl => ?_)
  refine lv_iload_n hx hb dX2_weight_5 rfl (lv_at hl 3 rfl) ?_
  refine lv_i2l (v := 10) hx hb dX2_weight_6 (by decide) ?_
  refine lv_iload_n hx hb dX2_weight_7 rfl (lv_at hl 0 rfl) ?_
  refine mx_l (wr := []) (va_runS (As := [.long 10, .int 1]) (rest := []) ⟨hx, hb, hml, hown, hts⟩ (c_X2_power1 l dC dI cI cZ cK tS aK aV 10 H.size) (va_cwS 2 hts (gw_s (fun _ h9 => List.mem_cons_of_mem _ h9) wm_260 wm_261 wm_262 wm_263) rfl rfl rfl (by decide +kernel) ⟨Nat.le_of_ble_eq_true rfl, Nat.le_of_ble_eq_true rfl⟩) (mx_preS hKx hP hD hS hA [] (by decide) rfl) rfl rfl hl.1 rfl (lv_room (Nat.le_of_ble_eq_true rfl)) dX2_weight_8 ⟨Nat.le_of_ble_eq_true rfl, Nat.le_of_ble_eq_true rfl⟩) hP hD hS hA [] [] rfl rfl (by decide) (by decide) (fun r2 u2 H locs hq2 hP hD hS => ?_)
  replace hP : va_P (dC, dI) vwCl [] H := hP
  replace hD : va_D A [] := hD
  obtain rfl : r2 = 10 := hq2
  refine lv_bipush (v := 10) hx hb dX2_weight_11 (by decide) ?_
  refine lv_iload_n hx hb dX2_weight_13 rfl (lv_at hl 3 rfl) ?_
  refine lv_isub hx hb dX2_weight_14 ?_
  refine lv_topi (fun x3 e3 => ?_)
  obtain rfl : x3 = 0 := e3.trans (by decide)
  refine lv_i2l (v := 0) hx hb dX2_weight_15 (by decide) ?_
  refine lv_iload_n hx hb dX2_weight_16 rfl (lv_at hl 2 rfl) ?_
  refine lv_iload_n hx hb dX2_weight_17 rfl (lv_at hl 0 rfl) ?_
  refine lv_isub hx hb dX2_weight_18 ?_
  refine lv_topi (fun x4 e4 => ?_)
  obtain rfl : x4 = 0 := e4.trans (by decide)
  refine mx_l (wr := []) (va_runS (As := [.long 0, .int 0]) (rest := [.long 10]) ⟨hx, hb, hml, hown, hts⟩ (c_X2_power0 l dC dI cI cZ cK tS aK aV 0 H.size) (va_cwS 2 hts (gw_s (fun _ h9 => List.mem_cons_of_mem _ h9) wm_260 wm_261 wm_262 wm_263) rfl rfl rfl (by decide +kernel) ⟨Nat.le_of_ble_eq_true rfl, Nat.le_of_ble_eq_true rfl⟩) (mx_preS hKx hP hD hS hA [] (by decide) rfl) rfl rfl hl.1 rfl (lv_room (Nat.le_of_ble_eq_true rfl)) dX2_weight_19 ⟨Nat.le_of_ble_eq_true rfl, Nat.le_of_ble_eq_true rfl⟩) hP hD hS hA [] [] rfl rfl (by decide) (by decide) (fun r5 u5 H locs hq5 hP hD hS => ?_)
  replace hP : va_P (dC, dI) vwCl [] H := hP
  replace hD : va_D A [] := hD
  obtain rfl : r5 = 1 := hq5
  refine lv_lmul hx hb dX2_weight_22 ?_
  refine lv_topl (fun x6 e6 => ?_)
  obtain rfl : x6 = 10 := e6.trans (by decide)
  have hP9 := mx_subP (wc := []) hP [] rfl
  have hD9 := hD.sub (ws' := []) [] (by decide) rfl
  exact W.lret (v := 10) hx hb hr (fun t ht hW => ⟨⟨10, (), rfl, rfl, by rw [ht]; exact hP9, hD9⟩, hS.F ht⟩) hS.2.2 dX2_weight_23
set_option maxHeartbeats 4000000 in
set_option maxRecDepth 100000 in
theorem c_X2_reduce_0 (l : Launch) (dC : Nat → ClassId) (dI : Nat → Nat → Nat) (cI cZ cK : ClassId) (tS aK aV : Nat) (g : Nat) (j : Nat) (k : Nat) (d : Nat) (gg : Nat) (sz : Nat) : Cv l yX2_reduce (wq yX2_reduce cX2_reduce 12 none) ({ frames := 0, cells := 0, slots := 0, locals := 0 }) dC dI cI cZ cK tS aK aV [.ref g, .long 0, .long 10] sz [(g, .inr (2, [.ref k, .ref d, .ref j, .ref gg, .long 0, .long 0]))] (fun (u : Unit) => True) (fun _ => [(g, .inr (2, [.ref k, .ref d, .ref j, .ref gg, .long 0, .long 1]))]) := by
  refine Met.ofW (cc := cX2_reduce) (maxL := 12) (ret := none) (by decide) rfl ?_
  intro p e s m args below meth c s₁ B hml hv
  obtain ⟨rfl, hsz, hP, hKx, hD0⟩ := hv
  have hx := B.exec
  have hb := B.bytes
  have hr := B.returns
  have hts := atoms_spec (ws := wq yX2_reduce cX2_reduce 12 none) B.pre
  have hown : s.vm.findClass RX2 = some m.cls := findClass_of_methodNamed B.named
  have hlocks := B.notSynchronized
  subst hsz
  have hD := hD0.self (sz := s.heap.size)
  generalize hAe : va_A [(g, .inr (2, [.ref k, .ref d, .ref j, .ref gg, .long 0, .long 0]))] s.heap.size = A at hD hKx ⊢
  have hA : ∀ q : Nat, s.heap.size ≤ q → A q := fun q h => by rw [← hAe]; exact Or.inr h
  have hS : va_S A s.heap s.heap [] := va_S.rf
  have hP : va_P (dC, dI) vwCl [(g, .inr (2, [.ref k, .ref d, .ref j, .ref gg, .long 0, .long 0]))] s.heap := hP
  have hl := lv_entry ([.ref g, .long 0, .long 10]) (n := 12) (Nat.le_of_ble_eq_true rfl)
  rw [lg_entry_eq]
  generalize (lg_sl ([.ref g, .long 0, .long 10]) ++ List.replicate (12 - (lg_sl ([.ref g, .long 0, .long 10])).length) Slot.unset).toArray = ls at hl ⊢
  have hl : lv_has ls 12 [(0, .ref g), (1, .long 0), (3, .long 10)] := hl
  have hK := hKx.1
  have hin2 := fun w9 h9 => List.mem_cons_of_mem (Cond.code yX2_reduce cX2_reduce 12 none) (inlX2 w9 h9)
  have hw0 := hts (.fieldLink RX2 101 "OneCan$Gusts" "upper" "J") (List.mem_cons_of_mem _ wm_264)
  have hw1 := hts (.fieldLink RX2 105 "OneCan$Gusts" "lower" "J") (List.mem_cons_of_mem _ wm_265)
  refine lv_lload_n hx hb dX2_reduce_0 rfl (lv_at hl 2 rfl) ?_
  refine lv_lstore (lv' := [(5, .long 10), (0, .ref g), (1, .long 0), (3, .long 10)]) hx hb dX2_reduce_1 hl (by decide) rfl (fun ls hl => ?_)
  refine lv_lload_n hx hb dX2_reduce_3 rfl (lv_at hl 2 rfl) ?_
  refine lv_lstore (lv' := [(7, .long 0), (5, .long 10), (0, .ref g), (1, .long 0), (3, .long 10)]) hx hb dX2_reduce_4 hl (by decide) rfl (fun ls hl => ?_)
  refine lv_iconst (v := 0) hx hb dX2_reduce_6 (by decide) ?_
  refine lv_istore (lv' := [(9, .int 0), (7, .long 0), (5, .long 10), (0, .ref g), (1, .long 0), (3, .long 10)]) hx hb dX2_reduce_7 hl (by decide) rfl (fun ls hl => ?_)
  refine lv_iload hx hb dX2_reduce_9 (lv_at hl 0 rfl) ?_
  refine lv_sipush (v := 200) hx hb dX2_reduce_11 (by decide) ?_
  refine lv_icmp_ge (tgt := 45) hx hb dX2_reduce_14 (by decide) (fun c1 => absurd c1 (by decide)) (fun c1 => ?_)
  refine lv_lload hx hb dX2_reduce_17 (lv_at hl 1 rfl) ?_
  refine lv_lconst (v := 0) hx hb dX2_reduce_19 (by decide) ?_
  refine W.lcmp hx hb dX2_reduce_20 ?_
  refine lv_topi (fun x2 e2 => ?_)
  obtain rfl : x2 = 0 := e2.trans (by decide)
  refine lv_if_eq (tgt := 45) hx hb dX2_reduce_21 (by decide) (fun c3 => ?_) (fun c3 => absurd c3 (by decide))
  refine lv_lload hx hb dX2_reduce_45 (lv_at hl 2 rfl) ?_
  refine lv_lconst (v := 0) hx hb dX2_reduce_47 (by decide) ?_
  refine W.lcmp hx hb dX2_reduce_48 ?_
  refine lv_topi (fun x4 e4 => ?_)
  obtain rfl : x4 = 1 := e4.trans (by decide)
  refine lv_if_eq (tgt := 68) hx hb dX2_reduce_49 (by decide) (fun c5 => absurd c5 (by decide)) (fun c5 => ?_)
  refine lv_aload_n hx hb dX2_reduce_52 rfl (lv_at hl 3 rfl) ?_
  refine lv_lload_n hx hb dX2_reduce_53 rfl (lv_at hl 4 rfl) ?_
  refine lv_lload hx hb dX2_reduce_54 (lv_at hl 2 rfl) ?_
  refine lv_ldiv hx hb dX2_reduce_56 (by decide) ?_
  refine lv_topl (fun x6 e6 => ?_)
  obtain rfl : x6 = 0 := e6.trans (by decide)
  refine va_put (D := (dC, dI)) (ci := 2) (v := .long 0) (ty := .long) (C := RX2) (T := TX2) (N := 6) hx hb hts hin2 tyX2 tyX2_ok nmX2 hown hK hP hD hS 0 rfl rfl 4 (by decide) hw0 (fun _ h9 => h9) rfl (by decide +kernel) rfl rfl (Nat.le_of_ble_eq_true rfl) dX2_reduce_57 (fun H locs hP hD hS => ?_)
  replace hP : va_P (dC, dI) vwCl [(g, .inr (2, [.ref k, .ref d, .ref j, .ref gg, .long 0, .long 0]))] H := hP
  replace hD : va_D A [(g, .inr (2, [.ref k, .ref d, .ref j, .ref gg, .long 0, .long 0]))] := hD
  refine lv_aload_n hx hb dX2_reduce_60 rfl (lv_at hl 3 rfl) ?_
  refine lv_lload_n hx hb dX2_reduce_61 rfl (lv_at hl 5 rfl) ?_
  refine lv_lload hx hb dX2_reduce_62 (lv_at hl 2 rfl) ?_
  refine lv_ldiv hx hb dX2_reduce_64 (by decide) ?_
  refine lv_topl (fun x7 e7 => ?_)
  obtain rfl : x7 = 1 := e7.trans (by decide)
  refine va_put (D := (dC, dI)) (ci := 2) (v := .long 1) (ty := .long) (C := RX2) (T := TX2) (N := 6) hx hb hts hin2 tyX2 tyX2_ok nmX2 hown hK hP hD hS 0 rfl rfl 5 (by decide) hw1 (fun _ h9 => h9) rfl (by decide +kernel) rfl rfl (Nat.le_of_ble_eq_true rfl) dX2_reduce_65 (fun H locs hP hD hS => ?_)
  replace hP : va_P (dC, dI) vwCl [(g, .inr (2, [.ref k, .ref d, .ref j, .ref gg, .long 0, .long 1]))] H := hP
  replace hD : va_D A [(g, .inr (2, [.ref k, .ref d, .ref j, .ref gg, .long 0, .long 1]))] := hD
  have hP9 := mx_subP (wc := [(g, .inr (2, [.ref k, .ref d, .ref j, .ref gg, .long 0, .long 1]))]) hP [0] rfl
  have hD9 := hD.sub (ws' := [(g, .inr (2, [.ref k, .ref d, .ref j, .ref gg, .long 0, .long 1]))]) [0] (by decide) rfl
  exact W.vret hx hb hr (fun t ht hW => ⟨⟨(), rfl, trivial, by rw [ht]; exact hP9, hD9⟩, hS.F ht⟩) hS.2.2 dX2_reduce_68
set_option maxHeartbeats 4000000 in
set_option maxRecDepth 100000 in
theorem c_X2_reduce_10 (l : Launch) (dC : Nat → ClassId) (dI : Nat → Nat → Nat) (cI cZ cK : ClassId) (tS aK aV : Nat) (g : Nat) (j : Nat) (k : Nat) (d : Nat) (gg : Nat) (sz : Nat) : Cv l yX2_reduce (wq yX2_reduce cX2_reduce 12 none) ({ frames := 0, cells := 0, slots := 0, locals := 0 }) dC dI cI cZ cK tS aK aV [.ref g, .long 10, .long 10] sz [(g, .inr (2, [.ref k, .ref d, .ref j, .ref gg, .long 0, .long 0]))] (fun (u : Unit) => True) (fun _ => [(g, .inr (2, [.ref k, .ref d, .ref j, .ref gg, .long 1, .long 1]))]) := by
  refine Met.ofW (cc := cX2_reduce) (maxL := 12) (ret := none) (by decide) rfl ?_
  intro p e s m args below meth c s₁ B hml hv
  obtain ⟨rfl, hsz, hP, hKx, hD0⟩ := hv
  have hx := B.exec
  have hb := B.bytes
  have hr := B.returns
  have hts := atoms_spec (ws := wq yX2_reduce cX2_reduce 12 none) B.pre
  have hown : s.vm.findClass RX2 = some m.cls := findClass_of_methodNamed B.named
  have hlocks := B.notSynchronized
  subst hsz
  have hD := hD0.self (sz := s.heap.size)
  generalize hAe : va_A [(g, .inr (2, [.ref k, .ref d, .ref j, .ref gg, .long 0, .long 0]))] s.heap.size = A at hD hKx ⊢
  have hA : ∀ q : Nat, s.heap.size ≤ q → A q := fun q h => by rw [← hAe]; exact Or.inr h
  have hS : va_S A s.heap s.heap [] := va_S.rf
  have hP : va_P (dC, dI) vwCl [(g, .inr (2, [.ref k, .ref d, .ref j, .ref gg, .long 0, .long 0]))] s.heap := hP
  have hl := lv_entry ([.ref g, .long 10, .long 10]) (n := 12) (Nat.le_of_ble_eq_true rfl)
  rw [lg_entry_eq]
  generalize (lg_sl ([.ref g, .long 10, .long 10]) ++ List.replicate (12 - (lg_sl ([.ref g, .long 10, .long 10])).length) Slot.unset).toArray = ls at hl ⊢
  have hl : lv_has ls 12 [(0, .ref g), (1, .long 10), (3, .long 10)] := hl
  have hK := hKx.1
  have hin2 := fun w9 h9 => List.mem_cons_of_mem (Cond.code yX2_reduce cX2_reduce 12 none) (inlX2 w9 h9)
  have hw0 := hts (.fieldLink RX2 101 "OneCan$Gusts" "upper" "J") (List.mem_cons_of_mem _ wm_264)
  have hw1 := hts (.fieldLink RX2 105 "OneCan$Gusts" "lower" "J") (List.mem_cons_of_mem _ wm_265)
  refine lv_lload_n hx hb dX2_reduce_0 rfl (lv_at hl 2 rfl) ?_
  refine lv_lstore (lv' := [(5, .long 10), (0, .ref g), (1, .long 10), (3, .long 10)]) hx hb dX2_reduce_1 hl (by decide) rfl (fun ls hl => ?_)
  refine lv_lload_n hx hb dX2_reduce_3 rfl (lv_at hl 2 rfl) ?_
  refine lv_lstore (lv' := [(7, .long 10), (5, .long 10), (0, .ref g), (1, .long 10), (3, .long 10)]) hx hb dX2_reduce_4 hl (by decide) rfl (fun ls hl => ?_)
  refine lv_iconst (v := 0) hx hb dX2_reduce_6 (by decide) ?_
  refine lv_istore (lv' := [(9, .int 0), (7, .long 10), (5, .long 10), (0, .ref g), (1, .long 10), (3, .long 10)]) hx hb dX2_reduce_7 hl (by decide) rfl (fun ls hl => ?_)
  refine lv_iload hx hb dX2_reduce_9 (lv_at hl 0 rfl) ?_
  refine lv_sipush (v := 200) hx hb dX2_reduce_11 (by decide) ?_
  refine lv_icmp_ge (tgt := 45) hx hb dX2_reduce_14 (by decide) (fun c1 => absurd c1 (by decide)) (fun c1 => ?_)
  refine lv_lload hx hb dX2_reduce_17 (lv_at hl 1 rfl) ?_
  refine lv_lconst (v := 0) hx hb dX2_reduce_19 (by decide) ?_
  refine W.lcmp hx hb dX2_reduce_20 ?_
  refine lv_topi (fun x2 e2 => ?_)
  obtain rfl : x2 = 1 := e2.trans (by decide)
  refine lv_if_eq (tgt := 45) hx hb dX2_reduce_21 (by decide) (fun c3 => absurd c3 (by decide)) (fun c3 => ?_)
  refine lv_lload hx hb dX2_reduce_24 (lv_at hl 2 rfl) ?_
  refine lv_lload hx hb dX2_reduce_26 (lv_at hl 1 rfl) ?_
  refine lv_lrem hx hb dX2_reduce_28 (by decide) ?_
  refine lv_topl (fun x4 e4 => ?_)
  obtain rfl : x4 = 0 := e4.trans (by decide)
  refine lv_lstore (lv' := [(10, .long 0), (9, .int 0), (7, .long 10), (5, .long 10), (0, .ref g), (1, .long 10), (3, .long 10)]) hx hb dX2_reduce_29 hl (by decide) rfl (fun ls hl => ?_)
  refine lv_lload hx hb dX2_reduce_31 (lv_at hl 2 rfl) ?_
  refine lv_lstore (lv' := [(5, .long 10), (10, .long 0), (9, .int 0), (7, .long 10), (0, .ref g), (1, .long 10), (3, .long 10)]) hx hb dX2_reduce_33 hl (by decide) rfl (fun ls hl => ?_)
  refine lv_lload hx hb dX2_reduce_35 (lv_at hl 1 rfl) ?_
  refine lv_lstore (lv' := [(7, .long 0), (5, .long 10), (10, .long 0), (9, .int 0), (0, .ref g), (1, .long 10), (3, .long 10)]) hx hb dX2_reduce_37 hl (by decide) rfl (fun ls hl => ?_)
  refine lv_iinc (v := 1) (lv' := [(9, .int 1), (7, .long 0), (5, .long 10), (10, .long 0), (0, .ref g), (1, .long 10), (3, .long 10)]) hx hb dX2_reduce_39 hl (k := 3) rfl (by decide) (by decide) rfl (fun ls hl => ?_)
  refine lv_goto (tgt := 9) hx hb dX2_reduce_42 (by decide) ?_
  refine lv_iload hx hb dX2_reduce_9 (lv_at hl 0 rfl) ?_
  refine lv_sipush (v := 200) hx hb dX2_reduce_11 (by decide) ?_
  refine lv_icmp_ge (tgt := 45) hx hb dX2_reduce_14 (by decide) (fun c5 => absurd c5 (by decide)) (fun c5 => ?_)
  refine lv_lload hx hb dX2_reduce_17 (lv_at hl 1 rfl) ?_
  refine lv_lconst (v := 0) hx hb dX2_reduce_19 (by decide) ?_
  refine W.lcmp hx hb dX2_reduce_20 ?_
  refine lv_topi (fun x6 e6 => ?_)
  obtain rfl : x6 = 0 := e6.trans (by decide)
  refine lv_if_eq (tgt := 45) hx hb dX2_reduce_21 (by decide) (fun c7 => ?_) (fun c7 => absurd c7 (by decide))
  refine lv_lload hx hb dX2_reduce_45 (lv_at hl 2 rfl) ?_
  refine lv_lconst (v := 0) hx hb dX2_reduce_47 (by decide) ?_
  refine W.lcmp hx hb dX2_reduce_48 ?_
  refine lv_topi (fun x8 e8 => ?_)
  obtain rfl : x8 = 1 := e8.trans (by decide)
  refine lv_if_eq (tgt := 68) hx hb dX2_reduce_49 (by decide) (fun c9 => absurd c9 (by decide)) (fun c9 => ?_)
  refine lv_aload_n hx hb dX2_reduce_52 rfl (lv_at hl 4 rfl) ?_
  refine lv_lload_n hx hb dX2_reduce_53 rfl (lv_at hl 5 rfl) ?_
  refine lv_lload hx hb dX2_reduce_54 (lv_at hl 2 rfl) ?_
  refine lv_ldiv hx hb dX2_reduce_56 (by decide) ?_
  refine lv_topl (fun x10 e10 => ?_)
  obtain rfl : x10 = 1 := e10.trans (by decide)
  refine va_put (D := (dC, dI)) (ci := 2) (v := .long 1) (ty := .long) (C := RX2) (T := TX2) (N := 6) hx hb hts hin2 tyX2 tyX2_ok nmX2 hown hK hP hD hS 0 rfl rfl 4 (by decide) hw0 (fun _ h9 => h9) rfl (by decide +kernel) rfl rfl (Nat.le_of_ble_eq_true rfl) dX2_reduce_57 (fun H locs hP hD hS => ?_)
  replace hP : va_P (dC, dI) vwCl [(g, .inr (2, [.ref k, .ref d, .ref j, .ref gg, .long 1, .long 0]))] H := hP
  replace hD : va_D A [(g, .inr (2, [.ref k, .ref d, .ref j, .ref gg, .long 1, .long 0]))] := hD
  refine lv_aload_n hx hb dX2_reduce_60 rfl (lv_at hl 4 rfl) ?_
  refine lv_lload_n hx hb dX2_reduce_61 rfl (lv_at hl 6 rfl) ?_
  refine lv_lload hx hb dX2_reduce_62 (lv_at hl 2 rfl) ?_
  refine lv_ldiv hx hb dX2_reduce_64 (by decide) ?_
  refine lv_topl (fun x11 e11 => ?_)
  obtain rfl : x11 = 1 := e11.trans (by decide)
  refine va_put (D := (dC, dI)) (ci := 2) (v := .long 1) (ty := .long) (C := RX2) (T := TX2) (N := 6) hx hb hts hin2 tyX2 tyX2_ok nmX2 hown hK hP hD hS 0 rfl rfl 5 (by decide) hw1 (fun _ h9 => h9) rfl (by decide +kernel) rfl rfl (Nat.le_of_ble_eq_true rfl) dX2_reduce_65 (fun H locs hP hD hS => ?_)
  replace hP : va_P (dC, dI) vwCl [(g, .inr (2, [.ref k, .ref d, .ref j, .ref gg, .long 1, .long 1]))] H := hP
  replace hD : va_D A [(g, .inr (2, [.ref k, .ref d, .ref j, .ref gg, .long 1, .long 1]))] := hD
  have hP9 := mx_subP (wc := [(g, .inr (2, [.ref k, .ref d, .ref j, .ref gg, .long 1, .long 1]))]) hP [0] rfl
  have hD9 := hD.sub (ws' := [(g, .inr (2, [.ref k, .ref d, .ref j, .ref gg, .long 1, .long 1]))]) [0] (by decide) rfl
  exact W.vret hx hb hr (fun t ht hW => ⟨⟨(), rfl, trivial, by rw [ht]; exact hP9, hD9⟩, hS.F ht⟩) hS.2.2 dX2_reduce_68
