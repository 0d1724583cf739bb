set_option maxHeartbeats 4000000 in
set_option maxRecDepth 100000 in
theorem c_X7_isIn (l : Launch) (dC : Nat → ClassId) (dI : Nat → Nat → Nat) (cI cZ cK : ClassId) (tS aK aV : Nat) (i0 : Int32) (i1 : Int32) (i2 : Int32) (sz : Nat) : Ci l yX7_isIn (wq yX7_isIn cX7_isIn 3 (some .boolean)) ({ frames := 0, cells := 0, slots := 0, locals := 0 }) dC dI cI cZ cK tS aK aV [.int i0, .int i1, .int i2] sz [] (fun (r : Int32) (_ : Unit) => (r = 1 ∧ (i1.toInt ≤ i0.toInt ∧ i0.toInt ≤ i2.toInt)) ∨ (r = 0 ∧ (i0.toInt < i1.toInt ∨ i2.toInt < i0.toInt))) (fun _ => []) := by
  refine Met.ofW (cc := cX7_isIn) (maxL := 3) (ret := (some .boolean)) (by decide) rfl ?_
  intro p e s m args below meth c s₁ B hml hv
  obtain ⟨rfl, hsz, hP, hKx, hD0⟩ := hv
  have hx := B.exec
  have hb := B.bytes
  have hr := B.returns
  have hts := atoms_spec (ws := wq yX7_isIn cX7_isIn 3 (some .boolean)) B.pre
  have hown : s.vm.findClass RX7 = some m.cls := findClass_of_methodNamed B.named
  have hlocks := B.notSynchronized
  subst hsz
  have hD := hD0.self (sz := s.heap.size)
  generalize hAe : va_A [] s.heap.size = A at hD hKx ⊢
  have hA : ∀ q : Nat, s.heap.size ≤ q → A q := fun q h => by rw [← hAe]; exact Or.inr h
  have hS : va_S A s.heap s.heap [] := va_S.rf
  have hP : va_P (dC, dI) vwCl [] s.heap := hP
  have hl := lv_entry ([.int i0, .int i1, .int i2]) (n := 3) (Nat.le_of_ble_eq_true rfl)
  rw [lg_entry_eq]
  generalize (lg_sl ([.int i0, .int i1, .int i2]) ++ List.replicate (3 - (lg_sl ([.int i0, .int i1, .int i2])).length) Slot.unset).toArray = ls at hl ⊢
  have hl : lv_has ls 3 [(0, .int i0), (1, .int i1), (2, .int i2)] := hl
  have hK := hKx.1
  refine lv_iload_n hx hb dX7_isIn_0 rfl (lv_at hl 0 rfl) ?_
  refine lv_iload_n hx hb dX7_isIn_1 rfl (lv_at hl 1 rfl) ?_
  refine lv_icmp_lt (tgt := 14) hx hb dX7_isIn_2 (by decide) (fun c1 => ?_) (fun c1 => ?_)
  · have t1 : i0.toInt < i1.toInt := (tlt c1)
    refine lv_iconst (v := 0) hx hb dX7_isIn_14 (by decide) ?_
    have hP9 := mx_subP (wc := []) hP [] rfl
    have hD9 := hD.sub (ws' := []) [] (by decide) rfl
    exact W.zret (v := 0) hx hb hr rfl (fun t ht hW => ⟨⟨0, (), rfl, (by first | exact Or.inl (⟨rfl, by omega⟩) | exact Or.inr (⟨rfl, by omega⟩)), by rw [ht]; exact hP9, hD9⟩, hS.F ht⟩) hS.2.2 dX7_isIn_15
  · have t1 : i1.toInt ≤ i0.toInt := (tnlt c1)
    refine lv_iload_n hx hb dX7_isIn_5 rfl (lv_at hl 0 rfl) ?_
    refine lv_iload_n hx hb dX7_isIn_6 rfl (lv_at hl 2 rfl) ?_
    refine lv_icmp_gt (tgt := 14) hx hb dX7_isIn_7 (by decide) (fun c2 => ?_) (fun c2 => ?_)
    · have t2 : i2.toInt < i0.toInt := (tlt c2)
      refine lv_iconst (v := 0) hx hb dX7_isIn_14 (by decide) ?_
      have hP9 := mx_subP (wc := []) hP [] rfl
      have hD9 := hD.sub (ws' := []) [] (by decide) rfl
      exact W.zret (v := 0) hx hb hr rfl (fun t ht hW => ⟨⟨0, (), rfl, (by first | exact Or.inl (⟨rfl, by omega⟩) | exact Or.inr (⟨rfl, by omega⟩)), by rw [ht]; exact hP9, hD9⟩, hS.F ht⟩) hS.2.2 dX7_isIn_15
    · have t2 : i0.toInt ≤ i2.toInt := (tnlt c2)
      refine lv_iconst (v := 1) hx hb dX7_isIn_10 (by decide) ?_
      refine lv_goto (tgt := 15) hx hb dX7_isIn_11 (by decide) ?_
      have hP9 := mx_subP (wc := []) hP [] rfl
      have hD9 := hD.sub (ws' := []) [] (by decide) rfl
      exact W.zret (v := 1) hx hb hr rfl (fun t ht hW => ⟨⟨1, (), rfl, (by first | exact Or.inl (⟨rfl, by omega⟩) | exact Or.inr (⟨rfl, by omega⟩)), by rw [ht]; exact hP9, hD9⟩, hS.F ht⟩) hS.2.2 dX7_isIn_15
set_option maxHeartbeats 4000000 in
set_option maxRecDepth 100000 in
theorem c_X7_isDay (l : Launch) (dC : Nat → ClassId) (dI : Nat → Nat → Nat) (cI cZ cK : ClassId) (tS aK aV : Nat) (i0 : Int32) (sz : Nat) : Ci l yX7_isDay (wq yX7_isDay cX7_isDay 1 (some .boolean)) ({ frames := 1, cells := 0, slots := 0, locals := 22 }) dC dI cI cZ cK tS aK aV [.int i0] sz [] (fun (r : Int32) (_ : Unit) => (r = 1 ∧ (0 ≤ i0.toInt ∧ i0.toInt ≤ 13)) ∨ (r = 0 ∧ (i0.toInt < 0 ∨ 13 < i0.toInt))) (fun _ => []) := by
  refine Met.ofW (cc := cX7_isDay) (maxL := 1) (ret := (some .boolean)) (by decide) rfl ?_
  intro p e s m args below meth c s₁ B hml hv
  obtain ⟨rfl, hsz, hP, hKx, hD0⟩ := hv
  have hx := B.exec
  have hb := B.bytes
  have hr := B.returns
  have hts := atoms_spec (ws := wq yX7_isDay cX7_isDay 1 (some .boolean)) B.pre
  have hown : s.vm.findClass RX7 = some m.cls := findClass_of_methodNamed B.named
  have hlocks := B.notSynchronized
  subst hsz
  have hD := hD0.self (sz := s.heap.size)
  generalize hAe : va_A [] s.heap.size = A at hD hKx ⊢
  have hA : ∀ q : Nat, s.heap.size ≤ q → A q := fun q h => by rw [← hAe]; exact Or.inr h
  have hS : va_S A s.heap s.heap [] := va_S.rf
  have hP : va_P (dC, dI) vwCl [] s.heap := hP
  have hl := lv_entry ([.int i0]) (n := 1) (Nat.le_of_ble_eq_true rfl)
  rw [lg_entry_eq]
  generalize (lg_sl ([.int i0]) ++ List.replicate (1 - (lg_sl ([.int i0])).length) Slot.unset).toArray = ls at hl ⊢
  have hl : lv_has ls 1 [(0, .int i0)] := hl
  have hK := hKx.1
  refine lv_iload_n hx hb dX7_isDay_0 rfl (lv_at hl 0 rfl) ?_
  refine lv_iconst (v := 0) hx hb dX7_isDay_1 (by decide) ?_
  refine lv_bipush (v := 13) hx hb dX7_isDay_2 (by decide) ?_
  refine mx_i (wr := []) (va_runS (As := [.int i0, .int 0, .int 13]) (rest := []) ⟨hx, hb, hml, hown, hts⟩ (c_X7_isIn l dC dI cI cZ cK tS aK aV i0 0 13 s.heap.size) (va_cwS 3 hts (gw_s (fun _ h9 => List.mem_cons_of_mem _ h9) wm_0 wm_1 wm_2 wm_3) rfl rfl rfl (by decide +kernel) ⟨Nat.le_of_ble_eq_true rfl, Nat.le_of_ble_eq_true rfl⟩) (mx_preS hKx hP hD hS hA [] (by decide) rfl) rfl rfl hl.1 rfl (lv_room (Nat.le_of_ble_eq_true rfl)) dX7_isDay_4 ⟨Nat.le_of_ble_eq_true rfl, Nat.le_of_ble_eq_true rfl⟩) hP hD hS hA [] [] rfl rfl (by decide) (by decide) (fun r1 u1 H locs hq1 hP hD hS => ?_)
  replace hP : va_P (dC, dI) vwCl [] H := hP
  replace hD : va_D A [] := hD
  rcases hq1 with ⟨rfl, hf1⟩ | ⟨rfl, hf1⟩
  · have hf1 : (0 : Int) ≤ i0.toInt ∧ i0.toInt ≤ (13 : Int) := hf1
    have hP9 := mx_subP (wc := []) hP [] rfl
    have hD9 := hD.sub (ws' := []) [] (by decide) rfl
    exact W.zret (v := 1) hx hb hr rfl (fun t ht hW => ⟨⟨1, (), rfl, (by first | exact Or.inl (⟨rfl, by omega⟩) | exact Or.inr (⟨rfl, by omega⟩)), by rw [ht]; exact hP9, hD9⟩, hS.F ht⟩) hS.2.2 dX7_isDay_7
  · have hf1 : i0.toInt < (0 : Int) ∨ (13 : Int) < i0.toInt := hf1
    have hP9 := mx_subP (wc := []) hP [] rfl
    have hD9 := hD.sub (ws' := []) [] (by decide) rfl
    exact W.zret (v := 0) hx hb hr rfl (fun t ht hW => ⟨⟨0, (), rfl, (by first | exact Or.inl (⟨rfl, by omega⟩) | exact Or.inr (⟨rfl, by omega⟩)), by rw [ht]; exact hP9, hD9⟩, hS.F ht⟩) hS.2.2 dX7_isDay_7
set_option maxHeartbeats 4000000 in
set_option maxRecDepth 100000 in
theorem c_X0_has (l : Launch) (dC : Nat → ClassId) (dI : Nat → Nat → Nat) (cI cZ cK : ClassId) (tS aK aV : Nat) (k : Nat) (ks : Nat) (kw : Nat) (kc : Nat) (kq : Nat) (km : Nat) (kd : Nat) (ka : Nat) (kk : Nat) (i0 : Int32) (sz : Nat) : Ci l yX0_has (wq yX0_has cX0_has 2 (some .boolean)) ({ frames := 1, cells := 0, slots := 0, locals := 22 }) dC dI cI cZ cK tS aK aV [.ref k, .int i0] sz [(k, .inr (0, [.ref ks, .ref kw, .ref kc, .int (-6), .int 0, .int 0, .ref kq, .ref km, .ref kd, .int 0, .ref ka, .ref kk]))] (fun (r : Int32) (_ : Unit) => r = 0) (fun _ => [(k, .inr (0, [.ref ks, .ref kw, .ref kc, .int (-6), .int 0, .int 0, .ref kq, .ref km, .ref kd, .int 0, .ref ka, .ref kk]))]) := by
  refine Met.ofW (cc := cX0_has) (maxL := 2) (ret := (some .boolean)) (by decide) rfl ?_
  intro p e s m args below meth c s₁ B hml hv
  obtain ⟨rfl, hsz, hP, hKx, hD0⟩ := hv
  have hx := B.exec
  have hb := B.bytes
  have hr := B.returns
  have hts := atoms_spec (ws := wq yX0_has cX0_has 2 (some .boolean)) B.pre
  have hown : s.vm.findClass RX0 = some m.cls := findClass_of_methodNamed B.named
  have hlocks := B.notSynchronized
  subst hsz
  have hD := hD0.self (sz := s.heap.size)
  generalize hAe : va_A [(k, .inr (0, [.ref ks, .ref kw, .ref kc, .int (-6), .int 0, .int 0, .ref kq, .ref km, .ref kd, .int 0, .ref ka, .ref kk]))] s.heap.size = A at hD hKx ⊢
  have hA : ∀ q : Nat, s.heap.size ≤ q → A q := fun q h => by rw [← hAe]; exact Or.inr h
  have hS : va_S A s.heap s.heap [] := va_S.rf
  have hP : va_P (dC, dI) vwCl [(k, .inr (0, [.ref ks, .ref kw, .ref kc, .int (-6), .int 0, .int 0, .ref kq, .ref km, .ref kd, .int 0, .ref ka, .ref kk]))] s.heap := hP
  have hl := lv_entry ([.ref k, .int i0]) (n := 2) (Nat.le_of_ble_eq_true rfl)
  rw [lg_entry_eq]
  generalize (lg_sl ([.ref k, .int i0]) ++ List.replicate (2 - (lg_sl ([.ref k, .int i0])).length) Slot.unset).toArray = ls at hl ⊢
  have hl : lv_has ls 2 [(0, .ref k), (1, .int i0)] := hl
  have hK := hKx.1
  have hin0 := fun w9 h9 => List.mem_cons_of_mem (Cond.code yX0_has cX0_has 2 (some .boolean)) (inlX0 w9 h9)
  have hw0 := hts (.initialized RX7) (List.mem_cons_of_mem _ wm_2)
  have hw1 := hts (.static yX7_isIn) (List.mem_cons_of_mem _ wm_1)
  have hw2 := hts (.fieldLink RX0 50 "OneCan$Camp" "meals" "I") (List.mem_cons_of_mem _ wm_4)
  refine lv_iload_n hx hb dX0_has_0 rfl (lv_at hl 1 rfl) ?_
  refine lv_iconst (v := 0) hx hb dX0_has_1 (by decide) ?_
  refine lv_iconst (v := 5) hx hb dX0_has_2 (by decide) ?_
  refine mx_i (wr := [(k, .inr (0, [.ref ks, .ref kw, .ref kc, .int (-6), .int 0, .int 0, .ref kq, .ref km, .ref kd, .int 0, .ref ka, .ref kk]))]) (va_runSN (As := [.int i0, .int 0, .int 5]) (rest := []) ⟨hx, hb, hml, hown, hts⟩ (c_X7_isIn l dC dI cI cZ cK tS aK aV i0 0 5 s.heap.size) ⟨va_cnB 3 hts (gw_i (fun _ h9 => List.mem_cons_of_mem _ h9) wm_3) rfl rfl rfl hKx.2.1 hw0 (by decide +kernel) ⟨Nat.le_of_ble_eq_true rfl, Nat.le_of_ble_eq_true rfl⟩, hw1, trivial⟩ (mx_preS hKx hP hD hS hA [] (by decide) rfl) rfl rfl hl.1 rfl (lv_room (Nat.le_of_ble_eq_true rfl)) dX0_has_3 ⟨Nat.le_of_ble_eq_true rfl, Nat.le_of_ble_eq_true rfl⟩) hP hD hS hA [] [0] rfl rfl (by decide) (by decide) (fun r1 u1 H locs hq1 hP hD hS => ?_)
  replace hP : va_P (dC, dI) vwCl [(k, .inr (0, [.ref ks, .ref kw, .ref kc, .int (-6), .int 0, .int 0, .ref kq, .ref km, .ref kd, .int 0, .ref ka, .ref kk]))] H := hP
  replace hD : va_D A [(k, .inr (0, [.ref ks, .ref kw, .ref kc, .int (-6), .int 0, .int 0, .ref kq, .ref km, .ref kd, .int 0, .ref ka, .ref kk]))] := hD
  rcases hq1 with ⟨rfl, hf1⟩ | ⟨rfl, hf1⟩
  · have hf1 : (0 : Int) ≤ i0.toInt ∧ i0.toInt ≤ (5 : Int) := hf1
    refine lv_if_eq (tgt := 25) hx hb dX0_has_6 (by decide) (fun c2 => absurd c2 (by decide)) (fun c2 => ?_)
    refine lv_aload_n hx hb dX0_has_9 rfl (lv_at hl 0 rfl) ?_
    refine va_get (D := (dC, dI)) (ci := 0) (v := .int 0) (C := RX0) (T := TX0) (N := 12) hx hb hts hin0 hown hK hP 0 rfl rfl 5 (by decide) hw2 (fun _ h9 => h9) rfl dX0_has_10 ?_
    refine lv_iload_n hx hb dX0_has_13 rfl (lv_at hl 1 rfl) ?_
    refine lv_ishr hx hb dX0_has_14 ?_
    refine lv_topi (fun x3 e3 => ?_)
    obtain rfl : x3 = 0 := e3.trans (by simp)
    refine lv_iconst (v := 1) hx hb dX0_has_15 (by decide) ?_
    refine lv_iand hx hb dX0_has_16 ?_
    refine lv_topi (fun x4 e4 => ?_)
    obtain rfl : x4 = 0 := e4.trans (by decide)
    refine lv_iconst (v := 1) hx hb dX0_has_17 (by decide) ?_
    refine lv_icmp_ne (tgt := 25) hx hb dX0_has_18 (by decide) (fun c5 => ?_) (fun c5 => absurd c5 (by decide))
    refine lv_iconst (v := 0) hx hb dX0_has_25 (by decide) ?_
    have hP9 := mx_subP (wc := [(k, .inr (0, [.ref ks, .ref kw, .ref kc, .int (-6), .int 0, .int 0, .ref kq, .ref km, .ref kd, .int 0, .ref ka, .ref kk]))]) hP [0] rfl
    have hD9 := hD.sub (ws' := [(k, .inr (0, [.ref ks, .ref kw, .ref kc, .int (-6), .int 0, .int 0, .ref kq, .ref km, .ref kd, .int 0, .ref ka, .ref kk]))]) [0] (by decide) rfl
    exact W.zret (v := 0) hx hb hr rfl (fun t ht hW => ⟨⟨0, (), rfl, rfl, by rw [ht]; exact hP9, hD9⟩, hS.F ht⟩) hS.2.2 dX0_has_26
  · have hf1 : i0.toInt < (0 : Int) ∨ (5 : Int) < i0.toInt := hf1
    refine lv_if_eq (tgt := 25) hx hb dX0_has_6 (by decide) (fun c6 => ?_) (fun c6 => absurd c6 (by decide))
    refine lv_iconst (v := 0) hx hb dX0_has_25 (by decide) ?_
    have hP9 := mx_subP (wc := [(k, .inr (0, [.ref ks, .ref kw, .ref kc, .int (-6), .int 0, .int 0, .ref kq, .ref km, .ref kd, .int 0, .ref ka, .ref kk]))]) hP [0] rfl
    have hD9 := hD.sub (ws' := [(k, .inr (0, [.ref ks, .ref kw, .ref kc, .int (-6), .int 0, .int 0, .ref kq, .ref km, .ref kd, .int 0, .ref ka, .ref kk]))]) [0] (by decide) rfl
    exact W.zret (v := 0) hx hb hr rfl (fun t ht hW => ⟨⟨0, (), rfl, rfl, by rw [ht]; exact hP9, hD9⟩, hS.F ht⟩) hS.2.2 dX0_has_26
set_option maxHeartbeats 4000000 in
set_option maxRecDepth 100000 in
theorem c_X0_boilsAt (l : Launch) (dC : Nat → ClassId) (dI : Nat → Nat → Nat) (cI cZ cK : ClassId) (tS aK aV : Nat) (k : Nat) (ks : Nat) (kw : Nat) (kc : Nat) (kq : Nat) (km : Nat) (kd : Nat) (ka : Nat) (kk : Nat) (sz : Nat) : Ci l yX0_boilsAt (wq yX0_boilsAt cX0_boilsAt 1 (some .int)) ({ frames := 0, cells := 0, slots := 0, locals := 0 }) dC dI cI cZ cK tS aK aV [.ref k] sz [(k, .inr (0, [.ref ks, .ref kw, .ref kc, .int (-6), .int 0, .int 0, .ref kq, .ref km, .ref kd, .int 0, .ref ka, .ref kk])), (ks, .inl (cI, 5, .inl (upd (fun _ => 0) 0 800)))] (fun (r : Int32) (_ : Unit) => r = 100) (fun _ => [(k, .inr (0, [.ref ks, .ref kw, .ref kc, .int (-6), .int 0, .int 0, .ref kq, .ref km, .ref kd, .int 0, .ref ka, .ref kk])), (ks, .inl (cI, 5, .inl (upd (fun _ => 0) 0 800)))]) := by
  refine Met.ofW (cc := cX0_boilsAt) (maxL := 1) (ret := (some .int)) (by decide) rfl ?_
  intro p e s m args below meth c s₁ B hml hv
  obtain ⟨rfl, hsz, hP, hKx, hD0⟩ := hv
  have hx := B.exec
  have hb := B.bytes
  have hr := B.returns
  have hts := atoms_spec (ws := wq yX0_boilsAt cX0_boilsAt 1 (some .int)) B.pre
  have hown : s.vm.findClass RX0 = some m.cls := findClass_of_methodNamed B.named
  have hlocks := B.notSynchronized
  subst hsz
  have hD := hD0.self (sz := s.heap.size)
  generalize hAe : va_A [(k, .inr (0, [.ref ks, .ref kw, .ref kc, .int (-6), .int 0, .int 0, .ref kq, .ref km, .ref kd, .int 0, .ref ka, .ref kk])), (ks, .inl (cI, 5, .inl (upd (fun _ => 0) 0 800)))] s.heap.size = A at hD hKx ⊢
  have hA : ∀ q : Nat, s.heap.size ≤ q → A q := fun q h => by rw [← hAe]; exact Or.inr h
  have hS : va_S A s.heap s.heap [] := va_S.rf
  have hP : va_P (dC, dI) vwCl [(k, .inr (0, [.ref ks, .ref kw, .ref kc, .int (-6), .int 0, .int 0, .ref kq, .ref km, .ref kd, .int 0, .ref ka, .ref kk])), (ks, .inl (cI, 5, .inl (upd (fun _ => 0) 0 800)))] s.heap := hP
  have hl := lv_entry ([.ref k]) (n := 1) (Nat.le_of_ble_eq_true rfl)
  rw [lg_entry_eq]
  generalize (lg_sl ([.ref k]) ++ List.replicate (1 - (lg_sl ([.ref k])).length) Slot.unset).toArray = ls at hl ⊢
  have hl : lv_has ls 1 [(0, .ref k)] := hl
  have hK := hKx.1
  have hin0 := fun w9 h9 => List.mem_cons_of_mem (Cond.code yX0_boilsAt cX0_boilsAt 1 (some .int)) (inlX0 w9 h9)
  have hw0 := hts (.fieldLink RX0 9 "OneCan$Camp" "settings" "[I") (List.mem_cons_of_mem _ wm_5)
  refine lv_bipush (v := 100) hx hb dX0_boilsAt_0 (by decide) ?_
  refine lv_aload_n hx hb dX0_boilsAt_2 rfl (lv_at hl 0 rfl) ?_
  refine va_get (D := (dC, dI)) (ci := 0) (v := .ref ks) (C := RX0) (T := TX0) (N := 12) hx hb hts hin0 hown hK hP 0 rfl rfl 0 (by decide) hw0 (fun _ h9 => h9) rfl dX0_boilsAt_3 ?_
  refine lv_iconst (v := 1) hx hb dX0_boilsAt_6 (by decide) ?_
  refine va_iald hx hb hK hP 1 0 rfl rfl (vin (by decide) (by decide)) dX0_boilsAt_7 ?_
  refine lv_topi (fun x1 e1 => ?_)
  obtain rfl : x1 = 0 := e1.trans (by first | rfl | decide)
  refine lv_iconst (v := 3) hx hb dX0_boilsAt_8 (by decide) ?_
  refine lv_idiv hx hb dX0_boilsAt_9 (by decide) ?_
  refine lv_topi (fun x2 e2 => ?_)
  obtain rfl : x2 = 0 := e2.trans (by decide)
  refine lv_isub hx hb dX0_boilsAt_10 ?_
  refine lv_topi (fun x3 e3 => ?_)
  obtain rfl : x3 = 100 := e3.trans (by decide)
  have hP9 := mx_subP (wc := [(k, .inr (0, [.ref ks, .ref kw, .ref kc, .int (-6), .int 0, .int 0, .ref kq, .ref km, .ref kd, .int 0, .ref ka, .ref kk])), (ks, .inl (cI, 5, .inl (upd (fun _ => 0) 0 800)))]) hP [0, 1] rfl
  have hD9 := hD.sub (ws' := [(k, .inr (0, [.ref ks, .ref kw, .ref kc, .int (-6), .int 0, .int 0, .ref kq, .ref km, .ref kd, .int 0, .ref ka, .ref kk])), (ks, .inl (cI, 5, .inl (upd (fun _ => 0) 0 800)))]) [0, 1] (by decide) rfl
  exact W.iret (v := 100) hx hb hr (fun t ht hW => ⟨⟨100, (), rfl, rfl, by rw [ht]; exact hP9, hD9⟩, hS.F ht⟩) hS.2.2 dX0_boilsAt_11
set_option maxHeartbeats 4000000 in
set_option maxRecDepth 100000 in
theorem c_X0_isHot (l : Launch) (dC : Nat → ClassId) (dI : Nat → Nat → Nat) (cI cZ cK : ClassId) (tS aK aV : Nat) (k : Nat) (ks : Nat) (kw : Nat) (kc : Nat) (kq : Nat) (km : Nat) (kd : Nat) (ka : Nat) (kk : Nat) (i0 : Int32) (sz : Nat) (hi0 : 0 ≤ i0.toInt ∧ i0.toInt ≤ 5) : Ci l yX0_isHot (wq yX0_isHot cX0_isHot 2 (some .boolean)) ({ frames := 1, cells := 0, slots := 0, locals := 20 }) dC dI cI cZ cK tS aK aV [.ref k, .int i0] sz [(k, .inr (0, [.ref ks, .ref kw, .ref kc, .int (-6), .int 0, .int 0, .ref kq, .ref km, .ref kd, .int 0, .ref ka, .ref kk])), (ks, .inl (cI, 5, .inl (upd (fun _ => 0) 0 800))), (kd, .inl (cI, 6, .inl (fun _ => 0)))] (fun (r : Int32) (_ : Unit) => r = 1) (fun _ => [(k, .inr (0, [.ref ks, .ref kw, .ref kc, .int (-6), .int 0, .int 0, .ref kq, .ref km, .ref kd, .int 0, .ref ka, .ref kk])), (ks, .inl (cI, 5, .inl (upd (fun _ => 0) 0 800))), (kd, .inl (cI, 6, .inl (fun _ => 0)))]) := by
  refine Met.ofW (cc := cX0_isHot) (maxL := 2) (ret := (some .boolean)) (by decide) rfl ?_
  intro p e s m args below meth c s₁ B hml hv
  obtain ⟨rfl, hsz, hP, hKx, hD0⟩ := hv
  have hx := B.exec
  have hb := B.bytes
  have hr := B.returns
  have hts := atoms_spec (ws := wq yX0_isHot cX0_isHot 2 (some .boolean)) B.pre
  have hown : s.vm.findClass RX0 = some m.cls := findClass_of_methodNamed B.named
  have hlocks := B.notSynchronized
  subst hsz
  have hD := hD0.self (sz := s.heap.size)
  generalize hAe : va_A [(k, .inr (0, [.ref ks, .ref kw, .ref kc, .int (-6), .int 0, .int 0, .ref kq, .ref km, .ref kd, .int 0, .ref ka, .ref kk])), (ks, .inl (cI, 5, .inl (upd (fun _ => 0) 0 800))), (kd, .inl (cI, 6, .inl (fun _ => 0)))] s.heap.size = A at hD hKx ⊢
  have hA : ∀ q : Nat, s.heap.size ≤ q → A q := fun q h => by rw [← hAe]; exact Or.inr h
  have hS : va_S A s.heap s.heap [] := va_S.rf
  have hP : va_P (dC, dI) vwCl [(k, .inr (0, [.ref ks, .ref kw, .ref kc, .int (-6), .int 0, .int 0, .ref kq, .ref km, .ref kd, .int 0, .ref ka, .ref kk])), (ks, .inl (cI, 5, .inl (upd (fun _ => 0) 0 800))), (kd, .inl (cI, 6, .inl (fun _ => 0)))] s.heap := hP
  have hl := lv_entry ([.ref k, .int i0]) (n := 2) (Nat.le_of_ble_eq_true rfl)
  rw [lg_entry_eq]
  generalize (lg_sl ([.ref k, .int i0]) ++ List.replicate (2 - (lg_sl ([.ref k, .int i0])).length) Slot.unset).toArray = ls at hl ⊢
  have hl : lv_has ls 2 [(0, .ref k), (1, .int i0)] := hl
  have hK := hKx.1
  have hin0 := fun w9 h9 => List.mem_cons_of_mem (Cond.code yX0_isHot cX0_isHot 2 (some .boolean)) (inlX0 w9 h9)
  have hw0 := hts (.fieldLink RX0 32 "OneCan$Camp" "degrees" "[I") (List.mem_cons_of_mem _ wm_6)
  refine lv_aload_n hx hb dX0_isHot_0 rfl (lv_at hl 0 rfl) ?_
  refine va_get (D := (dC, dI)) (ci := 0) (v := .ref kd) (C := RX0) (T := TX0) (N := 12) hx hb hts hin0 hown hK hP 0 rfl rfl 8 (by decide) hw0 (fun _ h9 => h9) rfl dX0_isHot_1 ?_
  refine lv_iload_n hx hb dX0_isHot_4 rfl (lv_at hl 1 rfl) ?_
  refine va_iald hx hb hK hP 2 0 rfl rfl (vin (by omega) (by omega)) dX0_isHot_5 ?_
  refine lv_topi (fun x1 e1 => ?_)
  obtain rfl : x1 = 0 := e1.trans rfl
  refine lv_aload_n hx hb dX0_isHot_6 rfl (lv_at hl 0 rfl) ?_
  refine mx_i (wr := [(kd, .inl (cI, 6, .inl (fun _ => 0)))]) (va_runV (As := []) (rest := [.int 0]) ⟨hx, hb, hml, hown, hts⟩ (c_X0_boilsAt l dC dI cI cZ cK tS aK aV k ks kw kc kq km kd ka kk s.heap.size) (cwV 0 hts (gw_v (fun _ h9 => List.mem_cons_of_mem _ h9) wm_7 wm_8 wm_9 wm_10 wm_11) rfl rfl rfl (by decide +kernel) ⟨Nat.le_of_ble_eq_true rfl, Nat.le_of_ble_eq_true rfl⟩) (mx_preV (C := RX0) (T := TX0) (N := 12) (ci := 0) hKx hP hD hS hA [0, 1] (by decide) rfl rfl rfl) rfl rfl hl.1 rfl (lv_room (Nat.le_of_ble_eq_true rfl)) dX0_isHot_7 ⟨Nat.le_of_ble_eq_true rfl, Nat.le_of_ble_eq_true rfl⟩) hP hD hS hA [0, 1] [2] rfl rfl (by decide) (by decide) (fun r2 u2 H locs hq2 hP hD hS => ?_)
  replace hP : va_P (dC, dI) vwCl [(kd, .inl (cI, 6, .inl (fun _ => 0))), (k, .inr (0, [.ref ks, .ref kw, .ref kc, .int (-6), .int 0, .int 0, .ref kq, .ref km, .ref kd, .int 0, .ref ka, .ref kk])), (ks, .inl (cI, 5, .inl (upd (fun _ => 0) 0 800)))] H := hP
  replace hD : va_D A [(kd, .inl (cI, 6, .inl (fun _ => 0))), (k, .inr (0, [.ref ks, .ref kw, .ref kc, .int (-6), .int 0, .int 0, .ref kq, .ref km, .ref kd, .int 0, .ref ka, .ref kk])), (ks, .inl (cI, 5, .inl (upd (fun _ => 0) 0 800)))] := hD
  obtain rfl : r2 = 100 := hq2
  refine lv_icmp_gt (tgt := 17) hx hb dX0_isHot_10 (by decide) (fun c3 => absurd c3 (by decide)) (fun c3 => ?_)
  refine lv_iconst (v := 1) hx hb dX0_isHot_13 (by decide) ?_
  refine lv_goto (tgt := 18) hx hb dX0_isHot_14 (by decide) ?_
  have hP9 := mx_subP (wc := [(k, .inr (0, [.ref ks, .ref kw, .ref kc, .int (-6), .int 0, .int 0, .ref kq, .ref km, .ref kd, .int 0, .ref ka, .ref kk])), (ks, .inl (cI, 5, .inl (upd (fun _ => 0) 0 800))), (kd, .inl (cI, 6, .inl (fun _ => 0)))]) hP [1, 2, 0] rfl
  have hD9 := hD.sub (ws' := [(k, .inr (0, [.ref ks, .ref kw, .ref kc, .int (-6), .int 0, .int 0, .ref kq, .ref km, .ref kd, .int 0, .ref ka, .ref kk])), (ks, .inl (cI, 5, .inl (upd (fun _ => 0) 0 800))), (kd, .inl (cI, 6, .inl (fun _ => 0)))]) [1, 2, 0] (by decide) rfl
  exact W.zret (v := 1) hx hb hr rfl (fun t ht hW => ⟨⟨1, (), rfl, rfl, by rw [ht]; exact hP9, hD9⟩, hS.F ht⟩) hS.2.2 dX0_isHot_18
set_option maxHeartbeats 4000000 in
set_option maxRecDepth 100000 in
theorem c_X0_windOn (l : Launch) (dC : Nat → ClassId) (dI : Nat → Nat → Nat) (cI cZ cK : ClassId) (tS aK aV : Nat) (k : Nat) (ks : Nat) (kw : Nat) (kc : Nat) (kq : Nat) (km : Nat) (kd : Nat) (ka : Nat) (kk : Nat) (i0 : Int32) (sz : Nat) (hi0 : 0 ≤ i0.toInt ∧ i0.toInt ≤ 13) : Ci l yX0_windOn (wq yX0_windOn cX0_windOn 4 (some .int)) ({ frames := 1, cells := 0, slots := 0, locals := 21 }) dC dI cI cZ cK tS aK aV [.ref k, .int i0, .int 0] sz [(k, .inr (0, [.ref ks, .ref kw, .ref kc, .int (-6), .int 0, .int 0, .ref kq, .ref km, .ref kd, .int 0, .ref ka, .ref kk])), (ks, .inl (cI, 5, .inl (upd (fun _ => 0) 0 800))), (kw, .inl (cI, 14, .inl (fun _ => 0)))] (fun (r : Int32) (_ : Unit) => r = 0) (fun _ => [(k, .inr (0, [.ref ks, .ref kw, .ref kc, .int (-6), .int 0, .int 0, .ref kq, .ref km, .ref kd, .int 0, .ref ka, .ref kk])), (ks, .inl (cI, 5, .inl (upd (fun _ => 0) 0 800))), (kw, .inl (cI, 14, .inl (fun _ => 0)))]) := by
  refine Met.ofW (cc := cX0_windOn) (maxL := 4) (ret := (some .int)) (by decide) rfl ?_
  intro p e s m args below meth c s₁ B hml hv
  obtain ⟨rfl, hsz, hP, hKx, hD0⟩ := hv
  have hx := B.exec
  have hb := B.bytes
  have hr := B.returns
  have hts := atoms_spec (ws := wq yX0_windOn cX0_windOn 4 (some .int)) B.pre
  have hown : s.vm.findClass RX0 = some m.cls := findClass_of_methodNamed B.named
  have hlocks := B.notSynchronized
  subst hsz
  have hD := hD0.self (sz := s.heap.size)
  generalize hAe : va_A [(k, .inr (0, [.ref ks, .ref kw, .ref kc, .int (-6), .int 0, .int 0, .ref kq, .ref km, .ref kd, .int 0, .ref ka, .ref kk])), (ks, .inl (cI, 5, .inl (upd (fun _ => 0) 0 800))), (kw, .inl (cI, 14, .inl (fun _ => 0)))] s.heap.size = A at hD hKx ⊢
  have hA : ∀ q : Nat, s.heap.size ≤ q → A q := fun q h => by rw [← hAe]; exact Or.inr h
  have hS : va_S A s.heap s.heap [] := va_S.rf
  have hP : va_P (dC, dI) vwCl [(k, .inr (0, [.ref ks, .ref kw, .ref kc, .int (-6), .int 0, .int 0, .ref kq, .ref km, .ref kd, .int 0, .ref ka, .ref kk])), (ks, .inl (cI, 5, .inl (upd (fun _ => 0) 0 800))), (kw, .inl (cI, 14, .inl (fun _ => 0)))] s.heap := hP
  have hl := lv_entry ([.ref k, .int i0, .int 0]) (n := 4) (Nat.le_of_ble_eq_true rfl)
  rw [lg_entry_eq]
  generalize (lg_sl ([.ref k, .int i0, .int 0]) ++ List.replicate (4 - (lg_sl ([.ref k, .int i0, .int 0])).length) Slot.unset).toArray = ls at hl ⊢
  have hl : lv_has ls 4 [(0, .ref k), (1, .int i0), (2, .int 0)] := hl
  have hK := hKx.1
  have hin0 := fun w9 h9 => List.mem_cons_of_mem (Cond.code yX0_windOn cX0_windOn 4 (some .int)) (inlX0 w9 h9)
  have hw0 := hts (.fieldLink RX0 15 "OneCan$Camp" "winds" "[I") (List.mem_cons_of_mem _ wm_12)
  have hw1 := hts (.methodLink RX0 64 Lib.Math.min.name) (List.mem_cons_of_mem _ wm_13)
  have hw2 := hts (.static Lib.Math.min.name) (List.mem_cons_of_mem _ wm_14)
  have hw3 := hts (.initialized "java/lang/Math") (List.mem_cons_of_mem _ wm_15)
  have hw4 := hts (.code Lib.Math.min.name Lib.Math.min.code 2 (some .int)) (List.mem_cons_of_mem _ wm_16)
  have hw5 := hts (.fieldLink RX0 9 "OneCan$Camp" "settings" "[I") (List.mem_cons_of_mem _ wm_5)
  refine lv_aload_n hx hb dX0_windOn_0 rfl (lv_at hl 0 rfl) ?_
  refine va_get (D := (dC, dI)) (ci := 0) (v := .ref kw) (C := RX0) (T := TX0) (N := 12) hx hb hts hin0 hown hK hP 0 rfl rfl 1 (by decide) hw0 (fun _ h9 => h9) rfl dX0_windOn_1 ?_
  refine lv_iload_n hx hb dX0_windOn_4 rfl (lv_at hl 1 rfl) ?_
  refine va_iald hx hb hK hP 2 0 rfl rfl (vin (by omega) (by omega)) dX0_windOn_5 ?_
  refine lv_topi (fun x1 e1 => ?_)
  obtain rfl : x1 = 0 := e1.trans rfl
  refine lv_iload_n hx hb dX0_windOn_6 rfl (lv_at hl 2 rfl) ?_
  refine lv_iadd hx hb dX0_windOn_7 ?_
  refine lv_topi (fun x2 e2 => ?_)
  obtain rfl : x2 = 0 := e2.trans (by decide)
  refine lv_iconst (v := 4) hx hb dX0_windOn_8 (by decide) ?_
  refine va_mmin hx hb (hml.trans hl.1.symm) hown hw1 hw2 hw3 hw4 (Nat.le_of_ble_eq_true rfl) (Nat.le_of_ble_eq_true rfl) (Nat.le_of_ble_eq_true rfl) (Nat.le_of_ble_eq_true rfl) dX0_windOn_9 ?_
  refine lv_topi (fun x3 e3 => ?_)
  obtain rfl : x3 = 0 := e3.trans (by decide)
  refine lv_istore_n (lv' := [(3, .int 0), (0, .ref k), (1, .int i0), (2, .int 0)]) hx hb dX0_windOn_12 rfl hl (by decide) rfl (fun ls hl => ?_)
  refine lv_aload_n hx hb dX0_windOn_13 rfl (lv_at hl 1 rfl) ?_
  refine va_get (D := (dC, dI)) (ci := 0) (v := .ref ks) (C := RX0) (T := TX0) (N := 12) hx hb hts hin0 hown hK hP 0 rfl rfl 0 (by decide) hw5 (fun _ h9 => h9) rfl dX0_windOn_14 ?_
  refine lv_iconst (v := 3) hx hb dX0_windOn_17 (by decide) ?_
  refine va_iald hx hb hK hP 1 0 rfl rfl (vin (by decide) (by decide)) dX0_windOn_18 ?_
  refine lv_topi (fun x4 e4 => ?_)
  obtain rfl : x4 = 0 := e4.trans (by first | rfl | decide)
  refine lv_iconst (v := 1) hx hb dX0_windOn_19 (by decide) ?_
  refine lv_icmp_ne (tgt := 33) hx hb dX0_windOn_20 (by decide) (fun c5 => ?_) (fun c5 => absurd c5 (by decide))
  refine lv_iload_n hx hb dX0_windOn_33 rfl (lv_at hl 0 rfl) ?_
  have hP9 := mx_subP (wc := [(k, .inr (0, [.ref ks, .ref kw, .ref kc, .int (-6), .int 0, .int 0, .ref kq, .ref km, .ref kd, .int 0, .ref ka, .ref kk])), (ks, .inl (cI, 5, .inl (upd (fun _ => 0) 0 800))), (kw, .inl (cI, 14, .inl (fun _ => 0)))]) hP [0, 1, 2] rfl
  have hD9 := hD.sub (ws' := [(k, .inr (0, [.ref ks, .ref kw, .ref kc, .int (-6), .int 0, .int 0, .ref kq, .ref km, .ref kd, .int 0, .ref ka, .ref kk])), (ks, .inl (cI, 5, .inl (upd (fun _ => 0) 0 800))), (kw, .inl (cI, 14, .inl (fun _ => 0)))]) [0, 1, 2] (by decide) rfl
  exact W.iret (v := 0) hx hb hr (fun t ht hW => ⟨⟨0, (), rfl, rfl, by rw [ht]; exact hP9, hD9⟩, hS.F ht⟩) hS.2.2 dX0_windOn_34
set_option maxHeartbeats 4000000 in
set_option maxRecDepth 100000 in
theorem c_X0_water (l : Launch) (dC : Nat → ClassId) (dI : Nat → Nat → Nat) (cI cZ cK : ClassId) (tS aK aV : Nat) (k : Nat) (ks : Nat) (kw : Nat) (kc : Nat) (kq : Nat) (km : Nat) (kd : Nat) (ka : Nat) (kk : Nat) (i0 : Int32) (sz : Nat) (hi0 : 0 ≤ i0.toInt ∧ i0.toInt ≤ 5) : Ci l yX0_water (wq yX0_water cX0_water 4 (some .int)) ({ frames := 0, cells := 0, slots := 0, locals := 0 }) dC dI cI cZ cK tS aK aV [.ref k, .int i0, .int 0] sz [(k, .inr (0, [.ref ks, .ref kw, .ref kc, .int (-6), .int 0, .int 0, .ref kq, .ref km, .ref kd, .int 0, .ref ka, .ref kk])), (kq, .inl (cI, 6, .inl (fun _ => 0)))] (fun (r : Int32) (_ : Unit) => r = 0) (fun _ => [(k, .inr (0, [.ref ks, .ref kw, .ref kc, .int (-6), .int 0, .int 0, .ref kq, .ref km, .ref kd, .int 0, .ref ka, .ref kk])), (kq, .inl (cI, 6, .inl (fun _ => 0)))]) := by
  refine Met.ofW (cc := cX0_water) (maxL := 4) (ret := (some .int)) (by decide) rfl ?_
  intro p e s m args below meth c s₁ B hml hv
  obtain ⟨rfl, hsz, hP, hKx, hD0⟩ := hv
  have hx := B.exec
  have hb := B.bytes
  have hr := B.returns
  have hts := atoms_spec (ws := wq yX0_water cX0_water 4 (some .int)) B.pre
  have hown : s.vm.findClass RX0 = some m.cls := findClass_of_methodNamed B.named
  have hlocks := B.notSynchronized
  subst hsz
  have hD := hD0.self (sz := s.heap.size)
  generalize hAe : va_A [(k, .inr (0, [.ref ks, .ref kw, .ref kc, .int (-6), .int 0, .int 0, .ref kq, .ref km, .ref kd, .int 0, .ref ka, .ref kk])), (kq, .inl (cI, 6, .inl (fun _ => 0)))] s.heap.size = A at hD hKx ⊢
  have hA : ∀ q : Nat, s.heap.size ≤ q → A q := fun q h => by rw [← hAe]; exact Or.inr h
  have hS : va_S A s.heap s.heap [] := va_S.rf
  have hP : va_P (dC, dI) vwCl [(k, .inr (0, [.ref ks, .ref kw, .ref kc, .int (-6), .int 0, .int 0, .ref kq, .ref km, .ref kd, .int 0, .ref ka, .ref kk])), (kq, .inl (cI, 6, .inl (fun _ => 0)))] s.heap := hP
  have hl := lv_entry ([.ref k, .int i0, .int 0]) (n := 4) (Nat.le_of_ble_eq_true rfl)
  rw [lg_entry_eq]
  generalize (lg_sl ([.ref k, .int i0, .int 0]) ++ List.replicate (4 - (lg_sl ([.ref k, .int i0, .int 0])).length) Slot.unset).toArray = ls at hl ⊢
  have hl : lv_has ls 4 [(0, .ref k), (1, .int i0), (2, .int 0)] := hl
  have hK := hKx.1
  have hin0 := fun w9 h9 => List.mem_cons_of_mem (Cond.code yX0_water cX0_water 4 (some .int)) (inlX0 w9 h9)
  have hw0 := hts (.fieldLink RX0 26 "OneCan$Camp" "quarts" "[I") (List.mem_cons_of_mem _ wm_17)
  refine lv_bipush (v := 11) hx hb dX0_water_0 (by decide) ?_
  refine lv_aload_n hx hb dX0_water_2 rfl (lv_at hl 0 rfl) ?_
  refine va_get (D := (dC, dI)) (ci := 0) (v := .ref kq) (C := RX0) (T := TX0) (N := 12) hx hb hts hin0 hown hK hP 0 rfl rfl 6 (by decide) hw0 (fun _ h9 => h9) rfl dX0_water_3 ?_
  refine lv_iload_n hx hb dX0_water_6 rfl (lv_at hl 1 rfl) ?_
  refine va_iald hx hb hK hP 1 0 rfl rfl (vin (by omega) (by omega)) dX0_water_7 ?_
  refine lv_topi (fun x1 e1 => ?_)
  obtain rfl : x1 = 0 := e1.trans rfl
  refine lv_imul hx hb dX0_water_8 ?_
  refine lv_topi (fun x2 e2 => ?_)
  obtain rfl : x2 = 0 := e2.trans (by decide)
  refine lv_istore_n (lv' := [(3, .int 0), (0, .ref k), (1, .int i0), (2, .int 0)]) hx hb dX0_water_9 rfl hl (by decide) rfl (fun ls hl => ?_)
  refine lv_iload_n hx hb dX0_water_10 rfl (lv_at hl 3 rfl) ?_
  refine lv_iconst (v := 1) hx hb dX0_water_11 (by decide) ?_
  refine lv_iand hx hb dX0_water_12 ?_
  refine lv_topi (fun x3 e3 => ?_)
  obtain rfl : x3 = 0 := e3.trans (by decide)
  refine lv_if_eq (tgt := 22) hx hb dX0_water_13 (by decide) (fun c4 => ?_) (fun c4 => absurd c4 (by decide))
  refine lv_iload_n hx hb dX0_water_22 rfl (lv_at hl 0 rfl) ?_
  have hP9 := mx_subP (wc := [(k, .inr (0, [.ref ks, .ref kw, .ref kc, .int (-6), .int 0, .int 0, .ref kq, .ref km, .ref kd, .int 0, .ref ka, .ref kk])), (kq, .inl (cI, 6, .inl (fun _ => 0)))]) hP [0, 1] rfl
  have hD9 := hD.sub (ws' := [(k, .inr (0, [.ref ks, .ref kw, .ref kc, .int (-6), .int 0, .int 0, .ref kq, .ref km, .ref kd, .int 0, .ref ka, .ref kk])), (kq, .inl (cI, 6, .inl (fun _ => 0)))]) [0, 1] (by decide) rfl
  exact W.iret (v := 0) hx hb hr (fun t ht hW => ⟨⟨0, (), rfl, rfl, by rw [ht]; exact hP9, hD9⟩, hS.F ht⟩) hS.2.2 dX0_water_23
set_option maxHeartbeats 4000000 in
set_option maxRecDepth 100000 in
theorem c_X0_toBoil (l : Launch) (dC : Nat → ClassId) (dI : Nat → Nat → Nat) (cI cZ cK : ClassId) (tS aK aV : Nat) (k : Nat) (ks : Nat) (kw : Nat) (kc : Nat) (kq : Nat) (km : Nat) (kd : Nat) (ka : Nat) (kk : Nat) (i0 : Int32) (sz : Nat) (hi0 : 0 ≤ i0.toInt ∧ i0.toInt ≤ 5) : Ci l yX0_toBoil (wq yX0_toBoil cX0_toBoil 6 (some .int)) ({ frames := 1, cells := 0, slots := 0, locals := 23 }) dC dI cI cZ cK tS aK aV [.ref k, .int i0, .int 0, .int 0] sz [(k, .inr (0, [.ref ks, .ref kw, .ref kc, .int (-6), .int 0, .int 0, .ref kq, .ref km, .ref kd, .int 0, .ref ka, .ref kk])), (kq, .inl (cI, 6, .inl (fun _ => 0))), (km, .inl (cI, 6, .inl (fun _ => 0)))] (fun (r : Int32) (_ : Unit) => r = 0) (fun _ => [(k, .inr (0, [.ref ks, .ref kw, .ref kc, .int (-6), .int 0, .int 0, .ref kq, .ref km, .ref kd, .int 0, .ref ka, .ref kk])), (kq, .inl (cI, 6, .inl (fun _ => 0))), (km, .inl (cI, 6, .inl (fun _ => 0)))]) := by
  refine Met.ofW (cc := cX0_toBoil) (maxL := 6) (ret := (some .int)) (by decide) rfl ?_
  intro p e s m args below meth c s₁ B hml hv
  obtain ⟨rfl, hsz, hP, hKx, hD0⟩ := hv
  have hx := B.exec
  have hb := B.bytes
  have hr := B.returns
  have hts := atoms_spec (ws := wq yX0_toBoil cX0_toBoil 6 (some .int)) B.pre
  have hown : s.vm.findClass RX0 = some m.cls := findClass_of_methodNamed B.named
  have hlocks := B.notSynchronized
  subst hsz
  have hD := hD0.self (sz := s.heap.size)
  generalize hAe : va_A [(k, .inr (0, [.ref ks, .ref kw, .ref kc, .int (-6), .int 0, .int 0, .ref kq, .ref km, .ref kd, .int 0, .ref ka, .ref kk])), (kq, .inl (cI, 6, .inl (fun _ => 0))), (km, .inl (cI, 6, .inl (fun _ => 0)))] s.heap.size = A at hD hKx ⊢
  have hA : ∀ q : Nat, s.heap.size ≤ q → A q := fun q h => by rw [← hAe]; exact Or.inr h
  have hS : va_S A s.heap s.heap [] := va_S.rf
  have hP : va_P (dC, dI) vwCl [(k, .inr (0, [.ref ks, .ref kw, .ref kc, .int (-6), .int 0, .int 0, .ref kq, .ref km, .ref kd, .int 0, .ref ka, .ref kk])), (kq, .inl (cI, 6, .inl (fun _ => 0))), (km, .inl (cI, 6, .inl (fun _ => 0)))] s.heap := hP
  have hl := lv_entry ([.ref k, .int i0, .int 0, .int 0]) (n := 6) (Nat.le_of_ble_eq_true rfl)
  rw [lg_entry_eq]
  generalize (lg_sl ([.ref k, .int i0, .int 0, .int 0]) ++ List.replicate (6 - (lg_sl ([.ref k, .int i0, .int 0, .int 0])).length) Slot.unset).toArray = ls at hl ⊢
  have hl : lv_has ls 6 [(0, .ref k), (1, .int i0), (2, .int 0), (3, .int 0)] := hl
  have hK := hKx.1
  have hin0 := fun w9 h9 => List.mem_cons_of_mem (Cond.code yX0_toBoil cX0_toBoil 6 (some .int)) (inlX0 w9 h9)
  have hw0 := hts (.fieldLink RX0 29 "OneCan$Camp" "minutes" "[I") (List.mem_cons_of_mem _ wm_22)
  refine lv_iconst (v := 4) hx hb dX0_toBoil_0 (by decide) ?_
  refine lv_iload_n hx hb dX0_toBoil_1 rfl (lv_at hl 2 rfl) ?_
  refine lv_iadd hx hb dX0_toBoil_2 ?_
  refine lv_topi (fun x1 e1 => ?_)
  obtain rfl : x1 = 4 := e1.trans (by decide)
  refine lv_istore (lv' := [(4, .int 4), (0, .ref k), (1, .int i0), (2, .int 0), (3, .int 0)]) hx hb dX0_toBoil_3 hl (by decide) rfl (fun ls hl => ?_)
  refine lv_iconst (v := 1) hx hb dX0_toBoil_5 (by decide) ?_
  refine lv_istore (lv' := [(5, .int 1), (4, .int 4), (0, .ref k), (1, .int i0), (2, .int 0), (3, .int 0)]) hx hb dX0_toBoil_6 hl (by decide) rfl (fun ls hl => ?_)
  refine lv_iload_n hx hb dX0_toBoil_8 rfl (lv_at hl 5 rfl) ?_
  refine lv_iconst (v := 2) hx hb dX0_toBoil_9 (by decide) ?_
  refine lv_iand hx hb dX0_toBoil_10 ?_
  refine lv_topi (fun x2 e2 => ?_)
  obtain rfl : x2 = 0 := e2.trans (by decide)
  refine lv_if_eq (tgt := 17) hx hb dX0_toBoil_11 (by decide) (fun c3 => ?_) (fun c3 => absurd c3 (by decide))
  refine lv_iload_n hx hb dX0_toBoil_17 rfl (lv_at hl 5 rfl) ?_
  refine lv_iconst (v := 4) hx hb dX0_toBoil_18 (by decide) ?_
  refine lv_iand hx hb dX0_toBoil_19 ?_
  refine lv_topi (fun x4 e4 => ?_)
  obtain rfl : x4 = 0 := e4.trans (by decide)
  refine lv_if_eq (tgt := 29) hx hb dX0_toBoil_20 (by decide) (fun c5 => ?_) (fun c5 => absurd c5 (by decide))
  refine lv_iload_n hx hb dX0_toBoil_29 rfl (lv_at hl 5 rfl) ?_
  refine lv_bipush (v := 8) hx hb dX0_toBoil_30 (by decide) ?_
  refine lv_iand hx hb dX0_toBoil_32 ?_
  refine lv_topi (fun x6 e6 => ?_)
  obtain rfl : x6 = 0 := e6.trans (by decide)
  refine lv_if_eq (tgt := 39) hx hb dX0_toBoil_33 (by decide) (fun c7 => ?_) (fun c7 => absurd c7 (by decide))
  refine lv_aload_n hx hb dX0_toBoil_39 rfl (lv_at hl 2 rfl) ?_
  refine lv_iload_n hx hb dX0_toBoil_40 rfl (lv_at hl 3 rfl) ?_
  refine lv_iload_n hx hb dX0_toBoil_41 rfl (lv_at hl 5 rfl) ?_
  refine mx_i (wr := [(km, .inl (cI, 6, .inl (fun _ => 0)))]) (va_runV (As := [.int i0, .int 0]) (rest := []) ⟨hx, hb, hml, hown, hts⟩ (c_X0_water l dC dI cI cZ cK tS aK aV k ks kw kc kq km kd ka kk i0 s.heap.size (by first | omega | decide | assumption | trivial)) (cwV 2 hts (gw_v (fun _ h9 => List.mem_cons_of_mem _ h9) wm_18 wm_19 wm_20 wm_10 wm_21) rfl rfl rfl (by decide +kernel) ⟨Nat.le_of_ble_eq_true rfl, Nat.le_of_ble_eq_true rfl⟩) (mx_preV (C := RX0) (T := TX0) (N := 12) (ci := 0) hKx hP hD hS hA [0, 1] (by decide) rfl rfl rfl) rfl rfl hl.1 rfl (lv_room (Nat.le_of_ble_eq_true rfl)) dX0_toBoil_42 ⟨Nat.le_of_ble_eq_true rfl, Nat.le_of_ble_eq_true rfl⟩) hP hD hS hA [0, 1] [2] rfl rfl (by decide) (by decide) (fun r8 u8 H locs hq8 hP hD hS => ?_)
  replace hP : va_P (dC, dI) vwCl [(km, .inl (cI, 6, .inl (fun _ => 0))), (k, .inr (0, [.ref ks, .ref kw, .ref kc, .int (-6), .int 0, .int 0, .ref kq, .ref km, .ref kd, .int 0, .ref ka, .ref kk])), (kq, .inl (cI, 6, .inl (fun _ => 0)))] H := hP
  replace hD : va_D A [(km, .inl (cI, 6, .inl (fun _ => 0))), (k, .inr (0, [.ref ks, .ref kw, .ref kc, .int (-6), .int 0, .int 0, .ref kq, .ref km, .ref kd, .int 0, .ref ka, .ref kk])), (kq, .inl (cI, 6, .inl (fun _ => 0)))] := hD
  obtain rfl : r8 = 0 := hq8
  refine lv_iload hx hb dX0_toBoil_45 (lv_at hl 1 rfl) ?_
  refine lv_imul hx hb dX0_toBoil_47 ?_
  refine lv_topi (fun x9 e9 => ?_)
  obtain rfl : x9 = 0 := e9.trans (by decide)
  refine lv_iload hx hb dX0_toBoil_48 (lv_at hl 0 rfl) ?_
  refine lv_aload_n hx hb dX0_toBoil_50 rfl (lv_at hl 2 rfl) ?_
  refine va_get (D := (dC, dI)) (ci := 0) (v := .ref km) (C := RX0) (T := TX0) (N := 12) hx hb hts hin0 hown hK hP 1 rfl rfl 7 (by decide) hw0 (fun _ h9 => h9) rfl dX0_toBoil_51 ?_
  refine lv_iload_n hx hb dX0_toBoil_54 rfl (lv_at hl 3 rfl) ?_
  refine va_iald hx hb hK hP 0 0 rfl rfl (vin (by omega) (by omega)) dX0_toBoil_55 ?_
  refine lv_topi (fun x10 e10 => ?_)
  obtain rfl : x10 = 0 := e10.trans rfl
  refine lv_imul hx hb dX0_toBoil_56 ?_
  refine lv_topi (fun x11 e11 => ?_)
  obtain rfl : x11 = 0 := e11.trans (by decide)
  refine lv_iadd hx hb dX0_toBoil_57 ?_
  refine lv_topi (fun x12 e12 => ?_)
  obtain rfl : x12 = 0 := e12.trans (by decide)
  have hP9 := mx_subP (wc := [(k, .inr (0, [.ref ks, .ref kw, .ref kc, .int (-6), .int 0, .int 0, .ref kq, .ref km, .ref kd, .int 0, .ref ka, .ref kk])), (kq, .inl (cI, 6, .inl (fun _ => 0))), (km, .inl (cI, 6, .inl (fun _ => 0)))]) hP [1, 2, 0] rfl
  have hD9 := hD.sub (ws' := [(k, .inr (0, [.ref ks, .ref kw, .ref kc, .int (-6), .int 0, .int 0, .ref kq, .ref km, .ref kd, .int 0, .ref ka, .ref kk])), (kq, .inl (cI, 6, .inl (fun _ => 0))), (km, .inl (cI, 6, .inl (fun _ => 0)))]) [1, 2, 0] (by decide) rfl
  exact W.iret (v := 0) hx hb hr (fun t ht hW => ⟨⟨0, (), rfl, rfl, by rw [ht]; exact hP9, hD9⟩, hS.F ht⟩) hS.2.2 dX0_toBoil_58
set_option maxHeartbeats 4000000 in
set_option maxRecDepth 100000 in
theorem c_J0_coder_7d493 (l : Launch) (dC : Nat → ClassId) (dI : Nat → Nat → Nat) (cI cZ cK : ClassId) (tS aK aV : Nat) (sz : Nat) : Ci l yJ0_coder_7d493 (wq yJ0_coder_7d493 cJ0_coder_7d493 1 (some .byte)) ({ frames := 0, cells := 0, slots := 0, locals := 0 }) dC dI cI cZ cK tS aK aV [.ref aK] sz [] (fun (r : Int32) (_ : Unit) => r = 0) (fun _ => []) := by
  refine Met.ofW (cc := cJ0_coder_7d493) (maxL := 1) (ret := (some .byte)) (by decide) rfl ?_
  intro p e s m args below meth c s₁ B hml hv
  obtain ⟨rfl, hsz, hP, hKx, hD0⟩ := hv
  have hx := B.exec
  have hb := B.bytes
  have hr := B.returns
  have hts := atoms_spec (ws := wq yJ0_coder_7d493 cJ0_coder_7d493 1 (some .byte)) B.pre
  have hown : s.vm.findClass RJ0 = some m.cls := findClass_of_methodNamed B.named
  have hlocks := B.notSynchronized
  subst hsz
  have hD := hD0.self (sz := s.heap.size)
  generalize hAe : va_A [] s.heap.size = A at hD hKx ⊢
  have hA : ∀ q : Nat, s.heap.size ≤ q → A q := fun q h => by rw [← hAe]; exact Or.inr h
  have hS : va_S A s.heap s.heap [] := va_S.rf
  have hP : va_P (dC, dI) vwCl [] s.heap := hP
  have hl := lv_entry ([.ref aK]) (n := 1) (Nat.le_of_ble_eq_true rfl)
  rw [lg_entry_eq]
  generalize (lg_sl ([.ref aK]) ++ List.replicate (1 - (lg_sl ([.ref aK])).length) Slot.unset).toArray = ls at hl ⊢
  have hl : lv_has ls 1 [(0, .ref aK)] := hl
  have hK := hKx.1
  have hw0 := hts (.fieldLink RJ0 38 "java/lang/String" "COMPACT_STRINGS" "Z") (List.mem_cons_of_mem _ wm_23)
  have hw1 := hts (.fieldLink RJ0 15 "java/lang/String" "coder" "B") (List.mem_cons_of_mem _ wm_24)
  refine va_gets (v := .int 1) hx hb hKx.2.2.2.2.2.2.2.2.1 hS hown hw0 (fun _ h9 => h9) dJ0_coder_7d493_0 ?_
  refine lv_if_eq (tgt := 13) hx hb dJ0_coder_7d493_3 (by decide) (fun c1 => absurd c1 (by decide)) (fun c1 => ?_)
  refine lv_aload_n hx hb dJ0_coder_7d493_6 rfl (lv_at hl 0 rfl) ?_
  refine vk_getf (v := .int 0) hx hb (hKx.2.2.2.2.2.2.2.2.2.1 0 (by decide)).2.1 hS hown hw1 (fun _ h9 => h9) dJ0_coder_7d493_7 ?_
  refine lv_goto (tgt := 14) hx hb dJ0_coder_7d493_10 (by decide) ?_
  have hP9 := mx_subP (wc := []) hP [] rfl
  have hD9 := hD.sub (ws' := []) [] (by decide) rfl
  exact W.zret (v := 0) hx hb hr rfl (fun t ht hW => ⟨⟨0, (), rfl, rfl, by rw [ht]; exact hP9, hD9⟩, hS.F ht⟩) hS.2.2 dJ0_coder_7d493_14
set_option maxHeartbeats 4000000 in
set_option maxRecDepth 100000 in
theorem c_J0_length_8abf5 (l : Launch) (dC : Nat → ClassId) (dI : Nat → Nat → Nat) (cI cZ cK : ClassId) (tS aK aV : Nat) (sz : Nat) : Ci l yJ0_length_8abf5 (wq yJ0_length_8abf5 cJ0_length_8abf5 1 (some .int)) ({ frames := 1, cells := 0, slots := 0, locals := 20 }) dC dI cI cZ cK tS aK aV [.ref aK] sz [] (fun (r : Int32) (_ : Unit) => r = 4) (fun _ => []) := by
  refine Met.ofW (cc := cJ0_length_8abf5) (maxL := 1) (ret := (some .int)) (by decide) rfl ?_
  intro p e s m args below meth c s₁ B hml hv
  obtain ⟨rfl, hsz, hP, hKx, hD0⟩ := hv
  have hx := B.exec
  have hb := B.bytes
  have hr := B.returns
  have hts := atoms_spec (ws := wq yJ0_length_8abf5 cJ0_length_8abf5 1 (some .int)) B.pre
  have hown : s.vm.findClass RJ0 = some m.cls := findClass_of_methodNamed B.named
  have hlocks := B.notSynchronized
  subst hsz
  have hD := hD0.self (sz := s.heap.size)
  generalize hAe : va_A [] s.heap.size = A at hD hKx ⊢
  have hA : ∀ q : Nat, s.heap.size ≤ q → A q := fun q h => by rw [← hAe]; exact Or.inr h
  have hS : va_S A s.heap s.heap [] := va_S.rf
  have hP : va_P (dC, dI) vwCl [] s.heap := hP
  have hl := lv_entry ([.ref aK]) (n := 1) (Nat.le_of_ble_eq_true rfl)
  rw [lg_entry_eq]
  generalize (lg_sl ([.ref aK]) ++ List.replicate (1 - (lg_sl ([.ref aK])).length) Slot.unset).toArray = ls at hl ⊢
  have hl : lv_has ls 1 [(0, .ref aK)] := hl
  have hK := hKx.1
  have hw0 := hts (.fieldLink RJ0 9 "java/lang/String" "value" "[B") (List.mem_cons_of_mem _ wm_25)
  refine lv_aload_n hx hb dJ0_length_8abf5_0 rfl (lv_at hl 0 rfl) ?_
  refine vk_getf (v := .ref aV) hx hb (hKx.2.2.2.2.2.2.2.2.2.1 0 (by decide)).2.2.1 hS hown hw0 (fun _ h9 => h9) dJ0_length_8abf5_1 ?_
  refine va_tlen (v := 4) hx hb (hKx.2.2.2.2.2.2.2.2.2.1 0 (by decide)).2.2.2 hS (by decide) dJ0_length_8abf5_4 ?_
  refine lv_aload_n hx hb dJ0_length_8abf5_5 rfl (lv_at hl 0 rfl) ?_
  refine mx_i (wr := []) (va_runV (As := []) (rest := [.int 4]) ⟨hx, hb, hml, hown, hts⟩ (c_J0_coder_7d493 l dC dI cI cZ cK tS aK aV  s.heap.size) (cwV 0 hts (gw_v (fun _ h9 => List.mem_cons_of_mem _ h9) wm_26 wm_27 wm_28 wm_29 wm_30) rfl rfl rfl (by decide +kernel) ⟨Nat.le_of_ble_eq_true rfl, Nat.le_of_ble_eq_true rfl⟩) (mx_preK hKx hP hD hS hA) rfl rfl hl.1 rfl (lv_room (Nat.le_of_ble_eq_true rfl)) dJ0_length_8abf5_6 ⟨Nat.le_of_ble_eq_true rfl, Nat.le_of_ble_eq_true rfl⟩) hP hD hS hA [] [] rfl rfl (by decide) (by decide) (fun r1 u1 H locs hq1 hP hD hS => ?_)
  replace hP : va_P (dC, dI) vwCl [] H := hP
  replace hD : va_D A [] := hD
  obtain rfl : r1 = 0 := hq1
  refine lv_ishr hx hb dJ0_length_8abf5_9 ?_
  refine lv_topi (fun x2 e2 => ?_)
  obtain rfl : x2 = 4 := e2.trans (by decide)
  have hP9 := mx_subP (wc := []) hP [] rfl
  have hD9 := hD.sub (ws' := []) [] (by decide) rfl
  exact W.iret (v := 4) hx hb hr (fun t ht hW => ⟨⟨4, (), rfl, rfl, by rw [ht]; exact hP9, hD9⟩, hS.F ht⟩) hS.2.2 dJ0_length_8abf5_10
set_option maxHeartbeats 4000000 in
set_option maxRecDepth 100000 in
theorem c_X4_read (l : Launch) (dC : Nat → ClassId) (dI : Nat → Nat → Nat) (cI cZ cK : ClassId) (tS aK aV : Nat) (d : Nat) (ds : Nat) (dk : Nat) (dw : Nat) (sz : Nat) : Cv l yX4_read (wq yX4_read cX4_read 5 none) ({ frames := 2, cells := 0, slots := 0, locals := 40 }) dC dI cI cZ cK tS aK aV [.ref d] sz [(d, .inr (4, [.ref ds, .int 0, .ref dk, .ref dw, .int 0, .int 0]))] (fun (u : Unit) => True) (fun _ => [(d, .inr (4, [.ref ds, .int 0, .ref dk, .ref dw, .int 0, .int (-6)]))]) := by
  refine Met.ofW (cc := cX4_read) (maxL := 5) (ret := none) (by decide) rfl ?_
  intro p e s m args below meth c s₁ B hml hv
  obtain ⟨rfl, hsz, hP, hKx, hD0⟩ := hv
  have hx := B.exec
  have hb := B.bytes
  have hr := B.returns
  have hts := atoms_spec (ws := wq yX4_read cX4_read 5 none) B.pre
  have hown : s.vm.findClass RX4 = some m.cls := findClass_of_methodNamed B.named
  have hlocks := B.notSynchronized
  subst hsz
  have hD := hD0.self (sz := s.heap.size)
  generalize hAe : va_A [(d, .inr (4, [.ref ds, .int 0, .ref dk, .ref dw, .int 0, .int 0]))] s.heap.size = A at hD hKx ⊢
  have hA : ∀ q : Nat, s.heap.size ≤ q → A q := fun q h => by rw [← hAe]; exact Or.inr h
  have hS : va_S A s.heap s.heap [] := va_S.rf
  have hP : va_P (dC, dI) vwCl [(d, .inr (4, [.ref ds, .int 0, .ref dk, .ref dw, .int 0, .int 0]))] s.heap := hP
  have hl := lv_entry ([.ref d]) (n := 5) (Nat.le_of_ble_eq_true rfl)
  rw [lg_entry_eq]
  generalize (lg_sl ([.ref d]) ++ List.replicate (5 - (lg_sl ([.ref d])).length) Slot.unset).toArray = ls at hl ⊢
  have hl : lv_has ls 5 [(0, .ref d)] := hl
  have hK := hKx.1
  have hin4 := fun w9 h9 => List.mem_cons_of_mem (Cond.code yX4_read cX4_read 5 none) (inlX4 w9 h9)
  have hw0 := hts (.fieldLink RX4 21 "OneCan$Pad" "acts" "I") (List.mem_cons_of_mem _ wm_31)
  have hw1 := hts (.fieldLink RX4 25 "OneCan$Pad" "wrong" "I") (List.mem_cons_of_mem _ wm_32)
  have hw2 := hts (.fieldLink RX4 36 "OneCan$Pad" "size" "I") (List.mem_cons_of_mem _ wm_37)
  refine lv_aload_n hx hb dX4_read_0 rfl (lv_at hl 0 rfl) ?_
  refine lv_iconst (v := 0) hx hb dX4_read_1 (by decide) ?_
  refine va_put (D := (dC, dI)) (ci := 4) (v := .int 0) (ty := .int) (C := RX4) (T := TX4) (N := 6) hx hb hts hin4 tyX4 tyX4_ok nmX4 hown hK hP hD hS 0 rfl rfl 4 (by decide) hw0 (fun _ h9 => h9) rfl (by decide +kernel) rfl rfl (Nat.le_of_ble_eq_true rfl) dX4_read_2 (fun H locs hP hD hS => ?_)
  replace hP : va_P (dC, dI) vwCl [(d, .inr (4, [.ref ds, .int 0, .ref dk, .ref dw, .int 0, .int 0]))] H := hP
  replace hD : va_D A [(d, .inr (4, [.ref ds, .int 0, .ref dk, .ref dw, .int 0, .int 0]))] := hD
  refine lv_aload_n hx hb dX4_read_5 rfl (lv_at hl 0 rfl) ?_
  refine lv_bipush (v := (-6)) hx hb dX4_read_6 (by decide) ?_
  refine va_put (D := (dC, dI)) (ci := 4) (v := .int (-6)) (ty := .int) (C := RX4) (T := TX4) (N := 6) hx hb hts hin4 tyX4 tyX4_ok nmX4 hown hK hP hD hS 0 rfl rfl 5 (by decide) hw1 (fun _ h9 => h9) rfl (by decide +kernel) rfl rfl (Nat.le_of_ble_eq_true rfl) dX4_read_8 (fun H locs hP hD hS => ?_)
  replace hP : va_P (dC, dI) vwCl [(d, .inr (4, [.ref ds, .int 0, .ref dk, .ref dw, .int 0, .int (-6)]))] H := hP
  replace hD : va_D A [(d, .inr (4, [.ref ds, .int 0, .ref dk, .ref dw, .int 0, .int (-6)]))] := hD
  refine va_ldcS hx hb hown hKx.2.2.2.2.2.1 dX4_read_11 ?_
  refine mx_i (wr := [(d, .inr (4, [.ref ds, .int 0, .ref dk, .ref dw, .int 0, .int (-6)]))]) (va_runV (As := []) (rest := []) ⟨hx, hb, hml, hown, hts⟩ (c_J0_length_8abf5 l dC dI cI cZ cK tS aK aV  H.size) (cwV 0 hts (gw_v (fun _ h9 => List.mem_cons_of_mem _ h9) wm_33 wm_34 wm_35 wm_29 wm_36) rfl rfl rfl (by decide +kernel) ⟨Nat.le_of_ble_eq_true rfl, Nat.le_of_ble_eq_true rfl⟩) (mx_preK hKx hP hD hS hA) rfl rfl hl.1 rfl (lv_room (Nat.le_of_ble_eq_true rfl)) dX4_read_13 ⟨Nat.le_of_ble_eq_true rfl, Nat.le_of_ble_eq_true rfl⟩) hP hD hS hA [] [0] rfl rfl (by decide) (by decide) (fun r1 u1 H locs hq1 hP hD hS => ?_)
  replace hP : va_P (dC, dI) vwCl [(d, .inr (4, [.ref ds, .int 0, .ref dk, .ref dw, .int 0, .int (-6)]))] H := hP
  replace hD : va_D A [(d, .inr (4, [.ref ds, .int 0, .ref dk, .ref dw, .int 0, .int (-6)]))] := hD
  obtain rfl : r1 = 4 := hq1
  refine lv_istore_n (lv' := [(1, .int 4), (0, .ref d)]) hx hb dX4_read_16 rfl hl (by decide) rfl (fun ls hl => ?_)
  refine lv_iconst (v := 0) hx hb dX4_read_17 (by decide) ?_
  refine lv_istore_n (lv' := [(2, .int 0), (1, .int 4), (0, .ref d)]) hx hb dX4_read_18 rfl hl (by decide) rfl (fun ls hl => ?_)
  refine lv_iload_n hx hb dX4_read_19 rfl (lv_at hl 0 rfl) ?_
  refine lv_aload_n hx hb dX4_read_20 rfl (lv_at hl 2 rfl) ?_
  refine va_get (D := (dC, dI)) (ci := 4) (v := .int 0) (C := RX4) (T := TX4) (N := 6) hx hb hts hin4 hown hK hP 0 rfl rfl 1 (by decide) hw2 (fun _ h9 => h9) rfl dX4_read_21 ?_
  refine lv_icmp_ge (tgt := 166) hx hb dX4_read_24 (by decide) (fun c2 => ?_) (fun c2 => absurd c2 (by decide))
  have hP9 := mx_subP (wc := [(d, .inr (4, [.ref ds, .int 0, .ref dk, .ref dw, .int 0, .int (-6)]))]) hP [0] rfl
  have hD9 := hD.sub (ws' := [(d, .inr (4, [.ref ds, .int 0, .ref dk, .ref dw, .int 0, .int (-6)]))]) [0] (by decide) rfl
  exact W.vret hx hb hr (fun t ht hW => ⟨⟨(), rfl, trivial, by rw [ht]; exact hP9, hD9⟩, hS.F ht⟩) hS.2.2 dX4_read_166
set_option maxHeartbeats 4000000 in
set_option maxRecDepth 100000 in
theorem c_X1_run (l : Launch) (dC : Nat → ClassId) (dI : Nat → Nat → Nat) (cI cZ cK : ClassId) (tS aK aV : Nat) (j : Nat) (jd : Nat) (jb : Nat) (jw : Nat) (jl : Nat) (k : Nat) (ks : Nat) (kw : Nat) (kc : Nat) (kq : Nat) (km : Nat) (kd : Nat) (ka : Nat) (kk : Nat) (d : Nat) (ds : Nat) (dk : Nat) (dw : Nat) (i0 : Int32) (sz : Nat) : Cv l yX1_run (wq yX1_run cX1_run 4 none) ({ frames := 0, cells := 0, slots := 0, locals := 0 }) dC dI cI cZ cK tS aK aV [.ref j, .int i0] sz [(j, .inr (1, [.ref k, .ref d, .ref jd, .ref jb, .ref jw, .ref jl, .int 0, .int 0, .int 0, .int 0, .int 0, .int 0, .int 0, .int 0])), (jl, .inl (cI, 61, .inl (fun _ => 0))), (k, .inr (0, [.ref ks, .ref kw, .ref kc, .int (-6), .int 0, .int 0, .ref kq, .ref km, .ref kd, .int 0, .ref ka, .ref kk])), (ks, .inl (cI, 5, .inl (upd (fun _ => 0) 0 800))), (d, .inr (4, [.ref ds, .int 0, .ref dk, .ref dw, .int 0, .int (-6)]))] (fun (u : Unit) => True) (fun _ => [(j, .inr (1, [.ref k, .ref d, .ref jd, .ref jb, .ref jw, .ref jl, .int (-6), .int (-6), .int 800, .int 0, .int (-6), .int 0, .int 0, .int 0])), (jl, .inl (cI, 61, .inl (upd (fun _ => 0) 0 800))), (k, .inr (0, [.ref ks, .ref kw, .ref kc, .int (-6), .int 0, .int 0, .ref kq, .ref km, .ref kd, .int 0, .ref ka, .ref kk])), (ks, .inl (cI, 5, .inl (upd (fun _ => 0) 0 800))), (d, .inr (4, [.ref ds, .int 0, .ref dk, .ref dw, .int 0, .int (-6)]))]) := by
  refine Met.ofW (cc := cX1_run) (maxL := 4) (ret := none) (by decide) rfl ?_
  intro p e s m args below meth c s₁ B hml hv
  obtain ⟨rfl, hsz, hP, hKx, hD0⟩ := hv
  have hx := B.exec
  have hb := B.bytes
  have hr := B.returns
  have hts := atoms_spec (ws := wq yX1_run cX1_run 4 none) B.pre
  have hown : s.vm.findClass RX1 = some m.cls := findClass_of_methodNamed B.named
  have hlocks := B.notSynchronized
  subst hsz
  have hD := hD0.self (sz := s.heap.size)
  generalize hAe : va_A [(j, .inr (1, [.ref k, .ref d, .ref jd, .ref jb, .ref jw, .ref jl, .int 0, .int 0, .int 0, .int 0, .int 0, .int 0, .int 0, .int 0])), (jl, .inl (cI, 61, .inl (fun _ => 0))), (k, .inr (0, [.ref ks, .ref kw, .ref kc, .int (-6), .int 0, .int 0, .ref kq, .ref km, .ref kd, .int 0, .ref ka, .ref kk])), (ks, .inl (cI, 5, .inl (upd (fun _ => 0) 0 800))), (d, .inr (4, [.ref ds, .int 0, .ref dk, .ref dw, .int 0, .int (-6)]))] s.heap.size = A at hD hKx ⊢
  have hA : ∀ q : Nat, s.heap.size ≤ q → A q := fun q h => by rw [← hAe]; exact Or.inr h
  have hS : va_S A s.heap s.heap [] := va_S.rf
  have hP : va_P (dC, dI) vwCl [(j, .inr (1, [.ref k, .ref d, .ref jd, .ref jb, .ref jw, .ref jl, .int 0, .int 0, .int 0, .int 0, .int 0, .int 0, .int 0, .int 0])), (jl, .inl (cI, 61, .inl (fun _ => 0))), (k, .inr (0, [.ref ks, .ref kw, .ref kc, .int (-6), .int 0, .int 0, .ref kq, .ref km, .ref kd, .int 0, .ref ka, .ref kk])), (ks, .inl (cI, 5, .inl (upd (fun _ => 0) 0 800))), (d, .inr (4, [.ref ds, .int 0, .ref dk, .ref dw, .int 0, .int (-6)]))] s.heap := hP
  have hl := lv_entry ([.ref j, .int i0]) (n := 4) (Nat.le_of_ble_eq_true rfl)
  rw [lg_entry_eq]
  generalize (lg_sl ([.ref j, .int i0]) ++ List.replicate (4 - (lg_sl ([.ref j, .int i0])).length) Slot.unset).toArray = ls at hl ⊢
  have hl : lv_has ls 4 [(0, .ref j), (1, .int i0)] := hl
  have hK := hKx.1
  have hin1 := fun w9 h9 => List.mem_cons_of_mem (Cond.code yX1_run cX1_run 4 none) (inlX1 w9 h9)
  have hin0 := fun w9 h9 => List.mem_cons_of_mem (Cond.code yX1_run cX1_run 4 none) (inlX0 w9 h9)
  have hin4 := fun w9 h9 => List.mem_cons_of_mem (Cond.code yX1_run cX1_run 4 none) (inlX4 w9 h9)
  have hw0 := hts (.fieldLink RX1 32 "OneCan$Course" "bad" "I") (List.mem_cons_of_mem _ wm_38)
  have hw1 := hts (.fieldLink RX1 36 "OneCan$Course" "why" "I") (List.mem_cons_of_mem _ wm_39)
  have hw2 := hts (.fieldLink RX1 24 "OneCan$Course" "camp" "LOneCan$Camp;") (List.mem_cons_of_mem _ wm_40)
  have hw3 := hts (.fieldLink RX1 39 "OneCan$Camp" "settings" "[I") (List.mem_cons_of_mem _ wm_41)
  have hw4 := hts (.fieldLink RX1 44 "OneCan$Course" "left" "I") (List.mem_cons_of_mem _ wm_42)
  have hw5 := hts (.fieldLink RX1 47 "OneCan$Course" "day" "I") (List.mem_cons_of_mem _ wm_43)
  have hw6 := hts (.fieldLink RX1 50 "OneCan$Camp" "warmDay" "I") (List.mem_cons_of_mem _ wm_44)
  have hw7 := hts (.fieldLink RX1 53 "OneCan$Course" "warmDay" "I") (List.mem_cons_of_mem _ wm_45)
  have hw8 := hts (.fieldLink RX1 54 "OneCan$Camp" "bagDays" "I") (List.mem_cons_of_mem _ wm_46)
  have hw9 := hts (.fieldLink RX1 57 "OneCan$Course" "bagDays" "I") (List.mem_cons_of_mem _ wm_47)
  have hw10 := hts (.fieldLink RX1 58 "OneCan$Course" "burnt" "I") (List.mem_cons_of_mem _ wm_48)
  have hw11 := hts (.fieldLink RX1 61 "OneCan$Course" "boiled" "I") (List.mem_cons_of_mem _ wm_49)
  have hw12 := hts (.fieldLink RX1 21 "OneCan$Course" "lefts" "[I") (List.mem_cons_of_mem _ wm_50)
  have hw13 := hts (.fieldLink RX1 28 "OneCan$Course" "pad" "LOneCan$Pad;") (List.mem_cons_of_mem _ wm_51)
  have hw14 := hts (.fieldLink RX1 64 "OneCan$Pad" "acts" "I") (List.mem_cons_of_mem _ wm_52)
  refine lv_aload_n hx hb dX1_run_0 rfl (lv_at hl 0 rfl) ?_
  refine lv_bipush (v := (-6)) hx hb dX1_run_1 (by decide) ?_
  refine va_put (D := (dC, dI)) (ci := 1) (v := .int (-6)) (ty := .int) (C := RX1) (T := TX1) (N := 14) hx hb hts hin1 tyX1 tyX1_ok nmX1 hown hK hP hD hS 0 rfl rfl 6 (by decide) hw0 (fun _ h9 => h9) rfl (by decide +kernel) rfl rfl (Nat.le_of_ble_eq_true rfl) dX1_run_3 (fun H locs hP hD hS => ?_)
  replace hP : va_P (dC, dI) vwCl [(j, .inr (1, [.ref k, .ref d, .ref jd, .ref jb, .ref jw, .ref jl, .int (-6), .int 0, .int 0, .int 0, .int 0, .int 0, .int 0, .int 0])), (jl, .inl (cI, 61, .inl (fun _ => 0))), (k, .inr (0, [.ref ks, .ref kw, .ref kc, .int (-6), .int 0, .int 0, .ref kq, .ref km, .ref kd, .int 0, .ref ka, .ref kk])), (ks, .inl (cI, 5, .inl (upd (fun _ => 0) 0 800))), (d, .inr (4, [.ref ds, .int 0, .ref dk, .ref dw, .int 0, .int (-6)]))] H := hP
  replace hD : va_D A [(j, .inr (1, [.ref k, .ref d, .ref jd, .ref jb, .ref jw, .ref jl, .int (-6), .int 0, .int 0, .int 0, .int 0, .int 0, .int 0, .int 0])), (jl, .inl (cI, 61, .inl (fun _ => 0))), (k, .inr (0, [.ref ks, .ref kw, .ref kc, .int (-6), .int 0, .int 0, .ref kq, .ref km, .ref kd, .int 0, .ref ka, .ref kk])), (ks, .inl (cI, 5, .inl (upd (fun _ => 0) 0 800))), (d, .inr (4, [.ref ds, .int 0, .ref dk, .ref dw, .int 0, .int (-6)]))] := hD
  refine lv_aload_n hx hb dX1_run_6 rfl (lv_at hl 0 rfl) ?_
  refine lv_bipush (v := (-6)) hx hb dX1_run_7 (by decide) ?_
  refine va_put (D := (dC, dI)) (ci := 1) (v := .int (-6)) (ty := .int) (C := RX1) (T := TX1) (N := 14) hx hb hts hin1 tyX1 tyX1_ok nmX1 hown hK hP hD hS 0 rfl rfl 7 (by decide) hw1 (fun _ h9 => h9) rfl (by decide +kernel) rfl rfl (Nat.le_of_ble_eq_true rfl) dX1_run_9 (fun H locs hP hD hS => ?_)
  replace hP : va_P (dC, dI) vwCl [(j, .inr (1, [.ref k, .ref d, .ref jd, .ref jb, .ref jw, .ref jl, .int (-6), .int (-6), .int 0, .int 0, .int 0, .int 0, .int 0, .int 0])), (jl, .inl (cI, 61, .inl (fun _ => 0))), (k, .inr (0, [.ref ks, .ref kw, .ref kc, .int (-6), .int 0, .int 0, .ref kq, .ref km, .ref kd, .int 0, .ref ka, .ref kk])), (ks, .inl (cI, 5, .inl (upd (fun _ => 0) 0 800))), (d, .inr (4, [.ref ds, .int 0, .ref dk, .ref dw, .int 0, .int (-6)]))] H := hP
  replace hD : va_D A [(j, .inr (1, [.ref k, .ref d, .ref jd, .ref jb, .ref jw, .ref jl, .int (-6), .int (-6), .int 0, .int 0, .int 0, .int 0, .int 0, .int 0])), (jl, .inl (cI, 61, .inl (fun _ => 0))), (k, .inr (0, [.ref ks, .ref kw, .ref kc, .int (-6), .int 0, .int 0, .ref kq, .ref km, .ref kd, .int 0, .ref ka, .ref kk])), (ks, .inl (cI, 5, .inl (upd (fun _ => 0) 0 800))), (d, .inr (4, [.ref ds, .int 0, .ref dk, .ref dw, .int 0, .int (-6)]))] := hD
  refine lv_aload_n hx hb dX1_run_12 rfl (lv_at hl 0 rfl) ?_
  refine lv_aload_n hx hb dX1_run_13 rfl (lv_at hl 0 rfl) ?_
  refine va_get (D := (dC, dI)) (ci := 1) (v := .ref k) (C := RX1) (T := TX1) (N := 14) hx hb hts hin1 hown hK hP 0 rfl rfl 0 (by decide) hw2 (fun _ h9 => h9) rfl dX1_run_14 ?_
  refine va_get (D := (dC, dI)) (ci := 0) (v := .ref ks) (C := RX0) (T := TX0) (N := 12) hx hb hts hin0 hown hK hP 2 rfl rfl 0 (by decide) hw3 (fun _ h9 => h9) rfl dX1_run_17 ?_
  refine lv_iconst (v := 0) hx hb dX1_run_20 (by decide) ?_
  refine va_iald hx hb hK hP 3 0 rfl rfl (vin (by decide) (by decide)) dX1_run_21 ?_
  refine lv_topi (fun x1 e1 => ?_)
  obtain rfl : x1 = 800 := e1.trans (by first | rfl | decide)
  refine va_put (D := (dC, dI)) (ci := 1) (v := .int 800) (ty := .int) (C := RX1) (T := TX1) (N := 14) hx hb hts hin1 tyX1 tyX1_ok nmX1 hown hK hP hD hS 0 rfl rfl 8 (by decide) hw4 (fun _ h9 => h9) rfl (by decide +kernel) rfl rfl (Nat.le_of_ble_eq_true rfl) dX1_run_22 (fun H locs hP hD hS => ?_)
  replace hP : va_P (dC, dI) vwCl [(j, .inr (1, [.ref k, .ref d, .ref jd, .ref jb, .ref jw, .ref jl, .int (-6), .int (-6), .int 800, .int 0, .int 0, .int 0, .int 0, .int 0])), (jl, .inl (cI, 61, .inl (fun _ => 0))), (k, .inr (0, [.ref ks, .ref kw, .ref kc, .int (-6), .int 0, .int 0, .ref kq, .ref km, .ref kd, .int 0, .ref ka, .ref kk])), (ks, .inl (cI, 5, .inl (upd (fun _ => 0) 0 800))), (d, .inr (4, [.ref ds, .int 0, .ref dk, .ref dw, .int 0, .int (-6)]))] H := hP
  replace hD : va_D A [(j, .inr (1, [.ref k, .ref d, .ref jd, .ref jb, .ref jw, .ref jl, .int (-6), .int (-6), .int 800, .int 0, .int 0, .int 0, .int 0, .int 0])), (jl, .inl (cI, 61, .inl (fun _ => 0))), (k, .inr (0, [.ref ks, .ref kw, .ref kc, .int (-6), .int 0, .int 0, .ref kq, .ref km, .ref kd, .int 0, .ref ka, .ref kk])), (ks, .inl (cI, 5, .inl (upd (fun _ => 0) 0 800))), (d, .inr (4, [.ref ds, .int 0, .ref dk, .ref dw, .int 0, .int (-6)]))] := hD
  refine lv_aload_n hx hb dX1_run_25 rfl (lv_at hl 0 rfl) ?_
  refine lv_aload_n hx hb dX1_run_26 rfl (lv_at hl 0 rfl) ?_
  refine va_get (D := (dC, dI)) (ci := 1) (v := .ref k) (C := RX1) (T := TX1) (N := 14) hx hb hts hin1 hown hK hP 0 rfl rfl 0 (by decide) hw2 (fun _ h9 => h9) rfl dX1_run_27 ?_
  refine va_get (D := (dC, dI)) (ci := 0) (v := .ref ks) (C := RX0) (T := TX0) (N := 12) hx hb hts hin0 hown hK hP 2 rfl rfl 0 (by decide) hw3 (fun _ h9 => h9) rfl dX1_run_30 ?_
  refine lv_iconst (v := 4) hx hb dX1_run_33 (by decide) ?_
  refine va_iald hx hb hK hP 3 0 rfl rfl (vin (by decide) (by decide)) dX1_run_34 ?_
  refine lv_topi (fun x2 e2 => ?_)
  obtain rfl : x2 = 0 := e2.trans (by first | rfl | decide)
  refine va_put (D := (dC, dI)) (ci := 1) (v := .int 0) (ty := .int) (C := RX1) (T := TX1) (N := 14) hx hb hts hin1 tyX1 tyX1_ok nmX1 hown hK hP hD hS 0 rfl rfl 9 (by decide) hw5 (fun _ h9 => h9) rfl (by decide +kernel) rfl rfl (Nat.le_of_ble_eq_true rfl) dX1_run_35 (fun H locs hP hD hS => ?_)
  replace hP : va_P (dC, dI) vwCl [(j, .inr (1, [.ref k, .ref d, .ref jd, .ref jb, .ref jw, .ref jl, .int (-6), .int (-6), .int 800, .int 0, .int 0, .int 0, .int 0, .int 0])), (jl, .inl (cI, 61, .inl (fun _ => 0))), (k, .inr (0, [.ref ks, .ref kw, .ref kc, .int (-6), .int 0, .int 0, .ref kq, .ref km, .ref kd, .int 0, .ref ka, .ref kk])), (ks, .inl (cI, 5, .inl (upd (fun _ => 0) 0 800))), (d, .inr (4, [.ref ds, .int 0, .ref dk, .ref dw, .int 0, .int (-6)]))] H := hP
  replace hD : va_D A [(j, .inr (1, [.ref k, .ref d, .ref jd, .ref jb, .ref jw, .ref jl, .int (-6), .int (-6), .int 800, .int 0, .int 0, .int 0, .int 0, .int 0])), (jl, .inl (cI, 61, .inl (fun _ => 0))), (k, .inr (0, [.ref ks, .ref kw, .ref kc, .int (-6), .int 0, .int 0, .ref kq, .ref km, .ref kd, .int 0, .ref ka, .ref kk])), (ks, .inl (cI, 5, .inl (upd (fun _ => 0) 0 800))), (d, .inr (4, [.ref ds, .int 0, .ref dk, .ref dw, .int 0, .int (-6)]))] := hD
  refine lv_aload_n hx hb dX1_run_38 rfl (lv_at hl 0 rfl) ?_
  refine lv_aload_n hx hb dX1_run_39 rfl (lv_at hl 0 rfl) ?_
  refine va_get (D := (dC, dI)) (ci := 1) (v := .ref k) (C := RX1) (T := TX1) (N := 14) hx hb hts hin1 hown hK hP 0 rfl rfl 0 (by decide) hw2 (fun _ h9 => h9) rfl dX1_run_40 ?_
  refine va_get (D := (dC, dI)) (ci := 0) (v := .int (-6)) (C := RX0) (T := TX0) (N := 12) hx hb hts hin0 hown hK hP 2 rfl rfl 3 (by decide) hw6 (fun _ h9 => h9) rfl dX1_run_43 ?_
  refine va_put (D := (dC, dI)) (ci := 1) (v := .int (-6)) (ty := .int) (C := RX1) (T := TX1) (N := 14) hx hb hts hin1 tyX1 tyX1_ok nmX1 hown hK hP hD hS 0 rfl rfl 10 (by decide) hw7 (fun _ h9 => h9) rfl (by decide +kernel) rfl rfl (Nat.le_of_ble_eq_true rfl) dX1_run_46 (fun H locs hP hD hS => ?_)
  replace hP : va_P (dC, dI) vwCl [(j, .inr (1, [.ref k, .ref d, .ref jd, .ref jb, .ref jw, .ref jl, .int (-6), .int (-6), .int 800, .int 0, .int (-6), .int 0, .int 0, .int 0])), (jl, .inl (cI, 61, .inl (fun _ => 0))), (k, .inr (0, [.ref ks, .ref kw, .ref kc, .int (-6), .int 0, .int 0, .ref kq, .ref km, .ref kd, .int 0, .ref ka, .ref kk])), (ks, .inl (cI, 5, .inl (upd (fun _ => 0) 0 800))), (d, .inr (4, [.ref ds, .int 0, .ref dk, .ref dw, .int 0, .int (-6)]))] H := hP
  replace hD : va_D A [(j, .inr (1, [.ref k, .ref d, .ref jd, .ref jb, .ref jw, .ref jl, .int (-6), .int (-6), .int 800, .int 0, .int (-6), .int 0, .int 0, .int 0])), (jl, .inl (cI, 61, .inl (fun _ => 0))), (k, .inr (0, [.ref ks, .ref kw, .ref kc, .int (-6), .int 0, .int 0, .ref kq, .ref km, .ref kd, .int 0, .ref ka, .ref kk])), (ks, .inl (cI, 5, .inl (upd (fun _ => 0) 0 800))), (d, .inr (4, [.ref ds, .int 0, .ref dk, .ref dw, .int 0, .int (-6)]))] := hD
  refine lv_aload_n hx hb dX1_run_49 rfl (lv_at hl 0 rfl) ?_
  refine lv_aload_n hx hb dX1_run_50 rfl (lv_at hl 0 rfl) ?_
  refine va_get (D := (dC, dI)) (ci := 1) (v := .ref k) (C := RX1) (T := TX1) (N := 14) hx hb hts hin1 hown hK hP 0 rfl rfl 0 (by decide) hw2 (fun _ h9 => h9) rfl dX1_run_51 ?_
  refine va_get (D := (dC, dI)) (ci := 0) (v := .int 0) (C := RX0) (T := TX0) (N := 12) hx hb hts hin0 hown hK hP 2 rfl rfl 4 (by decide) hw8 (fun _ h9 => h9) rfl dX1_run_54 ?_
  refine va_put (D := (dC, dI)) (ci := 1) (v := .int 0) (ty := .int) (C := RX1) (T := TX1) (N := 14) hx hb hts hin1 tyX1 tyX1_ok nmX1 hown hK hP hD hS 0 rfl rfl 11 (by decide) hw9 (fun _ h9 => h9) rfl (by decide +kernel) rfl rfl (Nat.le_of_ble_eq_true rfl) dX1_run_57 (fun H locs hP hD hS => ?_)
  replace hP : va_P (dC, dI) vwCl [(j, .inr (1, [.ref k, .ref d, .ref jd, .ref jb, .ref jw, .ref jl, .int (-6), .int (-6), .int 800, .int 0, .int (-6), .int 0, .int 0, .int 0])), (jl, .inl (cI, 61, .inl (fun _ => 0))), (k, .inr (0, [.ref ks, .ref kw, .ref kc, .int (-6), .int 0, .int 0, .ref kq, .ref km, .ref kd, .int 0, .ref ka, .ref kk])), (ks, .inl (cI, 5, .inl (upd (fun _ => 0) 0 800))), (d, .inr (4, [.ref ds, .int 0, .ref dk, .ref dw, .int 0, .int (-6)]))] H := hP
  replace hD : va_D A [(j, .inr (1, [.ref k, .ref d, .ref jd, .ref jb, .ref jw, .ref jl, .int (-6), .int (-6), .int 800, .int 0, .int (-6), .int 0, .int 0, .int 0])), (jl, .inl (cI, 61, .inl (fun _ => 0))), (k, .inr (0, [.ref ks, .ref kw, .ref kc, .int (-6), .int 0, .int 0, .ref kq, .ref km, .ref kd, .int 0, .ref ka, .ref kk])), (ks, .inl (cI, 5, .inl (upd (fun _ => 0) 0 800))), (d, .inr (4, [.ref ds, .int 0, .ref dk, .ref dw, .int 0, .int (-6)]))] := hD
  refine lv_aload_n hx hb dX1_run_60 rfl (lv_at hl 0 rfl) ?_
  refine lv_iconst (v := 0) hx hb dX1_run_61 (by decide) ?_
  refine va_put (D := (dC, dI)) (ci := 1) (v := .int 0) (ty := .int) (C := RX1) (T := TX1) (N := 14) hx hb hts hin1 tyX1 tyX1_ok nmX1 hown hK hP hD hS 0 rfl rfl 12 (by decide) hw10 (fun _ h9 => h9) rfl (by decide +kernel) rfl rfl (Nat.le_of_ble_eq_true rfl) dX1_run_62 (fun H locs hP hD hS => ?_)
  replace hP : va_P (dC, dI) vwCl [(j, .inr (1, [.ref k, .ref d, .ref jd, .ref jb, .ref jw, .ref jl, .int (-6), .int (-6), .int 800, .int 0, .int (-6), .int 0, .int 0, .int 0])), (jl, .inl (cI, 61, .inl (fun _ => 0))), (k, .inr (0, [.ref ks, .ref kw, .ref kc, .int (-6), .int 0, .int 0, .ref kq, .ref km, .ref kd, .int 0, .ref ka, .ref kk])), (ks, .inl (cI, 5, .inl (upd (fun _ => 0) 0 800))), (d, .inr (4, [.ref ds, .int 0, .ref dk, .ref dw, .int 0, .int (-6)]))] H := hP
  replace hD : va_D A [(j, .inr (1, [.ref k, .ref d, .ref jd, .ref jb, .ref jw, .ref jl, .int (-6), .int (-6), .int 800, .int 0, .int (-6), .int 0, .int 0, .int 0])), (jl, .inl (cI, 61, .inl (fun _ => 0))), (k, .inr (0, [.ref ks, .ref kw, .ref kc, .int (-6), .int 0, .int 0, .ref kq, .ref km, .ref kd, .int 0, .ref ka, .ref kk])), (ks, .inl (cI, 5, .inl (upd (fun _ => 0) 0 800))), (d, .inr (4, [.ref ds, .int 0, .ref dk, .ref dw, .int 0, .int (-6)]))] := hD
  refine lv_aload_n hx hb dX1_run_65 rfl (lv_at hl 0 rfl) ?_
  refine lv_iconst (v := 0) hx hb dX1_run_66 (by decide) ?_
  refine va_put (D := (dC, dI)) (ci := 1) (v := .int 0) (ty := .int) (C := RX1) (T := TX1) (N := 14) hx hb hts hin1 tyX1 tyX1_ok nmX1 hown hK hP hD hS 0 rfl rfl 13 (by decide) hw11 (fun _ h9 => h9) rfl (by decide +kernel) rfl rfl (Nat.le_of_ble_eq_true rfl) dX1_run_67 (fun H locs hP hD hS => ?_)
  replace hP : va_P (dC, dI) vwCl [(j, .inr (1, [.ref k, .ref d, .ref jd, .ref jb, .ref jw, .ref jl, .int (-6), .int (-6), .int 800, .int 0, .int (-6), .int 0, .int 0, .int 0])), (jl, .inl (cI, 61, .inl (fun _ => 0))), (k, .inr (0, [.ref ks, .ref kw, .ref kc, .int (-6), .int 0, .int 0, .ref kq, .ref km, .ref kd, .int 0, .ref ka, .ref kk])), (ks, .inl (cI, 5, .inl (upd (fun _ => 0) 0 800))), (d, .inr (4, [.ref ds, .int 0, .ref dk, .ref dw, .int 0, .int (-6)]))] H := hP
  replace hD : va_D A [(j, .inr (1, [.ref k, .ref d, .ref jd, .ref jb, .ref jw, .ref jl, .int (-6), .int (-6), .int 800, .int 0, .int (-6), .int 0, .int 0, .int 0])), (jl, .inl (cI, 61, .inl (fun _ => 0))), (k, .inr (0, [.ref ks, .ref kw, .ref kc, .int (-6), .int 0, .int 0, .ref kq, .ref km, .ref kd, .int 0, .ref ka, .ref kk])), (ks, .inl (cI, 5, .inl (upd (fun _ => 0) 0 800))), (d, .inr (4, [.ref ds, .int 0, .ref dk, .ref dw, .int 0, .int (-6)]))] := hD
  refine lv_aload_n hx hb dX1_run_70 rfl (lv_at hl 0 rfl) ?_
  refine va_get (D := (dC, dI)) (ci := 1) (v := .ref jl) (C := RX1) (T := TX1) (N := 14) hx hb hts hin1 hown hK hP 0 rfl rfl 5 (by decide) hw12 (fun _ h9 => h9) rfl dX1_run_71 ?_
  refine lv_iconst (v := 0) hx hb dX1_run_74 (by decide) ?_
  refine lv_aload_n hx hb dX1_run_75 rfl (lv_at hl 0 rfl) ?_
  refine va_get (D := (dC, dI)) (ci := 1) (v := .int 800) (C := RX1) (T := TX1) (N := 14) hx hb hts hin1 hown hK hP 0 rfl rfl 8 (by decide) hw4 (fun _ h9 => h9) rfl dX1_run_76 ?_
  refine va_iast hx hb hK hP hD hS 1 0 rfl rfl (vin (by decide) (by decide)) dX1_run_79 (fun H locs hP hD hS => ?_)
  replace hP : va_P (dC, dI) vwCl [(j, .inr (1, [.ref k, .ref d, .ref jd, .ref jb, .ref jw, .ref jl, .int (-6), .int (-6), .int 800, .int 0, .int (-6), .int 0, .int 0, .int 0])), (jl, .inl (cI, 61, .inl (upd (fun _ => 0) 0 800))), (k, .inr (0, [.ref ks, .ref kw, .ref kc, .int (-6), .int 0, .int 0, .ref kq, .ref km, .ref kd, .int 0, .ref ka, .ref kk])), (ks, .inl (cI, 5, .inl (upd (fun _ => 0) 0 800))), (d, .inr (4, [.ref ds, .int 0, .ref dk, .ref dw, .int 0, .int (-6)]))] H := hP
  replace hD : va_D A [(j, .inr (1, [.ref k, .ref d, .ref jd, .ref jb, .ref jw, .ref jl, .int (-6), .int (-6), .int 800, .int 0, .int (-6), .int 0, .int 0, .int 0])), (jl, .inl (cI, 61, .inl (upd (fun _ => 0) 0 800))), (k, .inr (0, [.ref ks, .ref kw, .ref kc, .int (-6), .int 0, .int 0, .ref kq, .ref km, .ref kd, .int 0, .ref ka, .ref kk])), (ks, .inl (cI, 5, .inl (upd (fun _ => 0) 0 800))), (d, .inr (4, [.ref ds, .int 0, .ref dk, .ref dw, .int 0, .int (-6)]))] := hD
  refine lv_iconst (v := 0) hx hb dX1_run_80 (by decide) ?_
  refine lv_istore_n (lv' := [(2, .int 0), (0, .ref j), (1, .int i0)]) hx hb dX1_run_81 rfl hl (by decide) rfl (fun ls hl => ?_)
  refine lv_iload_n hx hb dX1_run_82 rfl (lv_at hl 0 rfl) ?_
  refine lv_aload_n hx hb dX1_run_83 rfl (lv_at hl 1 rfl) ?_
  refine va_get (D := (dC, dI)) (ci := 1) (v := .ref d) (C := RX1) (T := TX1) (N := 14) hx hb hts hin1 hown hK hP 0 rfl rfl 1 (by decide) hw13 (fun _ h9 => h9) rfl dX1_run_84 ?_
  refine va_get (D := (dC, dI)) (ci := 4) (v := .int 0) (C := RX4) (T := TX4) (N := 6) hx hb hts hin4 hown hK hP 4 rfl rfl 4 (by decide) hw14 (fun _ h9 => h9) rfl dX1_run_87 ?_
  refine lv_icmp_ge (tgt := 142) hx hb dX1_run_90 (by decide) (fun c3 => ?_) (fun c3 => absurd c3 (by decide))
  have hP9 := mx_subP (wc := [(j, .inr (1, [.ref k, .ref d, .ref jd, .ref jb, .ref jw, .ref jl, .int (-6), .int (-6), .int 800, .int 0, .int (-6), .int 0, .int 0, .int 0])), (jl, .inl (cI, 61, .inl (upd (fun _ => 0) 0 800))), (k, .inr (0, [.ref ks, .ref kw, .ref kc, .int (-6), .int 0, .int 0, .ref kq, .ref km, .ref kd, .int 0, .ref ka, .ref kk])), (ks, .inl (cI, 5, .inl (upd (fun _ => 0) 0 800))), (d, .inr (4, [.ref ds, .int 0, .ref dk, .ref dw, .int 0, .int (-6)]))]) hP [0, 1, 2, 3, 4] rfl
  have hD9 := hD.sub (ws' := [(j, .inr (1, [.ref k, .ref d, .ref jd, .ref jb, .ref jw, .ref jl, .int (-6), .int (-6), .int 800, .int 0, .int (-6), .int 0, .int 0, .int 0])), (jl, .inl (cI, 61, .inl (upd (fun _ => 0) 0 800))), (k, .inr (0, [.ref ks, .ref kw, .ref kc, .int (-6), .int 0, .int 0, .ref kq, .ref km, .ref kd, .int 0, .ref ka, .ref kk])), (ks, .inl (cI, 5, .inl (upd (fun _ => 0) 0 800))), (d, .inr (4, [.ref ds, .int 0, .ref dk, .ref dw, .int 0, .int (-6)]))]) [0, 1, 2, 3, 4] (by decide) rfl
  exact W.vret hx hb hr (fun t ht hW => ⟨⟨(), rfl, trivial, by rw [ht]; exact hP9, hD9⟩, hS.F ht⟩) hS.2.2 dX1_run_142
set_option maxHeartbeats 4000000 in
set_option maxRecDepth 100000 in
theorem c_X1_burntOn (l : Launch) (dC : Nat → ClassId) (dI : Nat → Nat → Nat) (cI cZ cK : ClassId) (tS aK aV : Nat) (j : Nat) (jd : Nat) (jb : Nat) (jw : Nat) (jl : Nat) (k : Nat) (d : Nat) (ds : Nat) (dk : Nat) (dw : Nat) (i0 : Int32) (sz : Nat) : Ci l yX1_burntOn (wq yX1_burntOn cX1_burntOn 4 (some .int)) ({ frames := 0, cells := 0, slots := 0, locals := 0 }) dC dI cI cZ cK tS aK aV [.ref j, .int i0] sz [(j, .inr (1, [.ref k, .ref d, .ref jd, .ref jb, .ref jw, .ref jl, .int (-6), .int (-6), .int 800, .int 0, .int (-6), .int 0, .int 0, .int 0])), (d, .inr (4, [.ref ds, .int 0, .ref dk, .ref dw, .int 0, .int (-6)]))] (fun (r : Int32) (_ : Unit) => r = 0) (fun _ => [(j, .inr (1, [.ref k, .ref d, .ref jd, .ref jb, .ref jw, .ref jl, .int (-6), .int (-6), .int 800, .int 0, .int (-6), .int 0, .int 0, .int 0])), (d, .inr (4, [.ref ds, .int 0, .ref dk, .ref dw, .int 0, .int (-6)]))]) := by
  refine Met.ofW (cc := cX1_burntOn) (maxL := 4) (ret := (some .int)) (by decide) rfl ?_
  intro p e s m args below meth c s₁ B hml hv
  obtain ⟨rfl, hsz, hP, hKx, hD0⟩ := hv
  have hx := B.exec
  have hb := B.bytes
  have hr := B.returns
  have hts := atoms_spec (ws := wq yX1_burntOn cX1_burntOn 4 (some .int)) B.pre
  have hown : s.vm.findClass RX1 = some m.cls := findClass_of_methodNamed B.named
  have hlocks := B.notSynchronized
  subst hsz
  have hD := hD0.self (sz := s.heap.size)
  generalize hAe : va_A [(j, .inr (1, [.ref k, .ref d, .ref jd, .ref jb, .ref jw, .ref jl, .int (-6), .int (-6), .int 800, .int 0, .int (-6), .int 0, .int 0, .int 0])), (d, .inr (4, [.ref ds, .int 0, .ref dk, .ref dw, .int 0, .int (-6)]))] s.heap.size = A at hD hKx ⊢
  have hA : ∀ q : Nat, s.heap.size ≤ q → A q := fun q h => by rw [← hAe]; exact Or.inr h
  have hS : va_S A s.heap s.heap [] := va_S.rf
  have hP : va_P (dC, dI) vwCl [(j, .inr (1, [.ref k, .ref d, .ref jd, .ref jb, .ref jw, .ref jl, .int (-6), .int (-6), .int 800, .int 0, .int (-6), .int 0, .int 0, .int 0])), (d, .inr (4, [.ref ds, .int 0, .ref dk, .ref dw, .int 0, .int (-6)]))] s.heap := hP
  have hl := lv_entry ([.ref j, .int i0]) (n := 4) (Nat.le_of_ble_eq_true rfl)
  rw [lg_entry_eq]
  generalize (lg_sl ([.ref j, .int i0]) ++ List.replicate (4 - (lg_sl ([.ref j, .int i0])).length) Slot.unset).toArray = ls at hl ⊢
  have hl : lv_has ls 4 [(0, .ref j), (1, .int i0)] := hl
  have hK := hKx.1
  have hin1 := fun w9 h9 => List.mem_cons_of_mem (Cond.code yX1_burntOn cX1_burntOn 4 (some .int)) (inlX1 w9 h9)
  have hin4 := fun w9 h9 => List.mem_cons_of_mem (Cond.code yX1_burntOn cX1_burntOn 4 (some .int)) (inlX4 w9 h9)
  have hw0 := hts (.fieldLink RX1 28 "OneCan$Course" "pad" "LOneCan$Pad;") (List.mem_cons_of_mem _ wm_51)
  have hw1 := hts (.fieldLink RX1 64 "OneCan$Pad" "acts" "I") (List.mem_cons_of_mem _ wm_52)
  refine lv_iconst (v := 0) hx hb dX1_burntOn_0 (by decide) ?_
  refine lv_istore_n (lv' := [(2, .int 0), (0, .ref j), (1, .int i0)]) hx hb dX1_burntOn_1 rfl hl (by decide) rfl (fun ls hl => ?_)
  refine lv_iconst (v := 0) hx hb dX1_burntOn_2 (by decide) ?_
  refine lv_istore_n (lv' := [(3, .int 0), (2, .int 0), (0, .ref j), (1, .int i0)]) hx hb dX1_burntOn_3 rfl hl (by decide) rfl (fun ls hl => ?_)
  refine lv_iload_n hx hb dX1_burntOn_4 rfl (lv_at hl 0 rfl) ?_
  refine lv_aload_n hx hb dX1_burntOn_5 rfl (lv_at hl 2 rfl) ?_
  refine va_get (D := (dC, dI)) (ci := 1) (v := .ref d) (C := RX1) (T := TX1) (N := 14) hx hb hts hin1 hown hK hP 0 rfl rfl 1 (by decide) hw0 (fun _ h9 => h9) rfl dX1_burntOn_6 ?_
  refine va_get (D := (dC, dI)) (ci := 4) (v := .int 0) (C := RX4) (T := TX4) (N := 6) hx hb hts hin4 hown hK hP 1 rfl rfl 4 (by decide) hw1 (fun _ h9 => h9) rfl dX1_burntOn_9 ?_
  refine lv_icmp_ge (tgt := 40) hx hb dX1_burntOn_12 (by decide) (fun c1 => ?_) (fun c1 => absurd c1 (by decide))
  refine lv_iload_n hx hb dX1_burntOn_40 rfl (lv_at hl 1 rfl) ?_
  have hP9 := mx_subP (wc := [(j, .inr (1, [.ref k, .ref d, .ref jd, .ref jb, .ref jw, .ref jl, .int (-6), .int (-6), .int 800, .int 0, .int (-6), .int 0, .int 0, .int 0])), (d, .inr (4, [.ref ds, .int 0, .ref dk, .ref dw, .int 0, .int (-6)]))]) hP [0, 1] rfl
  have hD9 := hD.sub (ws' := [(j, .inr (1, [.ref k, .ref d, .ref jd, .ref jb, .ref jw, .ref jl, .int (-6), .int (-6), .int 800, .int 0, .int (-6), .int 0, .int 0, .int 0])), (d, .inr (4, [.ref ds, .int 0, .ref dk, .ref dw, .int 0, .int (-6)]))]) [0, 1] (by decide) rfl
  exact W.iret (v := 0) hx hb hr (fun t ht hW => ⟨⟨0, (), rfl, rfl, by rw [ht]; exact hP9, hD9⟩, hS.F ht⟩) hS.2.2 dX1_burntOn_41
set_option maxHeartbeats 4000000 in
set_option maxRecDepth 100000 in
theorem c_X1_isCold (l : Launch) (dC : Nat → ClassId) (dI : Nat → Nat → Nat) (cI cZ cK : ClassId) (tS aK aV : Nat) (j : Nat) (jd : Nat) (jb : Nat) (jw : Nat) (jl : Nat) (k : Nat) (ks : Nat) (kw : Nat) (kc : Nat) (kq : Nat) (km : Nat) (kd : Nat) (ka : Nat) (kk : Nat) (d : Nat) (sz : Nat) : Ci l yX1_isCold (wq yX1_isCold cX1_isCold 1 (some .boolean)) ({ frames := 0, cells := 0, slots := 0, locals := 0 }) dC dI cI cZ cK tS aK aV [.ref j] sz [(j, .inr (1, [.ref k, .ref d, .ref jd, .ref jb, .ref jw, .ref jl, .int (-6), .int (-6), .int 800, .int 0, .int (-6), .int 0, .int 0, .int 0])), (k, .inr (0, [.ref ks, .ref kw, .ref kc, .int (-6), .int 0, .int 0, .ref kq, .ref km, .ref kd, .int 0, .ref ka, .ref kk])), (kc, .inl (cZ, 14, .inl (fun _ => 0)))] (fun (r : Int32) (_ : Unit) => r = 0) (fun _ => [(j, .inr (1, [.ref k, .ref d, .ref jd, .ref jb, .ref jw, .ref jl, .int (-6), .int (-6), .int 800, .int 0, .int (-6), .int 0, .int 0, .int 0])), (k, .inr (0, [.ref ks, .ref kw, .ref kc, .int (-6), .int 0, .int 0, .ref kq, .ref km, .ref kd, .int 0, .ref ka, .ref kk])), (kc, .inl (cZ, 14, .inl (fun _ => 0)))]) := by
  refine Met.ofW (cc := cX1_isCold) (maxL := 1) (ret := (some .boolean)) (by decide) rfl ?_
  intro p e s m args below meth c s₁ B hml hv
  obtain ⟨rfl, hsz, hP, hKx, hD0⟩ := hv
  have hx := B.exec
  have hb := B.bytes
  have hr := B.returns
  have hts := atoms_spec (ws := wq yX1_isCold cX1_isCold 1 (some .boolean)) B.pre
  have hown : s.vm.findClass RX1 = some m.cls := findClass_of_methodNamed B.named
  have hlocks := B.notSynchronized
  subst hsz
  have hD := hD0.self (sz := s.heap.size)
  generalize hAe : va_A [(j, .inr (1, [.ref k, .ref d, .ref jd, .ref jb, .ref jw, .ref jl, .int (-6), .int (-6), .int 800, .int 0, .int (-6), .int 0, .int 0, .int 0])), (k, .inr (0, [.ref ks, .ref kw, .ref kc, .int (-6), .int 0, .int 0, .ref kq, .ref km, .ref kd, .int 0, .ref ka, .ref kk])), (kc, .inl (cZ, 14, .inl (fun _ => 0)))] s.heap.size = A at hD hKx ⊢
  have hA : ∀ q : Nat, s.heap.size ≤ q → A q := fun q h => by rw [← hAe]; exact Or.inr h
  have hS : va_S A s.heap s.heap [] := va_S.rf
  have hP : va_P (dC, dI) vwCl [(j, .inr (1, [.ref k, .ref d, .ref jd, .ref jb, .ref jw, .ref jl, .int (-6), .int (-6), .int 800, .int 0, .int (-6), .int 0, .int 0, .int 0])), (k, .inr (0, [.ref ks, .ref kw, .ref kc, .int (-6), .int 0, .int 0, .ref kq, .ref km, .ref kd, .int 0, .ref ka, .ref kk])), (kc, .inl (cZ, 14, .inl (fun _ => 0)))] s.heap := hP
  have hl := lv_entry ([.ref j]) (n := 1) (Nat.le_of_ble_eq_true rfl)
  rw [lg_entry_eq]
  generalize (lg_sl ([.ref j]) ++ List.replicate (1 - (lg_sl ([.ref j])).length) Slot.unset).toArray = ls at hl ⊢
  have hl : lv_has ls 1 [(0, .ref j)] := hl
  have hK := hKx.1
  have hin1 := fun w9 h9 => List.mem_cons_of_mem (Cond.code yX1_isCold cX1_isCold 1 (some .boolean)) (inlX1 w9 h9)
  have hin0 := fun w9 h9 => List.mem_cons_of_mem (Cond.code yX1_isCold cX1_isCold 1 (some .boolean)) (inlX0 w9 h9)
  have hw0 := hts (.fieldLink RX1 24 "OneCan$Course" "camp" "LOneCan$Camp;") (List.mem_cons_of_mem _ wm_40)
  have hw1 := hts (.fieldLink RX1 80 "OneCan$Camp" "colds" "[Z") (List.mem_cons_of_mem _ wm_53)
  have hw2 := hts (.fieldLink RX1 47 "OneCan$Course" "day" "I") (List.mem_cons_of_mem _ wm_43)
  refine lv_aload_n hx hb dX1_isCold_0 rfl (lv_at hl 0 rfl) ?_
  refine va_get (D := (dC, dI)) (ci := 1) (v := .ref k) (C := RX1) (T := TX1) (N := 14) hx hb hts hin1 hown hK hP 0 rfl rfl 0 (by decide) hw0 (fun _ h9 => h9) rfl dX1_isCold_1 ?_
  refine va_get (D := (dC, dI)) (ci := 0) (v := .ref kc) (C := RX0) (T := TX0) (N := 12) hx hb hts hin0 hown hK hP 1 rfl rfl 2 (by decide) hw1 (fun _ h9 => h9) rfl dX1_isCold_4 ?_
  refine lv_aload_n hx hb dX1_isCold_7 rfl (lv_at hl 0 rfl) ?_
  refine va_get (D := (dC, dI)) (ci := 1) (v := .int 0) (C := RX1) (T := TX1) (N := 14) hx hb hts hin1 hown hK hP 0 rfl rfl 9 (by decide) hw2 (fun _ h9 => h9) rfl dX1_isCold_8 ?_
  refine va_zald hx hb hK hP 2 1 rfl rfl (vin (by decide) (by decide)) dX1_isCold_11 ?_
  refine lv_topi (fun x1 e1 => ?_)
  obtain rfl : x1 = 0 := e1.trans (by first | rfl | decide)
  refine lv_if_eq (tgt := 30) hx hb dX1_isCold_12 (by decide) (fun c2 => ?_) (fun c2 => absurd c2 (by decide))
  refine lv_iconst (v := 0) hx hb dX1_isCold_30 (by decide) ?_
  have hP9 := mx_subP (wc := [(j, .inr (1, [.ref k, .ref d, .ref jd, .ref jb, .ref jw, .ref jl, .int (-6), .int (-6), .int 800, .int 0, .int (-6), .int 0, .int 0, .int 0])), (k, .inr (0, [.ref ks, .ref kw, .ref kc, .int (-6), .int 0, .int 0, .ref kq, .ref km, .ref kd, .int 0, .ref ka, .ref kk])), (kc, .inl (cZ, 14, .inl (fun _ => 0)))]) hP [0, 1, 2] rfl
  have hD9 := hD.sub (ws' := [(j, .inr (1, [.ref k, .ref d, .ref jd, .ref jb, .ref jw, .ref jl, .int (-6), .int (-6), .int 800, .int 0, .int (-6), .int 0, .int 0, .int 0])), (k, .inr (0, [.ref ks, .ref kw, .ref kc, .int (-6), .int 0, .int 0, .ref kq, .ref km, .ref kd, .int 0, .ref ka, .ref kk])), (kc, .inl (cZ, 14, .inl (fun _ => 0)))]) [0, 1, 2] (by decide) rfl
  exact W.zret (v := 0) hx hb hr rfl (fun t ht hW => ⟨⟨0, (), rfl, rfl, by rw [ht]; exact hP9, hD9⟩, hS.F ht⟩) hS.2.2 dX1_isCold_31
set_option maxHeartbeats 4000000 in
set_option maxRecDepth 100000 in
theorem c_X7_planRefusal (l : Launch) (dC : Nat → ClassId) (dI : Nat → Nat → Nat) (cI cZ cK : ClassId) (tS aK aV : Nat) (h : Nat) (o : Nat) (f : Nat) (g : Nat) (wk : Nat) (im : Nat) (kt : Nat) (dl : Nat) (j : Nat) (jd : Nat) (jb : Nat) (jw : Nat) (jl : Nat) (k : Nat) (ks : Nat) (kw : Nat) (kc : Nat) (kq : Nat) (km : Nat) (kd : Nat) (ka : Nat) (kk : Nat) (d : Nat) (ds : Nat) (dk : Nat) (dw : Nat) (i0 : Int32) (sz : Nat) : Ci l yX7_planRefusal (wq yX7_planRefusal cX7_planRefusal 2 (some .int)) ({ frames := 3, cells := 0, slots := 0, locals := 64 }) dC dI cI cZ cK tS aK aV [.ref h, .int i0] sz [(h, .inr (7, [.ref k, .ref d, .ref j, .ref o, .ref f, .ref g, .ref wk, .ref im, .ref kt, .ref dl])), (d, .inr (4, [.ref ds, .int 0, .ref dk, .ref dw, .int 0, .int 0])), (j, .inr (1, [.ref k, .ref d, .ref jd, .ref jb, .ref jw, .ref jl, .int 0, .int 0, .int 0, .int 0, .int 0, .int 0, .int 0, .int 0])), (jl, .inl (cI, 61, .inl (fun _ => 0))), (k, .inr (0, [.ref ks, .ref kw, .ref kc, .int (-6), .int 0, .int 0, .ref kq, .ref km, .ref kd, .int 0, .ref ka, .ref kk])), (ks, .inl (cI, 5, .inl (upd (fun _ => 0) 0 800)))] (fun (r : Int32) (_ : Unit) => r = 0) (fun _ => [(h, .inr (7, [.ref k, .ref d, .ref j, .ref o, .ref f, .ref g, .ref wk, .ref im, .ref kt, .ref dl])), (d, .inr (4, [.ref ds, .int 0, .ref dk, .ref dw, .int 0, .int (-6)])), (j, .inr (1, [.ref k, .ref d, .ref jd, .ref jb, .ref jw, .ref jl, .int (-6), .int (-6), .int 800, .int 0, .int (-6), .int 0, .int 0, .int 0])), (jl, .inl (cI, 61, .inl (upd (fun _ => 0) 0 800))), (k, .inr (0, [.ref ks, .ref kw, .ref kc, .int (-6), .int 0, .int 0, .ref kq, .ref km, .ref kd, .int 0, .ref ka, .ref kk])), (ks, .inl (cI, 5, .inl (upd (fun _ => 0) 0 800)))]) := by
  refine Met.ofW (cc := cX7_planRefusal) (maxL := 2) (ret := (some .int)) (by decide) rfl ?_
  intro p e s m args below meth c s₁ B hml hv
  obtain ⟨rfl, hsz, hP, hKx, hD0⟩ := hv
  have hx := B.exec
  have hb := B.bytes
  have hr := B.returns
  have hts := atoms_spec (ws := wq yX7_planRefusal cX7_planRefusal 2 (some .int)) B.pre
  have hown : s.vm.findClass RX7 = some m.cls := findClass_of_methodNamed B.named
  have hlocks := B.notSynchronized
  subst hsz
  have hD := hD0.self (sz := s.heap.size)
  generalize hAe : va_A [(h, .inr (7, [.ref k, .ref d, .ref j, .ref o, .ref f, .ref g, .ref wk, .ref im, .ref kt, .ref dl])), (d, .inr (4, [.ref ds, .int 0, .ref dk, .ref dw, .int 0, .int 0])), (j, .inr (1, [.ref k, .ref d, .ref jd, .ref jb, .ref jw, .ref jl, .int 0, .int 0, .int 0, .int 0, .int 0, .int 0, .int 0, .int 0])), (jl, .inl (cI, 61, .inl (fun _ => 0))), (k, .inr (0, [.ref ks, .ref kw, .ref kc, .int (-6), .int 0, .int 0, .ref kq, .ref km, .ref kd, .int 0, .ref ka, .ref kk])), (ks, .inl (cI, 5, .inl (upd (fun _ => 0) 0 800)))] s.heap.size = A at hD hKx ⊢
  have hA : ∀ q : Nat, s.heap.size ≤ q → A q := fun q h => by rw [← hAe]; exact Or.inr h
  have hS : va_S A s.heap s.heap [] := va_S.rf
  have hP : va_P (dC, dI) vwCl [(h, .inr (7, [.ref k, .ref d, .ref j, .ref o, .ref f, .ref g, .ref wk, .ref im, .ref kt, .ref dl])), (d, .inr (4, [.ref ds, .int 0, .ref dk, .ref dw, .int 0, .int 0])), (j, .inr (1, [.ref k, .ref d, .ref jd, .ref jb, .ref jw, .ref jl, .int 0, .int 0, .int 0, .int 0, .int 0, .int 0, .int 0, .int 0])), (jl, .inl (cI, 61, .inl (fun _ => 0))), (k, .inr (0, [.ref ks, .ref kw, .ref kc, .int (-6), .int 0, .int 0, .ref kq, .ref km, .ref kd, .int 0, .ref ka, .ref kk])), (ks, .inl (cI, 5, .inl (upd (fun _ => 0) 0 800)))] s.heap := hP
  have hl := lv_entry ([.ref h, .int i0]) (n := 2) (Nat.le_of_ble_eq_true rfl)
  rw [lg_entry_eq]
  generalize (lg_sl ([.ref h, .int i0]) ++ List.replicate (2 - (lg_sl ([.ref h, .int i0])).length) Slot.unset).toArray = ls at hl ⊢
  have hl : lv_has ls 2 [(0, .ref h), (1, .int i0)] := hl
  have hK := hKx.1
  have hin7 := fun w9 h9 => List.mem_cons_of_mem (Cond.code yX7_planRefusal cX7_planRefusal 2 (some .int)) (inlX7 w9 h9)
  have hin4 := fun w9 h9 => List.mem_cons_of_mem (Cond.code yX7_planRefusal cX7_planRefusal 2 (some .int)) (inlX4 w9 h9)
  have hin1 := fun w9 h9 => List.mem_cons_of_mem (Cond.code yX7_planRefusal cX7_planRefusal 2 (some .int)) (inlX1 w9 h9)
  have hw0 := hts (.fieldLink RX7 19 "OneCan" "pad" "LOneCan$Pad;") (List.mem_cons_of_mem _ wm_54)
  have hw1 := hts (.fieldLink RX7 124 "OneCan$Pad" "wrong" "I") (List.mem_cons_of_mem _ wm_60)
  have hw2 := hts (.fieldLink RX7 28 "OneCan" "course" "LOneCan$Course;") (List.mem_cons_of_mem _ wm_61)
  have hw3 := hts (.fieldLink RX7 131 "OneCan$Course" "bad" "I") (List.mem_cons_of_mem _ wm_67)
  refine lv_aload_n hx hb dX7_planRefusal_0 rfl (lv_at hl 0 rfl) ?_
  refine va_get (D := (dC, dI)) (ci := 7) (v := .ref d) (C := RX7) (T := TX7) (N := 10) hx hb hts hin7 hown hK hP 0 rfl rfl 1 (by decide) hw0 (fun _ h9 => h9) rfl dX7_planRefusal_1 ?_
  refine mx_v (wr := [(h, .inr (7, [.ref k, .ref d, .ref j, .ref o, .ref f, .ref g, .ref wk, .ref im, .ref kt, .ref dl])), (j, .inr (1, [.ref k, .ref d, .ref jd, .ref jb, .ref jw, .ref jl, .int 0, .int 0, .int 0, .int 0, .int 0, .int 0, .int 0, .int 0])), (jl, .inl (cI, 61, .inl (fun _ => 0))), (k, .inr (0, [.ref ks, .ref kw, .ref kc, .int (-6), .int 0, .int 0, .ref kq, .ref km, .ref kd, .int 0, .ref ka, .ref kk])), (ks, .inl (cI, 5, .inl (upd (fun _ => 0) 0 800)))]) (va_runV (As := []) (rest := []) ⟨hx, hb, hml, hown, hts⟩ (c_X4_read l dC dI cI cZ cK tS aK aV d ds dk dw s.heap.size) (cwV 0 hts (gw_v (fun _ h9 => List.mem_cons_of_mem _ h9) wm_55 wm_56 wm_57 wm_58 wm_59) rfl rfl rfl (by decide +kernel) ⟨Nat.le_of_ble_eq_true rfl, Nat.le_of_ble_eq_true rfl⟩) (mx_preV (C := RX4) (T := TX4) (N := 6) (ci := 4) hKx hP hD hS hA [1] (by decide) rfl rfl rfl) rfl rfl hl.1 rfl (lv_room (Nat.le_of_ble_eq_true rfl)) dX7_planRefusal_4 ⟨Nat.le_of_ble_eq_true rfl, Nat.le_of_ble_eq_true rfl⟩) hP hD hS hA [1] [0, 2, 3, 4, 5] rfl rfl (by decide) (by decide) (fun u1 H locs hq1 hP hD hS => ?_)
  replace hP : va_P (dC, dI) vwCl [(h, .inr (7, [.ref k, .ref d, .ref j, .ref o, .ref f, .ref g, .ref wk, .ref im, .ref kt, .ref dl])), (j, .inr (1, [.ref k, .ref d, .ref jd, .ref jb, .ref jw, .ref jl, .int 0, .int 0, .int 0, .int 0, .int 0, .int 0, .int 0, .int 0])), (jl, .inl (cI, 61, .inl (fun _ => 0))), (k, .inr (0, [.ref ks, .ref kw, .ref kc, .int (-6), .int 0, .int 0, .ref kq, .ref km, .ref kd, .int 0, .ref ka, .ref kk])), (ks, .inl (cI, 5, .inl (upd (fun _ => 0) 0 800))), (d, .inr (4, [.ref ds, .int 0, .ref dk, .ref dw, .int 0, .int (-6)]))] H := hP
  replace hD : va_D A [(h, .inr (7, [.ref k, .ref d, .ref j, .ref o, .ref f, .ref g, .ref wk, .ref im, .ref kt, .ref dl])), (j, .inr (1, [.ref k, .ref d, .ref jd, .ref jb, .ref jw, .ref jl, .int 0, .int 0, .int 0, .int 0, .int 0, .int 0, .int 0, .int 0])), (jl, .inl (cI, 61, .inl (fun _ => 0))), (k, .inr (0, [.ref ks, .ref kw, .ref kc, .int (-6), .int 0, .int 0, .ref kq, .ref km, .ref kd, .int 0, .ref ka, .ref kk])), (ks, .inl (cI, 5, .inl (upd (fun _ => 0) 0 800))), (d, .inr (4, [.ref ds, .int 0, .ref dk, .ref dw, .int 0, .int (-6)]))] := hD
  refine lv_aload_n hx hb dX7_planRefusal_7 rfl (lv_at hl 0 rfl) ?_
  refine va_get (D := (dC, dI)) (ci := 7) (v := .ref d) (C := RX7) (T := TX7) (N := 10) hx hb hts hin7 hown hK hP 0 rfl rfl 1 (by decide) hw0 (fun _ h9 => h9) rfl dX7_planRefusal_8 ?_
  refine va_get (D := (dC, dI)) (ci := 4) (v := .int (-6)) (C := RX4) (T := TX4) (N := 6) hx hb hts hin4 hown hK hP 5 rfl rfl 5 (by decide) hw1 (fun _ h9 => h9) rfl dX7_planRefusal_11 ?_
  refine lv_bipush (v := (-6)) hx hb dX7_planRefusal_14 (by decide) ?_
  refine lv_icmp_eq (tgt := 22) hx hb dX7_planRefusal_16 (by decide) (fun c2 => ?_) (fun c2 => absurd c2 (by decide))
  refine lv_aload_n hx hb dX7_planRefusal_22 rfl (lv_at hl 0 rfl) ?_
  refine va_get (D := (dC, dI)) (ci := 7) (v := .ref j) (C := RX7) (T := TX7) (N := 10) hx hb hts hin7 hown hK hP 0 rfl rfl 2 (by decide) hw2 (fun _ h9 => h9) rfl dX7_planRefusal_23 ?_
  refine lv_iload_n hx hb dX7_planRefusal_26 rfl (lv_at hl 1 rfl) ?_
  refine mx_v (wr := [(h, .inr (7, [.ref k, .ref d, .ref j, .ref o, .ref f, .ref g, .ref wk, .ref im, .ref kt, .ref dl]))]) (va_runV (As := [.int i0]) (rest := []) ⟨hx, hb, hml, hown, hts⟩ (c_X1_run l dC dI cI cZ cK tS aK aV j jd jb jw jl k ks kw kc kq km kd ka kk d ds dk dw i0 H.size) (cwV 1 hts (gw_v (fun _ h9 => List.mem_cons_of_mem _ h9) wm_62 wm_63 wm_64 wm_65 wm_66) rfl rfl rfl (by decide +kernel) ⟨Nat.le_of_ble_eq_true rfl, Nat.le_of_ble_eq_true rfl⟩) (mx_preV (C := RX1) (T := TX1) (N := 14) (ci := 1) hKx hP hD hS hA [1, 2, 3, 4, 5] (by decide) rfl rfl rfl) rfl rfl hl.1 rfl (lv_room (Nat.le_of_ble_eq_true rfl)) dX7_planRefusal_27 ⟨Nat.le_of_ble_eq_true rfl, Nat.le_of_ble_eq_true rfl⟩) hP hD hS hA [1, 2, 3, 4, 5] [0] rfl rfl (by decide) (by decide) (fun u3 H locs hq3 hP hD hS => ?_)
  replace hP : va_P (dC, dI) vwCl [(h, .inr (7, [.ref k, .ref d, .ref j, .ref o, .ref f, .ref g, .ref wk, .ref im, .ref kt, .ref dl])), (j, .inr (1, [.ref k, .ref d, .ref jd, .ref jb, .ref jw, .ref jl, .int (-6), .int (-6), .int 800, .int 0, .int (-6), .int 0, .int 0, .int 0])), (jl, .inl (cI, 61, .inl (upd (fun _ => 0) 0 800))), (k, .inr (0, [.ref ks, .ref kw, .ref kc, .int (-6), .int 0, .int 0, .ref kq, .ref km, .ref kd, .int 0, .ref ka, .ref kk])), (ks, .inl (cI, 5, .inl (upd (fun _ => 0) 0 800))), (d, .inr (4, [.ref ds, .int 0, .ref dk, .ref dw, .int 0, .int (-6)]))] H := hP
  replace hD : va_D A [(h, .inr (7, [.ref k, .ref d, .ref j, .ref o, .ref f, .ref g, .ref wk, .ref im, .ref kt, .ref dl])), (j, .inr (1, [.ref k, .ref d, .ref jd, .ref jb, .ref jw, .ref jl, .int (-6), .int (-6), .int 800, .int 0, .int (-6), .int 0, .int 0, .int 0])), (jl, .inl (cI, 61, .inl (upd (fun _ => 0) 0 800))), (k, .inr (0, [.ref ks, .ref kw, .ref kc, .int (-6), .int 0, .int 0, .ref kq, .ref km, .ref kd, .int 0, .ref ka, .ref kk])), (ks, .inl (cI, 5, .inl (upd (fun _ => 0) 0 800))), (d, .inr (4, [.ref ds, .int 0, .ref dk, .ref dw, .int 0, .int (-6)]))] := hD
  refine lv_aload_n hx hb dX7_planRefusal_30 rfl (lv_at hl 0 rfl) ?_
  refine va_get (D := (dC, dI)) (ci := 7) (v := .ref j) (C := RX7) (T := TX7) (N := 10) hx hb hts hin7 hown hK hP 0 rfl rfl 2 (by decide) hw2 (fun _ h9 => h9) rfl dX7_planRefusal_31 ?_
  refine va_get (D := (dC, dI)) (ci := 1) (v := .int (-6)) (C := RX1) (T := TX1) (N := 14) hx hb hts hin1 hown hK hP 1 rfl rfl 6 (by decide) hw3 (fun _ h9 => h9) rfl dX7_planRefusal_34 ?_
  refine lv_bipush (v := (-6)) hx hb dX7_planRefusal_37 (by decide) ?_
  refine lv_icmp_eq (tgt := 47) hx hb dX7_planRefusal_39 (by decide) (fun c4 => ?_) (fun c4 => absurd c4 (by decide))
  refine lv_iconst (v := 0) hx hb dX7_planRefusal_47 (by decide) ?_
  have hP9 := mx_subP (wc := [(h, .inr (7, [.ref k, .ref d, .ref j, .ref o, .ref f, .ref g, .ref wk, .ref im, .ref kt, .ref dl])), (d, .inr (4, [.ref ds, .int 0, .ref dk, .ref dw, .int 0, .int (-6)])), (j, .inr (1, [.ref k, .ref d, .ref jd, .ref jb, .ref jw, .ref jl, .int (-6), .int (-6), .int 800, .int 0, .int (-6), .int 0, .int 0, .int 0])), (jl, .inl (cI, 61, .inl (upd (fun _ => 0) 0 800))), (k, .inr (0, [.ref ks, .ref kw, .ref kc, .int (-6), .int 0, .int 0, .ref kq, .ref km, .ref kd, .int 0, .ref ka, .ref kk])), (ks, .inl (cI, 5, .inl (upd (fun _ => 0) 0 800)))]) hP [0, 5, 1, 2, 3, 4] rfl
  have hD9 := hD.sub (ws' := [(h, .inr (7, [.ref k, .ref d, .ref j, .ref o, .ref f, .ref g, .ref wk, .ref im, .ref kt, .ref dl])), (d, .inr (4, [.ref ds, .int 0, .ref dk, .ref dw, .int 0, .int (-6)])), (j, .inr (1, [.ref k, .ref d, .ref jd, .ref jb, .ref jw, .ref jl, .int (-6), .int (-6), .int 800, .int 0, .int (-6), .int 0, .int 0, .int 0])), (jl, .inl (cI, 61, .inl (upd (fun _ => 0) 0 800))), (k, .inr (0, [.ref ks, .ref kw, .ref kc, .int (-6), .int 0, .int 0, .ref kq, .ref km, .ref kd, .int 0, .ref ka, .ref kk])), (ks, .inl (cI, 5, .inl (upd (fun _ => 0) 0 800)))]) [0, 5, 1, 2, 3, 4] (by decide) rfl
  exact W.iret (v := 0) hx hb hr (fun t ht hW => ⟨⟨0, (), rfl, rfl, by rw [ht]; exact hP9, hD9⟩, hS.F ht⟩) hS.2.2 dX7_planRefusal_48
set_option maxHeartbeats 4000000 in
set_option maxRecDepth 100000 in
theorem c_X7_fault (l : Launch) (dC : Nat → ClassId) (dI : Nat → Nat → Nat) (cI cZ cK : ClassId) (tS aK aV : Nat) (h : Nat) (o : Nat) (f : Nat) (g : Nat) (wk : Nat) (im : Nat) (kt : Nat) (dl : Nat) (j : Nat) (k : Nat) (d : Nat) (ds : Nat) (dk : Nat) (dw : Nat) (sz : Nat) : Ci l yX7_fault (wq yX7_fault cX7_fault 1 (some .int)) ({ frames := 3, cells := 0, slots := 0, locals := 64 }) dC dI cI cZ cK tS aK aV [.ref h] sz [(h, .inr (7, [.ref k, .ref d, .ref j, .ref o, .ref f, .ref g, .ref wk, .ref im, .ref kt, .ref dl])), (d, .inr (4, [.ref ds, .int 0, .ref dk, .ref dw, .int 0, .int 0]))] (fun (r : Int32) (_ : Unit) => r = (-6)) (fun _ => []) := by
  refine Met.ofW (cc := cX7_fault) (maxL := 1) (ret := (some .int)) (by decide) rfl ?_
  intro p e s m args below meth c s₁ B hml hv
  obtain ⟨rfl, hsz, hP, hKx, hD0⟩ := hv
  have hx := B.exec
  have hb := B.bytes
  have hr := B.returns
  have hts := atoms_spec (ws := wq yX7_fault cX7_fault 1 (some .int)) B.pre
  have hown : s.vm.findClass RX7 = some m.cls := findClass_of_methodNamed B.named
  have hlocks := B.notSynchronized
  subst hsz
  have hD := hD0.self (sz := s.heap.size)
  generalize hAe : va_A [(h, .inr (7, [.ref k, .ref d, .ref j, .ref o, .ref f, .ref g, .ref wk, .ref im, .ref kt, .ref dl])), (d, .inr (4, [.ref ds, .int 0, .ref dk, .ref dw, .int 0, .int 0]))] s.heap.size = A at hD hKx ⊢
  have hA : ∀ q : Nat, s.heap.size ≤ q → A q := fun q h => by rw [← hAe]; exact Or.inr h
  have hS : va_S A s.heap s.heap [] := va_S.rf
  have hP : va_P (dC, dI) vwCl [(h, .inr (7, [.ref k, .ref d, .ref j, .ref o, .ref f, .ref g, .ref wk, .ref im, .ref kt, .ref dl])), (d, .inr (4, [.ref ds, .int 0, .ref dk, .ref dw, .int 0, .int 0]))] s.heap := hP
  have hl := lv_entry ([.ref h]) (n := 1) (Nat.le_of_ble_eq_true rfl)
  rw [lg_entry_eq]
  generalize (lg_sl ([.ref h]) ++ List.replicate (1 - (lg_sl ([.ref h])).length) Slot.unset).toArray = ls at hl ⊢
  have hl : lv_has ls 1 [(0, .ref h)] := hl
  have hK := hKx.1
  have hin7 := fun w9 h9 => List.mem_cons_of_mem (Cond.code yX7_fault cX7_fault 1 (some .int)) (inlX7 w9 h9)
  have hin4 := fun w9 h9 => List.mem_cons_of_mem (Cond.code yX7_fault cX7_fault 1 (some .int)) (inlX4 w9 h9)
  have hw0 := hts (.fieldLink RX7 19 "OneCan" "pad" "LOneCan$Pad;") (List.mem_cons_of_mem _ wm_54)
  have hw1 := hts (.fieldLink RX7 124 "OneCan$Pad" "wrong" "I") (List.mem_cons_of_mem _ wm_60)
  refine lv_aload_n hx hb dX7_fault_0 rfl (lv_at hl 0 rfl) ?_
  refine va_get (D := (dC, dI)) (ci := 7) (v := .ref d) (C := RX7) (T := TX7) (N := 10) hx hb hts hin7 hown hK hP 0 rfl rfl 1 (by decide) hw0 (fun _ h9 => h9) rfl dX7_fault_1 ?_
  refine mx_v (wr := [(h, .inr (7, [.ref k, .ref d, .ref j, .ref o, .ref f, .ref g, .ref wk, .ref im, .ref kt, .ref dl]))]) (va_runV (As := []) (rest := []) ⟨hx, hb, hml, hown, hts⟩ (c_X4_read l dC dI cI cZ cK tS aK aV d ds dk dw s.heap.size) (cwV 0 hts (gw_v (fun _ h9 => List.mem_cons_of_mem _ h9) wm_55 wm_56 wm_57 wm_58 wm_59) rfl rfl rfl (by decide +kernel) ⟨Nat.le_of_ble_eq_true rfl, Nat.le_of_ble_eq_true rfl⟩) (mx_preV (C := RX4) (T := TX4) (N := 6) (ci := 4) hKx hP hD hS hA [1] (by decide) rfl rfl rfl) rfl rfl hl.1 rfl (lv_room (Nat.le_of_ble_eq_true rfl)) dX7_fault_4 ⟨Nat.le_of_ble_eq_true rfl, Nat.le_of_ble_eq_true rfl⟩) hP hD hS hA [1] [0] rfl rfl (by decide) (by decide) (fun u1 H locs hq1 hP hD hS => ?_)
  replace hP : va_P (dC, dI) vwCl [(h, .inr (7, [.ref k, .ref d, .ref j, .ref o, .ref f, .ref g, .ref wk, .ref im, .ref kt, .ref dl])), (d, .inr (4, [.ref ds, .int 0, .ref dk, .ref dw, .int 0, .int (-6)]))] H := hP
  replace hD : va_D A [(h, .inr (7, [.ref k, .ref d, .ref j, .ref o, .ref f, .ref g, .ref wk, .ref im, .ref kt, .ref dl])), (d, .inr (4, [.ref ds, .int 0, .ref dk, .ref dw, .int 0, .int (-6)]))] := hD
  refine lv_aload_n hx hb dX7_fault_7 rfl (lv_at hl 0 rfl) ?_
  refine va_get (D := (dC, dI)) (ci := 7) (v := .ref d) (C := RX7) (T := TX7) (N := 10) hx hb hts hin7 hown hK hP 0 rfl rfl 1 (by decide) hw0 (fun _ h9 => h9) rfl dX7_fault_8 ?_
  refine va_get (D := (dC, dI)) (ci := 4) (v := .int (-6)) (C := RX4) (T := TX4) (N := 6) hx hb hts hin4 hown hK hP 1 rfl rfl 5 (by decide) hw1 (fun _ h9 => h9) rfl dX7_fault_11 ?_
  have hP9 := mx_subP (wc := []) hP [] rfl
  have hD9 := hD.sub (ws' := []) [] (by decide) rfl
  exact W.iret (v := (-6)) hx hb hr (fun t ht hW => ⟨⟨(-6), (), rfl, rfl, by rw [ht]; exact hP9, hD9⟩, hS.F ht⟩) hS.2.2 dX7_fault_14
set_option maxHeartbeats 4000000 in
set_option maxRecDepth 100000 in
theorem c_X7_wipe (l : Launch) (dC : Nat → ClassId) (dI : Nat → Nat → Nat) (cI cZ cK : ClassId) (tS aK aV : Nat) (h : Nat) (o : Nat) (f : Nat) (g : Nat) (wk : Nat) (im : Nat) (kt : Nat) (dl : Nat) (j : Nat) (k : Nat) (d : Nat) (ds : Nat) (dk : Nat) (dw : Nat) (sz : Nat) : Ci l yX7_wipe (wq yX7_wipe cX7_wipe 2 (some .int)) ({ frames := 0, cells := 0, slots := 0, locals := 0 }) dC dI cI cZ cK tS aK aV [.ref h] sz [(h, .inr (7, [.ref k, .ref d, .ref j, .ref o, .ref f, .ref g, .ref wk, .ref im, .ref kt, .ref dl])), (d, .inr (4, [.ref ds, .int 0, .ref dk, .ref dw, .int 0, .int 0]))] (fun (r : Int32) (_ : Unit) => r = 0) (fun _ => []) := by
  refine Met.ofW (cc := cX7_wipe) (maxL := 2) (ret := (some .int)) (by decide) rfl ?_
  intro p e s m args below meth c s₁ B hml hv
  obtain ⟨rfl, hsz, hP, hKx, hD0⟩ := hv
  have hx := B.exec
  have hb := B.bytes
  have hr := B.returns
  have hts := atoms_spec (ws := wq yX7_wipe cX7_wipe 2 (some .int)) B.pre
  have hown : s.vm.findClass RX7 = some m.cls := findClass_of_methodNamed B.named
  have hlocks := B.notSynchronized
  subst hsz
  have hD := hD0.self (sz := s.heap.size)
  generalize hAe : va_A [(h, .inr (7, [.ref k, .ref d, .ref j, .ref o, .ref f, .ref g, .ref wk, .ref im, .ref kt, .ref dl])), (d, .inr (4, [.ref ds, .int 0, .ref dk, .ref dw, .int 0, .int 0]))] s.heap.size = A at hD hKx ⊢
  have hA : ∀ q : Nat, s.heap.size ≤ q → A q := fun q h => by rw [← hAe]; exact Or.inr h
  have hS : va_S A s.heap s.heap [] := va_S.rf
  have hP : va_P (dC, dI) vwCl [(h, .inr (7, [.ref k, .ref d, .ref j, .ref o, .ref f, .ref g, .ref wk, .ref im, .ref kt, .ref dl])), (d, .inr (4, [.ref ds, .int 0, .ref dk, .ref dw, .int 0, .int 0]))] s.heap := hP
  have hl := lv_entry ([.ref h]) (n := 2) (Nat.le_of_ble_eq_true rfl)
  rw [lg_entry_eq]
  generalize (lg_sl ([.ref h]) ++ List.replicate (2 - (lg_sl ([.ref h])).length) Slot.unset).toArray = ls at hl ⊢
  have hl : lv_has ls 2 [(0, .ref h)] := hl
  have hK := hKx.1
  have hin7 := fun w9 h9 => List.mem_cons_of_mem (Cond.code yX7_wipe cX7_wipe 2 (some .int)) (inlX7 w9 h9)
  have hin4 := fun w9 h9 => List.mem_cons_of_mem (Cond.code yX7_wipe cX7_wipe 2 (some .int)) (inlX4 w9 h9)
  have hw0 := hts (.fieldLink RX7 19 "OneCan" "pad" "LOneCan$Pad;") (List.mem_cons_of_mem _ wm_54)
  have hw1 := hts (.fieldLink RX7 115 "OneCan$Pad" "size" "I") (List.mem_cons_of_mem _ wm_68)
  refine lv_aload_n hx hb dX7_wipe_0 rfl (lv_at hl 0 rfl) ?_
  refine va_get (D := (dC, dI)) (ci := 7) (v := .ref d) (C := RX7) (T := TX7) (N := 10) hx hb hts hin7 hown hK hP 0 rfl rfl 1 (by decide) hw0 (fun _ h9 => h9) rfl dX7_wipe_1 ?_
  refine va_get (D := (dC, dI)) (ci := 4) (v := .int 0) (C := RX4) (T := TX4) (N := 6) hx hb hts hin4 hown hK hP 1 rfl rfl 1 (by decide) hw1 (fun _ h9 => h9) rfl dX7_wipe_4 ?_
  refine lv_istore_n (lv' := [(1, .int 0), (0, .ref h)]) hx hb dX7_wipe_7 rfl hl (by decide) rfl (fun ls hl => ?_)
  refine lv_aload_n hx hb dX7_wipe_8 rfl (lv_at hl 1 rfl) ?_
  refine va_get (D := (dC, dI)) (ci := 7) (v := .ref d) (C := RX7) (T := TX7) (N := 10) hx hb hts hin7 hown hK hP 0 rfl rfl 1 (by decide) hw0 (fun _ h9 => h9) rfl dX7_wipe_9 ?_
  refine lv_iconst (v := 0) hx hb dX7_wipe_12 (by decide) ?_
  refine va_put (D := (dC, dI)) (ci := 4) (v := .int 0) (ty := .int) (C := RX4) (T := TX4) (N := 6) hx hb hts hin4 tyX4 tyX4_ok nmX4 hown hK hP hD hS 1 rfl rfl 1 (by decide) hw1 (fun _ h9 => h9) rfl (by decide +kernel) rfl rfl (Nat.le_of_ble_eq_true rfl) dX7_wipe_13 (fun H locs hP hD hS => ?_)
  replace hP : va_P (dC, dI) vwCl [(h, .inr (7, [.ref k, .ref d, .ref j, .ref o, .ref f, .ref g, .ref wk, .ref im, .ref kt, .ref dl])), (d, .inr (4, [.ref ds, .int 0, .ref dk, .ref dw, .int 0, .int 0]))] H := hP
  replace hD : va_D A [(h, .inr (7, [.ref k, .ref d, .ref j, .ref o, .ref f, .ref g, .ref wk, .ref im, .ref kt, .ref dl])), (d, .inr (4, [.ref ds, .int 0, .ref dk, .ref dw, .int 0, .int 0]))] := hD
  refine lv_iload_n hx hb dX7_wipe_16 rfl (lv_at hl 0 rfl) ?_
  have hP9 := mx_subP (wc := []) hP [] rfl
  have hD9 := hD.sub (ws' := []) [] (by decide) rfl
  exact W.iret (v := 0) hx hb hr (fun t ht hW => ⟨⟨0, (), rfl, rfl, by rw [ht]; exact hP9, hD9⟩, hS.F ht⟩) hS.2.2 dX7_wipe_17
set_option maxHeartbeats 4000000 in
set_option maxRecDepth 100000 in
theorem c_X7_mark (l : Launch) (dC : Nat → ClassId) (dI : Nat → Nat → Nat) (cI cZ cK : ClassId) (tS aK aV : Nat) (h : Nat) (o : Nat) (f : Nat) (g : Nat) (wk : Nat) (im : Nat) (kt : Nat) (dl : Nat) (j : Nat) (k : Nat) (ks : Nat) (kw : Nat) (kc : Nat) (kq : Nat) (km : Nat) (kd : Nat) (ka : Nat) (kk : Nat) (d : Nat) (sz : Nat) : Ci l yX7_mark (wq yX7_mark cX7_mark 1 (some .int)) ({ frames := 0, cells := 0, slots := 0, locals := 0 }) dC dI cI cZ cK tS aK aV [.ref h] sz [(h, .inr (7, [.ref k, .ref d, .ref j, .ref o, .ref f, .ref g, .ref wk, .ref im, .ref kt, .ref dl])), (k, .inr (0, [.ref ks, .ref kw, .ref kc, .int (-6), .int 0, .int 0, .ref kq, .ref km, .ref kd, .int 0, .ref ka, .ref kk])), (ks, .inl (cI, 5, .inl (upd (fun _ => 0) 0 800)))] (fun (r : Int32) (_ : Unit) => r = 4) (fun _ => []) := by
  refine Met.ofW (cc := cX7_mark) (maxL := 1) (ret := (some .int)) (by decide) rfl ?_
  intro p e s m args below meth c s₁ B hml hv
  obtain ⟨rfl, hsz, hP, hKx, hD0⟩ := hv
  have hx := B.exec
  have hb := B.bytes
  have hr := B.returns
  have hts := atoms_spec (ws := wq yX7_mark cX7_mark 1 (some .int)) B.pre
  have hown : s.vm.findClass RX7 = some m.cls := findClass_of_methodNamed B.named
  have hlocks := B.notSynchronized
  subst hsz
  have hD := hD0.self (sz := s.heap.size)
  generalize hAe : va_A [(h, .inr (7, [.ref k, .ref d, .ref j, .ref o, .ref f, .ref g, .ref wk, .ref im, .ref kt, .ref dl])), (k, .inr (0, [.ref ks, .ref kw, .ref kc, .int (-6), .int 0, .int 0, .ref kq, .ref km, .ref kd, .int 0, .ref ka, .ref kk])), (ks, .inl (cI, 5, .inl (upd (fun _ => 0) 0 800)))] s.heap.size = A at hD hKx ⊢
  have hA : ∀ q : Nat, s.heap.size ≤ q → A q := fun q h => by rw [← hAe]; exact Or.inr h
  have hS : va_S A s.heap s.heap [] := va_S.rf
  have hP : va_P (dC, dI) vwCl [(h, .inr (7, [.ref k, .ref d, .ref j, .ref o, .ref f, .ref g, .ref wk, .ref im, .ref kt, .ref dl])), (k, .inr (0, [.ref ks, .ref kw, .ref kc, .int (-6), .int 0, .int 0, .ref kq, .ref km, .ref kd, .int 0, .ref ka, .ref kk])), (ks, .inl (cI, 5, .inl (upd (fun _ => 0) 0 800)))] s.heap := hP
  have hl := lv_entry ([.ref h]) (n := 1) (Nat.le_of_ble_eq_true rfl)
  rw [lg_entry_eq]
  generalize (lg_sl ([.ref h]) ++ List.replicate (1 - (lg_sl ([.ref h])).length) Slot.unset).toArray = ls at hl ⊢
  have hl : lv_has ls 1 [(0, .ref h)] := hl
  have hK := hKx.1
  have hin7 := fun w9 h9 => List.mem_cons_of_mem (Cond.code yX7_mark cX7_mark 1 (some .int)) (inlX7 w9 h9)
  have hin0 := fun w9 h9 => List.mem_cons_of_mem (Cond.code yX7_mark cX7_mark 1 (some .int)) (inlX0 w9 h9)
  have hw0 := hts (.fieldLink RX7 12 "OneCan" "camp" "LOneCan$Camp;") (List.mem_cons_of_mem _ wm_69)
  have hw1 := hts (.fieldLink RX7 83 "OneCan$Camp" "settings" "[I") (List.mem_cons_of_mem _ wm_70)
  refine lv_aload_n hx hb dX7_mark_0 rfl (lv_at hl 0 rfl) ?_
  refine va_get (D := (dC, dI)) (ci := 7) (v := .ref k) (C := RX7) (T := TX7) (N := 10) hx hb hts hin7 hown hK hP 0 rfl rfl 0 (by decide) hw0 (fun _ h9 => h9) rfl dX7_mark_1 ?_
  refine va_get (D := (dC, dI)) (ci := 0) (v := .ref ks) (C := RX0) (T := TX0) (N := 12) hx hb hts hin0 hown hK hP 1 rfl rfl 0 (by decide) hw1 (fun _ h9 => h9) rfl dX7_mark_4 ?_
  refine lv_iconst (v := 0) hx hb dX7_mark_7 (by decide) ?_
  refine va_iald hx hb hK hP 2 0 rfl rfl (vin (by decide) (by decide)) dX7_mark_8 ?_
  refine lv_topi (fun x1 e1 => ?_)
  obtain rfl : x1 = 800 := e1.trans (by first | rfl | decide)
  refine lv_sipush (v := 200) hx hb dX7_mark_9 (by decide) ?_
  refine lv_idiv hx hb dX7_mark_12 (by decide) ?_
  refine lv_topi (fun x2 e2 => ?_)
  obtain rfl : x2 = 4 := e2.trans (by decide)
  have hP9 := mx_subP (wc := []) hP [] rfl
  have hD9 := hD.sub (ws' := []) [] (by decide) rfl
  exact W.iret (v := 4) hx hb hr (fun t ht hW => ⟨⟨4, (), rfl, rfl, by rw [ht]; exact hP9, hD9⟩, hS.F ht⟩) hS.2.2 dX7_mark_13
set_option maxHeartbeats 4000000 in
set_option maxRecDepth 100000 in
theorem c_X7_forget (l : Launch) (dC : Nat → ClassId) (dI : Nat → Nat → Nat) (cI cZ cK : ClassId) (tS aK aV : Nat) (h : Nat) (o : Nat) (f : Nat) (g : Nat) (wk : Nat) (im : Nat) (kt : Nat) (dl : Nat) (j : Nat) (k : Nat) (ks : Nat) (kw : Nat) (kc : Nat) (kq : Nat) (km : Nat) (kd : Nat) (ka : Nat) (kk : Nat) (d : Nat) (sz : Nat) : Ci l yX7_forget (wq yX7_forget cX7_forget 2 (some .int)) ({ frames := 0, cells := 0, slots := 0, locals := 0 }) dC dI cI cZ cK tS aK aV [.ref h] sz [(h, .inr (7, [.ref k, .ref d, .ref j, .ref o, .ref f, .ref g, .ref wk, .ref im, .ref kt, .ref dl])), (k, .inr (0, [.ref ks, .ref kw, .ref kc, .int (-6), .int 0, .int 0, .ref kq, .ref km, .ref kd, .int 0, .ref ka, .ref kk]))] (fun (r : Int32) (_ : Unit) => r = 0) (fun _ => []) := by
  refine Met.ofW (cc := cX7_forget) (maxL := 2) (ret := (some .int)) (by decide) rfl ?_
  intro p e s m args below meth c s₁ B hml hv
  obtain ⟨rfl, hsz, hP, hKx, hD0⟩ := hv
  have hx := B.exec
  have hb := B.bytes
  have hr := B.returns
  have hts := atoms_spec (ws := wq yX7_forget cX7_forget 2 (some .int)) B.pre
  have hown : s.vm.findClass RX7 = some m.cls := findClass_of_methodNamed B.named
  have hlocks := B.notSynchronized
  subst hsz
  have hD := hD0.self (sz := s.heap.size)
  generalize hAe : va_A [(h, .inr (7, [.ref k, .ref d, .ref j, .ref o, .ref f, .ref g, .ref wk, .ref im, .ref kt, .ref dl])), (k, .inr (0, [.ref ks, .ref kw, .ref kc, .int (-6), .int 0, .int 0, .ref kq, .ref km, .ref kd, .int 0, .ref ka, .ref kk]))] s.heap.size = A at hD hKx ⊢
  have hA : ∀ q : Nat, s.heap.size ≤ q → A q := fun q h => by rw [← hAe]; exact Or.inr h
  have hS : va_S A s.heap s.heap [] := va_S.rf
  have hP : va_P (dC, dI) vwCl [(h, .inr (7, [.ref k, .ref d, .ref j, .ref o, .ref f, .ref g, .ref wk, .ref im, .ref kt, .ref dl])), (k, .inr (0, [.ref ks, .ref kw, .ref kc, .int (-6), .int 0, .int 0, .ref kq, .ref km, .ref kd, .int 0, .ref ka, .ref kk]))] s.heap := hP
  have hl := lv_entry ([.ref h]) (n := 2) (Nat.le_of_ble_eq_true rfl)
  rw [lg_entry_eq]
  generalize (lg_sl ([.ref h]) ++ List.replicate (2 - (lg_sl ([.ref h])).length) Slot.unset).toArray = ls at hl ⊢
  have hl : lv_has ls 2 [(0, .ref h)] := hl
  have hK := hKx.1
  have hin7 := fun w9 h9 => List.mem_cons_of_mem (Cond.code yX7_forget cX7_forget 2 (some .int)) (inlX7 w9 h9)
  have hin0 := fun w9 h9 => List.mem_cons_of_mem (Cond.code yX7_forget cX7_forget 2 (some .int)) (inlX0 w9 h9)
  have hw0 := hts (.fieldLink RX7 12 "OneCan" "camp" "LOneCan$Camp;") (List.mem_cons_of_mem _ wm_69)
  have hw1 := hts (.fieldLink RX7 206 "OneCan$Camp" "sights" "I") (List.mem_cons_of_mem _ wm_71)
  refine lv_aload_n hx hb dX7_forget_0 rfl (lv_at hl 0 rfl) ?_
  refine va_get (D := (dC, dI)) (ci := 7) (v := .ref k) (C := RX7) (T := TX7) (N := 10) hx hb hts hin7 hown hK hP 0 rfl rfl 0 (by decide) hw0 (fun _ h9 => h9) rfl dX7_forget_1 ?_
  refine va_get (D := (dC, dI)) (ci := 0) (v := .int 0) (C := RX0) (T := TX0) (N := 12) hx hb hts hin0 hown hK hP 1 rfl rfl 9 (by decide) hw1 (fun _ h9 => h9) rfl dX7_forget_4 ?_
  refine lv_istore_n (lv' := [(1, .int 0), (0, .ref h)]) hx hb dX7_forget_7 rfl hl (by decide) rfl (fun ls hl => ?_)
  refine lv_aload_n hx hb dX7_forget_8 rfl (lv_at hl 1 rfl) ?_
  refine va_get (D := (dC, dI)) (ci := 7) (v := .ref k) (C := RX7) (T := TX7) (N := 10) hx hb hts hin7 hown hK hP 0 rfl rfl 0 (by decide) hw0 (fun _ h9 => h9) rfl dX7_forget_9 ?_
  refine lv_iconst (v := 0) hx hb dX7_forget_12 (by decide) ?_
  refine va_put (D := (dC, dI)) (ci := 0) (v := .int 0) (ty := .int) (C := RX0) (T := TX0) (N := 12) hx hb hts hin0 tyX0 tyX0_ok nmX0 hown hK hP hD hS 1 rfl rfl 9 (by decide) hw1 (fun _ h9 => h9) rfl (by decide +kernel) rfl rfl (Nat.le_of_ble_eq_true rfl) dX7_forget_13 (fun H locs hP hD hS => ?_)
  replace hP : va_P (dC, dI) vwCl [(h, .inr (7, [.ref k, .ref d, .ref j, .ref o, .ref f, .ref g, .ref wk, .ref im, .ref kt, .ref dl])), (k, .inr (0, [.ref ks, .ref kw, .ref kc, .int (-6), .int 0, .int 0, .ref kq, .ref km, .ref kd, .int 0, .ref ka, .ref kk]))] H := hP
  replace hD : va_D A [(h, .inr (7, [.ref k, .ref d, .ref j, .ref o, .ref f, .ref g, .ref wk, .ref im, .ref kt, .ref dl])), (k, .inr (0, [.ref ks, .ref kw, .ref kc, .int (-6), .int 0, .int 0, .ref kq, .ref km, .ref kd, .int 0, .ref ka, .ref kk]))] := hD
  refine lv_iload_n hx hb dX7_forget_16 rfl (lv_at hl 0 rfl) ?_
  have hP9 := mx_subP (wc := []) hP [] rfl
  have hD9 := hD.sub (ws' := []) [] (by decide) rfl
  exact W.iret (v := 0) hx hb hr (fun t ht hW => ⟨⟨0, (), rfl, rfl, by rw [ht]; exact hP9, hD9⟩, hS.F ht⟩) hS.2.2 dX7_forget_17
set_option maxHeartbeats 4000000 in
set_option maxRecDepth 100000 in
theorem c_X7_judge (l : Launch) (dC : Nat → ClassId) (dI : Nat → Nat → Nat) (cI cZ cK : ClassId) (tS aK aV : Nat) (h : Nat) (o : Nat) (f : Nat) (g : Nat) (wk : Nat) (im : Nat) (kt : Nat) (dl : Nat) (j : Nat) (jd : Nat) (jb : Nat) (jw : Nat) (jl : Nat) (k : Nat) (ks : Nat) (kw : Nat) (kc : Nat) (kq : Nat) (km : Nat) (kd : Nat) (ka : Nat) (kk : Nat) (d : Nat) (ds : Nat) (dk : Nat) (dw : Nat) (i0 : Int32) (sz : Nat) : Ci l yX7_judge (wq yX7_judge cX7_judge 3 (some .int)) ({ frames := 4, cells := 0, slots := 0, locals := 85 }) dC dI cI cZ cK tS aK aV [.ref h, .int i0] sz [(h, .inr (7, [.ref k, .ref d, .ref j, .ref o, .ref f, .ref g, .ref wk, .ref im, .ref kt, .ref dl])), (d, .inr (4, [.ref ds, .int 0, .ref dk, .ref dw, .int 0, .int 0])), (j, .inr (1, [.ref k, .ref d, .ref jd, .ref jb, .ref jw, .ref jl, .int 0, .int 0, .int 0, .int 0, .int 0, .int 0, .int 0, .int 0])), (jl, .inl (cI, 61, .inl (fun _ => 0))), (k, .inr (0, [.ref ks, .ref kw, .ref kc, .int (-6), .int 0, .int 0, .ref kq, .ref km, .ref kd, .int 0, .ref ka, .ref kk])), (ks, .inl (cI, 5, .inl (upd (fun _ => 0) 0 800)))] (fun (r : Int32) (_ : Unit) => (r = (-6) ∧ (i0.toInt = 0 ∨ i0.toInt = 1)) ∨ (r = 0 ∧ (i0.toInt = 2 ∨ i0.toInt = 3)) ∨ (r = (-2) ∧ (i0.toInt < 0 ∨ 3 < i0.toInt))) (fun _ => []) := by
  refine Met.ofW (cc := cX7_judge) (maxL := 3) (ret := (some .int)) (by decide) rfl ?_
  intro p e s m args below meth c s₁ B hml hv
  obtain ⟨rfl, hsz, hP, hKx, hD0⟩ := hv
  have hx := B.exec
  have hb := B.bytes
  have hr := B.returns
  have hts := atoms_spec (ws := wq yX7_judge cX7_judge 3 (some .int)) B.pre
  have hown : s.vm.findClass RX7 = some m.cls := findClass_of_methodNamed B.named
  have hlocks := B.notSynchronized
  subst hsz
  have hD := hD0.self (sz := s.heap.size)
  generalize hAe : va_A [(h, .inr (7, [.ref k, .ref d, .ref j, .ref o, .ref f, .ref g, .ref wk, .ref im, .ref kt, .ref dl])), (d, .inr (4, [.ref ds, .int 0, .ref dk, .ref dw, .int 0, .int 0])), (j, .inr (1, [.ref k, .ref d, .ref jd, .ref jb, .ref jw, .ref jl, .int 0, .int 0, .int 0, .int 0, .int 0, .int 0, .int 0, .int 0])), (jl, .inl (cI, 61, .inl (fun _ => 0))), (k, .inr (0, [.ref ks, .ref kw, .ref kc, .int (-6), .int 0, .int 0, .ref kq, .ref km, .ref kd, .int 0, .ref ka, .ref kk])), (ks, .inl (cI, 5, .inl (upd (fun _ => 0) 0 800)))] s.heap.size = A at hD hKx ⊢
  have hA : ∀ q : Nat, s.heap.size ≤ q → A q := fun q h => by rw [← hAe]; exact Or.inr h
  have hS : va_S A s.heap s.heap [] := va_S.rf
  have hP : va_P (dC, dI) vwCl [(h, .inr (7, [.ref k, .ref d, .ref j, .ref o, .ref f, .ref g, .ref wk, .ref im, .ref kt, .ref dl])), (d, .inr (4, [.ref ds, .int 0, .ref dk, .ref dw, .int 0, .int 0])), (j, .inr (1, [.ref k, .ref d, .ref jd, .ref jb, .ref jw, .ref jl, .int 0, .int 0, .int 0, .int 0, .int 0, .int 0, .int 0, .int 0])), (jl, .inl (cI, 61, .inl (fun _ => 0))), (k, .inr (0, [.ref ks, .ref kw, .ref kc, .int (-6), .int 0, .int 0, .ref kq, .ref km, .ref kd, .int 0, .ref ka, .ref kk])), (ks, .inl (cI, 5, .inl (upd (fun _ => 0) 0 800)))] s.heap := hP
  have hl := lv_entry ([.ref h, .int i0]) (n := 3) (Nat.le_of_ble_eq_true rfl)
  rw [lg_entry_eq]
  generalize (lg_sl ([.ref h, .int i0]) ++ List.replicate (3 - (lg_sl ([.ref h, .int i0])).length) Slot.unset).toArray = ls at hl ⊢
  have hl : lv_has ls 3 [(0, .ref h), (1, .int i0)] := hl
  have hK := hKx.1
  have hin7 := fun w9 h9 => List.mem_cons_of_mem (Cond.code yX7_judge cX7_judge 3 (some .int)) (inlX7 w9 h9)
  have hin1 := fun w9 h9 => List.mem_cons_of_mem (Cond.code yX7_judge cX7_judge 3 (some .int)) (inlX1 w9 h9)
  have hw0 := hts (.fieldLink RX7 28 "OneCan" "course" "LOneCan$Course;") (List.mem_cons_of_mem _ wm_61)
  have hw1 := hts (.fieldLink RX7 140 "OneCan$Course" "boiled" "I") (List.mem_cons_of_mem _ wm_76)
  have hw2 := hts (.fieldLink RX7 131 "OneCan$Course" "bad" "I") (List.mem_cons_of_mem _ wm_67)
  have hw3 := hts (.fieldLink RX7 134 "OneCan$Course" "why" "I") (List.mem_cons_of_mem _ wm_77)
  have hw4 := hts (.fieldLink RX7 137 "OneCan$Course" "burnt" "I") (List.mem_cons_of_mem _ wm_78)
  refine lv_iload_n hx hb dX7_judge_0 rfl (lv_at hl 1 rfl) ?_
  refine lv_iconst (v := 0) hx hb dX7_judge_1 (by decide) ?_
  refine lv_iconst (v := 3) hx hb dX7_judge_2 (by decide) ?_
  refine mx_i (wr := [(h, .inr (7, [.ref k, .ref d, .ref j, .ref o, .ref f, .ref g, .ref wk, .ref im, .ref kt, .ref dl])), (d, .inr (4, [.ref ds, .int 0, .ref dk, .ref dw, .int 0, .int 0])), (j, .inr (1, [.ref k, .ref d, .ref jd, .ref jb, .ref jw, .ref jl, .int 0, .int 0, .int 0, .int 0, .int 0, .int 0, .int 0, .int 0])), (jl, .inl (cI, 61, .inl (fun _ => 0))), (k, .inr (0, [.ref ks, .ref kw, .ref kc, .int (-6), .int 0, .int 0, .ref kq, .ref km, .ref kd, .int 0, .ref ka, .ref kk])), (ks, .inl (cI, 5, .inl (upd (fun _ => 0) 0 800)))]) (va_runS (As := [.int i0, .int 0, .int 3]) (rest := []) ⟨hx, hb, hml, hown, hts⟩ (c_X7_isIn l dC dI cI cZ cK tS aK aV i0 0 3 s.heap.size) (va_cwS 3 hts (gw_s (fun _ h9 => List.mem_cons_of_mem _ h9) wm_0 wm_1 wm_2 wm_3) rfl rfl rfl (by decide +kernel) ⟨Nat.le_of_ble_eq_true rfl, Nat.le_of_ble_eq_true rfl⟩) (mx_preS hKx hP hD hS hA [] (by decide) rfl) rfl rfl hl.1 rfl (lv_room (Nat.le_of_ble_eq_true rfl)) dX7_judge_3 ⟨Nat.le_of_ble_eq_true rfl, Nat.le_of_ble_eq_true rfl⟩) hP hD hS hA [] [0, 1, 2, 3, 4, 5] rfl rfl (by decide) (by decide) (fun r1 u1 H locs hq1 hP hD hS => ?_)
  replace hP : va_P (dC, dI) vwCl [(h, .inr (7, [.ref k, .ref d, .ref j, .ref o, .ref f, .ref g, .ref wk, .ref im, .ref kt, .ref dl])), (d, .inr (4, [.ref ds, .int 0, .ref dk, .ref dw, .int 0, .int 0])), (j, .inr (1, [.ref k, .ref d, .ref jd, .ref jb, .ref jw, .ref jl, .int 0, .int 0, .int 0, .int 0, .int 0, .int 0, .int 0, .int 0])), (jl, .inl (cI, 61, .inl (fun _ => 0))), (k, .inr (0, [.ref ks, .ref kw, .ref kc, .int (-6), .int 0, .int 0, .ref kq, .ref km, .ref kd, .int 0, .ref ka, .ref kk])), (ks, .inl (cI, 5, .inl (upd (fun _ => 0) 0 800)))] H := hP
  replace hD : va_D A [(h, .inr (7, [.ref k, .ref d, .ref j, .ref o, .ref f, .ref g, .ref wk, .ref im, .ref kt, .ref dl])), (d, .inr (4, [.ref ds, .int 0, .ref dk, .ref dw, .int 0, .int 0])), (j, .inr (1, [.ref k, .ref d, .ref jd, .ref jb, .ref jw, .ref jl, .int 0, .int 0, .int 0, .int 0, .int 0, .int 0, .int 0, .int 0])), (jl, .inl (cI, 61, .inl (fun _ => 0))), (k, .inr (0, [.ref ks, .ref kw, .ref kc, .int (-6), .int 0, .int 0, .ref kq, .ref km, .ref kd, .int 0, .ref ka, .ref kk])), (ks, .inl (cI, 5, .inl (upd (fun _ => 0) 0 800)))] := hD
  rcases hq1 with ⟨rfl, hf1⟩ | ⟨rfl, hf1⟩
  · have hf1 : (0 : Int) ≤ i0.toInt ∧ i0.toInt ≤ (3 : Int) := hf1
    refine lv_if_ne (tgt := 12) hx hb dX7_judge_6 (by decide) (fun c2 => ?_) (fun c2 => absurd c2 (by decide))
    refine lv_aload_n hx hb dX7_judge_12 rfl (lv_at hl 0 rfl) ?_
    refine lv_iconst (v := 0) hx hb dX7_judge_13 (by decide) ?_
    refine mx_i (wr := []) (va_runV (As := [.int 0]) (rest := []) ⟨hx, hb, hml, hown, hts⟩ (c_X7_planRefusal l dC dI cI cZ cK tS aK aV h o f g wk im kt dl j jd jb jw jl k ks kw kc kq km kd ka kk d ds dk dw 0 H.size) (cwV 1 hts (gw_v (fun _ h9 => List.mem_cons_of_mem _ h9) wm_72 wm_73 wm_74 wm_2 wm_75) rfl rfl rfl (by decide +kernel) ⟨Nat.le_of_ble_eq_true rfl, Nat.le_of_ble_eq_true rfl⟩) (mx_preV (C := RX7) (T := TX7) (N := 10) (ci := 7) hKx hP hD hS hA [0, 1, 2, 3, 4, 5] (by decide) rfl rfl rfl) rfl rfl hl.1 rfl (lv_room (Nat.le_of_ble_eq_true rfl)) dX7_judge_14 ⟨Nat.le_of_ble_eq_true rfl, Nat.le_of_ble_eq_true rfl⟩) hP hD hS hA [0, 1, 2, 3, 4, 5] [] rfl rfl (by decide) (by decide) (fun r3 u3 H locs hq3 hP hD hS => ?_)
    replace hP : va_P (dC, dI) vwCl [(h, .inr (7, [.ref k, .ref d, .ref j, .ref o, .ref f, .ref g, .ref wk, .ref im, .ref kt, .ref dl])), (d, .inr (4, [.ref ds, .int 0, .ref dk, .ref dw, .int 0, .int (-6)])), (j, .inr (1, [.ref k, .ref d, .ref jd, .ref jb, .ref jw, .ref jl, .int (-6), .int (-6), .int 800, .int 0, .int (-6), .int 0, .int 0, .int 0])), (jl, .inl (cI, 61, .inl (upd (fun _ => 0) 0 800))), (k, .inr (0, [.ref ks, .ref kw, .ref kc, .int (-6), .int 0, .int 0, .ref kq, .ref km, .ref kd, .int 0, .ref ka, .ref kk])), (ks, .inl (cI, 5, .inl (upd (fun _ => 0) 0 800)))] H := hP
    replace hD : va_D A [(h, .inr (7, [.ref k, .ref d, .ref j, .ref o, .ref f, .ref g, .ref wk, .ref im, .ref kt, .ref dl])), (d, .inr (4, [.ref ds, .int 0, .ref dk, .ref dw, .int 0, .int (-6)])), (j, .inr (1, [.ref k, .ref d, .ref jd, .ref jb, .ref jw, .ref jl, .int (-6), .int (-6), .int 800, .int 0, .int (-6), .int 0, .int 0, .int 0])), (jl, .inl (cI, 61, .inl (upd (fun _ => 0) 0 800))), (k, .inr (0, [.ref ks, .ref kw, .ref kc, .int (-6), .int 0, .int 0, .ref kq, .ref km, .ref kd, .int 0, .ref ka, .ref kk])), (ks, .inl (cI, 5, .inl (upd (fun _ => 0) 0 800)))] := hD
    obtain rfl : r3 = 0 := hq3
    refine lv_istore_n (lv' := [(2, .int 0), (0, .ref h), (1, .int i0)]) hx hb dX7_judge_17 rfl hl (by decide) rfl (fun ls hl => ?_)
    refine lv_iload_n hx hb dX7_judge_18 rfl (lv_at hl 0 rfl) ?_
    refine lv_bipush (v := (-5)) hx hb dX7_judge_19 (by decide) ?_
    refine lv_icmp_eq (tgt := 35) hx hb dX7_judge_21 (by decide) (fun c4 => absurd c4 (by decide)) (fun c4 => ?_)
    refine lv_iload_n hx hb dX7_judge_24 rfl (lv_at hl 0 rfl) ?_
    refine lv_bipush (v := (-3)) hx hb dX7_judge_25 (by decide) ?_
    refine lv_icmp_ne (tgt := 37) hx hb dX7_judge_27 (by decide) (fun c5 => ?_) (fun c5 => absurd c5 (by decide))
    refine lv_iload_n hx hb dX7_judge_37 rfl (lv_at hl 2 rfl) ?_
    rcases (show (i0.toInt < 0 ∨ 2 < i0.toInt) ∨ i0.toInt = 0 ∨ i0.toInt = 1 ∨ i0.toInt = 2 by omega) with h6 | h6 | h6 | h6
    · refine lv_tableOut (tgt := 88) hx hb dX7_judge_38 h6 (by decide) ?_
      refine lv_aload_n hx hb dX7_judge_88 rfl (lv_at hl 1 rfl) ?_
      refine va_get (D := (dC, dI)) (ci := 7) (v := .ref j) (C := RX7) (T := TX7) (N := 10) hx hb hts hin7 hown hK hP 0 rfl rfl 2 (by decide) hw0 (fun _ h9 => h9) rfl dX7_judge_89 ?_
      refine va_get (D := (dC, dI)) (ci := 1) (v := .int 0) (C := RX1) (T := TX1) (N := 14) hx hb hts hin1 hown hK hP 2 rfl rfl 13 (by decide) hw1 (fun _ h9 => h9) rfl dX7_judge_92 ?_
      have hP9 := mx_subP (wc := []) hP [] rfl
      have hD9 := hD.sub (ws' := []) [] (by decide) rfl
      exact W.iret (v := 0) hx hb hr (fun t ht hW => ⟨⟨0, (), rfl, (by first | exact Or.inl (⟨rfl, by omega⟩) | exact Or.inr (Or.inl (⟨rfl, by omega⟩)) | exact Or.inr (Or.inr (⟨rfl, by omega⟩))), by rw [ht]; exact hP9, hD9⟩, hS.F ht⟩) hS.2.2 dX7_judge_95
    · refine lv_tableIn (tgt := 64) (off := 26) hx hb dX7_judge_38 (by omega) (by omega) (by rw [h6]; decide) (by decide) ?_
      refine lv_aload_n hx hb dX7_judge_64 rfl (lv_at hl 1 rfl) ?_
      refine va_get (D := (dC, dI)) (ci := 7) (v := .ref j) (C := RX7) (T := TX7) (N := 10) hx hb hts hin7 hown hK hP 0 rfl rfl 2 (by decide) hw0 (fun _ h9 => h9) rfl dX7_judge_65 ?_
      refine va_get (D := (dC, dI)) (ci := 1) (v := .int (-6)) (C := RX1) (T := TX1) (N := 14) hx hb hts hin1 hown hK hP 2 rfl rfl 6 (by decide) hw2 (fun _ h9 => h9) rfl dX7_judge_68 ?_
      have hP9 := mx_subP (wc := []) hP [] rfl
      have hD9 := hD.sub (ws' := []) [] (by decide) rfl
      exact W.iret (v := (-6)) hx hb hr (fun t ht hW => ⟨⟨(-6), (), rfl, (by first | exact Or.inl (⟨rfl, by omega⟩) | exact Or.inr (Or.inl (⟨rfl, by omega⟩)) | exact Or.inr (Or.inr (⟨rfl, by omega⟩))), by rw [ht]; exact hP9, hD9⟩, hS.F ht⟩) hS.2.2 dX7_judge_71
    · refine lv_tableIn (tgt := 72) (off := 34) hx hb dX7_judge_38 (by omega) (by omega) (by rw [h6]; decide) (by decide) ?_
      refine lv_aload_n hx hb dX7_judge_72 rfl (lv_at hl 1 rfl) ?_
      refine va_get (D := (dC, dI)) (ci := 7) (v := .ref j) (C := RX7) (T := TX7) (N := 10) hx hb hts hin7 hown hK hP 0 rfl rfl 2 (by decide) hw0 (fun _ h9 => h9) rfl dX7_judge_73 ?_
      refine va_get (D := (dC, dI)) (ci := 1) (v := .int (-6)) (C := RX1) (T := TX1) (N := 14) hx hb hts hin1 hown hK hP 2 rfl rfl 7 (by decide) hw3 (fun _ h9 => h9) rfl dX7_judge_76 ?_
      have hP9 := mx_subP (wc := []) hP [] rfl
      have hD9 := hD.sub (ws' := []) [] (by decide) rfl
      exact W.iret (v := (-6)) hx hb hr (fun t ht hW => ⟨⟨(-6), (), rfl, (by first | exact Or.inl (⟨rfl, by omega⟩) | exact Or.inr (Or.inl (⟨rfl, by omega⟩)) | exact Or.inr (Or.inr (⟨rfl, by omega⟩))), by rw [ht]; exact hP9, hD9⟩, hS.F ht⟩) hS.2.2 dX7_judge_79
    · refine lv_tableIn (tgt := 80) (off := 42) hx hb dX7_judge_38 (by omega) (by omega) (by rw [h6]; decide) (by decide) ?_
      refine lv_aload_n hx hb dX7_judge_80 rfl (lv_at hl 1 rfl) ?_
      refine va_get (D := (dC, dI)) (ci := 7) (v := .ref j) (C := RX7) (T := TX7) (N := 10) hx hb hts hin7 hown hK hP 0 rfl rfl 2 (by decide) hw0 (fun _ h9 => h9) rfl dX7_judge_81 ?_
      refine va_get (D := (dC, dI)) (ci := 1) (v := .int 0) (C := RX1) (T := TX1) (N := 14) hx hb hts hin1 hown hK hP 2 rfl rfl 12 (by decide) hw4 (fun _ h9 => h9) rfl dX7_judge_84 ?_
      have hP9 := mx_subP (wc := []) hP [] rfl
      have hD9 := hD.sub (ws' := []) [] (by decide) rfl
      exact W.iret (v := 0) hx hb hr (fun t ht hW => ⟨⟨0, (), rfl, (by first | exact Or.inl (⟨rfl, by omega⟩) | exact Or.inr (Or.inl (⟨rfl, by omega⟩)) | exact Or.inr (Or.inr (⟨rfl, by omega⟩))), by rw [ht]; exact hP9, hD9⟩, hS.F ht⟩) hS.2.2 dX7_judge_87
  · have hf1 : i0.toInt < (0 : Int) ∨ (3 : Int) < i0.toInt := hf1
    refine lv_if_ne (tgt := 12) hx hb dX7_judge_6 (by decide) (fun c7 => absurd c7 (by decide)) (fun c7 => ?_)
    refine lv_bipush (v := (-2)) hx hb dX7_judge_9 (by decide) ?_
    have hP9 := mx_subP (wc := []) hP [] rfl
    have hD9 := hD.sub (ws' := []) [] (by decide) rfl
    exact W.iret (v := (-2)) hx hb hr (fun t ht hW => ⟨⟨(-2), (), rfl, (by first | exact Or.inl (⟨rfl, by omega⟩) | exact Or.inr (Or.inl (⟨rfl, by omega⟩)) | exact Or.inr (Or.inr (⟨rfl, by omega⟩))), by rw [ht]; exact hP9, hD9⟩, hS.F ht⟩) hS.2.2 dX7_judge_11
set_option maxHeartbeats 4000000 in
set_option maxRecDepth 100000 in
theorem c_X7_behind (l : Launch) (dC : Nat → ClassId) (dI : Nat → Nat → Nat) (cI cZ cK : ClassId) (tS aK aV : Nat) (h : Nat) (o : Nat) (f : Nat) (g : Nat) (wk : Nat) (im : Nat) (kt : Nat) (dl : Nat) (j : Nat) (jd : Nat) (jb : Nat) (jw : Nat) (jl : Nat) (k : Nat) (ks : Nat) (kw : Nat) (kc : Nat) (kq : Nat) (km : Nat) (kd : Nat) (ka : Nat) (kk : Nat) (d : Nat) (ds : Nat) (dk : Nat) (dw : Nat) (i0 : Int32) (sz : Nat) : Ci l yX7_behind (wq yX7_behind cX7_behind 3 (some .int)) ({ frames := 4, cells := 0, slots := 0, locals := 85 }) dC dI cI cZ cK tS aK aV [.ref h, .int i0] sz [(h, .inr (7, [.ref k, .ref d, .ref j, .ref o, .ref f, .ref g, .ref wk, .ref im, .ref kt, .ref dl])), (d, .inr (4, [.ref ds, .int 0, .ref dk, .ref dw, .int 0, .int 0])), (j, .inr (1, [.ref k, .ref d, .ref jd, .ref jb, .ref jw, .ref jl, .int 0, .int 0, .int 0, .int 0, .int 0, .int 0, .int 0, .int 0])), (jl, .inl (cI, 61, .inl (fun _ => 0))), (k, .inr (0, [.ref ks, .ref kw, .ref kc, .int (-6), .int 0, .int 0, .ref kq, .ref km, .ref kd, .int 0, .ref ka, .ref kk])), (ks, .inl (cI, 5, .inl (upd (fun _ => 0) 0 800))), (kc, .inl (cZ, 14, .inl (fun _ => 0)))] (fun (r : Int32) (_ : Unit) => (r = 800 ∧ (i0.toInt = 0)) ∨ (r = 0 ∧ (i0.toInt = 1 ∨ i0.toInt = 2)) ∨ (r = (-2) ∧ (i0.toInt < 0 ∨ 2 < i0.toInt))) (fun _ => []) := by
  refine Met.ofW (cc := cX7_behind) (maxL := 3) (ret := (some .int)) (by decide) rfl ?_
  intro p e s m args below meth c s₁ B hml hv
  obtain ⟨rfl, hsz, hP, hKx, hD0⟩ := hv
  have hx := B.exec
  have hb := B.bytes
  have hr := B.returns
  have hts := atoms_spec (ws := wq yX7_behind cX7_behind 3 (some .int)) B.pre
  have hown : s.vm.findClass RX7 = some m.cls := findClass_of_methodNamed B.named
  have hlocks := B.notSynchronized
  subst hsz
  have hD := hD0.self (sz := s.heap.size)
  generalize hAe : va_A [(h, .inr (7, [.ref k, .ref d, .ref j, .ref o, .ref f, .ref g, .ref wk, .ref im, .ref kt, .ref dl])), (d, .inr (4, [.ref ds, .int 0, .ref dk, .ref dw, .int 0, .int 0])), (j, .inr (1, [.ref k, .ref d, .ref jd, .ref jb, .ref jw, .ref jl, .int 0, .int 0, .int 0, .int 0, .int 0, .int 0, .int 0, .int 0])), (jl, .inl (cI, 61, .inl (fun _ => 0))), (k, .inr (0, [.ref ks, .ref kw, .ref kc, .int (-6), .int 0, .int 0, .ref kq, .ref km, .ref kd, .int 0, .ref ka, .ref kk])), (ks, .inl (cI, 5, .inl (upd (fun _ => 0) 0 800))), (kc, .inl (cZ, 14, .inl (fun _ => 0)))] s.heap.size = A at hD hKx ⊢
  have hA : ∀ q : Nat, s.heap.size ≤ q → A q := fun q h => by rw [← hAe]; exact Or.inr h
  have hS : va_S A s.heap s.heap [] := va_S.rf
  have hP : va_P (dC, dI) vwCl [(h, .inr (7, [.ref k, .ref d, .ref j, .ref o, .ref f, .ref g, .ref wk, .ref im, .ref kt, .ref dl])), (d, .inr (4, [.ref ds, .int 0, .ref dk, .ref dw, .int 0, .int 0])), (j, .inr (1, [.ref k, .ref d, .ref jd, .ref jb, .ref jw, .ref jl, .int 0, .int 0, .int 0, .int 0, .int 0, .int 0, .int 0, .int 0])), (jl, .inl (cI, 61, .inl (fun _ => 0))), (k, .inr (0, [.ref ks, .ref kw, .ref kc, .int (-6), .int 0, .int 0, .ref kq, .ref km, .ref kd, .int 0, .ref ka, .ref kk])), (ks, .inl (cI, 5, .inl (upd (fun _ => 0) 0 800))), (kc, .inl (cZ, 14, .inl (fun _ => 0)))] s.heap := hP
  have hl := lv_entry ([.ref h, .int i0]) (n := 3) (Nat.le_of_ble_eq_true rfl)
  rw [lg_entry_eq]
  generalize (lg_sl ([.ref h, .int i0]) ++ List.replicate (3 - (lg_sl ([.ref h, .int i0])).length) Slot.unset).toArray = ls at hl ⊢
  have hl : lv_has ls 3 [(0, .ref h), (1, .int i0)] := hl
  have hK := hKx.1
  have hin7 := fun w9 h9 => List.mem_cons_of_mem (Cond.code yX7_behind cX7_behind 3 (some .int)) (inlX7 w9 h9)
  have hin1 := fun w9 h9 => List.mem_cons_of_mem (Cond.code yX7_behind cX7_behind 3 (some .int)) (inlX1 w9 h9)
  have hw0 := hts (.fieldLink RX7 28 "OneCan" "course" "LOneCan$Course;") (List.mem_cons_of_mem _ wm_61)
  have hw1 := hts (.fieldLink RX7 146 "OneCan$Course" "day" "I") (List.mem_cons_of_mem _ wm_83)
  have hw2 := hts (.fieldLink RX7 143 "OneCan$Course" "left" "I") (List.mem_cons_of_mem _ wm_84)
  refine lv_iload_n hx hb dX7_behind_0 rfl (lv_at hl 1 rfl) ?_
  refine lv_iconst (v := 0) hx hb dX7_behind_1 (by decide) ?_
  refine lv_iconst (v := 2) hx hb dX7_behind_2 (by decide) ?_
  refine mx_i (wr := [(h, .inr (7, [.ref k, .ref d, .ref j, .ref o, .ref f, .ref g, .ref wk, .ref im, .ref kt, .ref dl])), (d, .inr (4, [.ref ds, .int 0, .ref dk, .ref dw, .int 0, .int 0])), (j, .inr (1, [.ref k, .ref d, .ref jd, .ref jb, .ref jw, .ref jl, .int 0, .int 0, .int 0, .int 0, .int 0, .int 0, .int 0, .int 0])), (jl, .inl (cI, 61, .inl (fun _ => 0))), (k, .inr (0, [.ref ks, .ref kw, .ref kc, .int (-6), .int 0, .int 0, .ref kq, .ref km, .ref kd, .int 0, .ref ka, .ref kk])), (ks, .inl (cI, 5, .inl (upd (fun _ => 0) 0 800))), (kc, .inl (cZ, 14, .inl (fun _ => 0)))]) (va_runS (As := [.int i0, .int 0, .int 2]) (rest := []) ⟨hx, hb, hml, hown, hts⟩ (c_X7_isIn l dC dI cI cZ cK tS aK aV i0 0 2 s.heap.size) (va_cwS 3 hts (gw_s (fun _ h9 => List.mem_cons_of_mem _ h9) wm_0 wm_1 wm_2 wm_3) rfl rfl rfl (by decide +kernel) ⟨Nat.le_of_ble_eq_true rfl, Nat.le_of_ble_eq_true rfl⟩) (mx_preS hKx hP hD hS hA [] (by decide) rfl) rfl rfl hl.1 rfl (lv_room (Nat.le_of_ble_eq_true rfl)) dX7_behind_3 ⟨Nat.le_of_ble_eq_true rfl, Nat.le_of_ble_eq_true rfl⟩) hP hD hS hA [] [0, 1, 2, 3, 4, 5, 6] rfl rfl (by decide) (by decide) (fun r1 u1 H locs hq1 hP hD hS => ?_)
  replace hP : va_P (dC, dI) vwCl [(h, .inr (7, [.ref k, .ref d, .ref j, .ref o, .ref f, .ref g, .ref wk, .ref im, .ref kt, .ref dl])), (d, .inr (4, [.ref ds, .int 0, .ref dk, .ref dw, .int 0, .int 0])), (j, .inr (1, [.ref k, .ref d, .ref jd, .ref jb, .ref jw, .ref jl, .int 0, .int 0, .int 0, .int 0, .int 0, .int 0, .int 0, .int 0])), (jl, .inl (cI, 61, .inl (fun _ => 0))), (k, .inr (0, [.ref ks, .ref kw, .ref kc, .int (-6), .int 0, .int 0, .ref kq, .ref km, .ref kd, .int 0, .ref ka, .ref kk])), (ks, .inl (cI, 5, .inl (upd (fun _ => 0) 0 800))), (kc, .inl (cZ, 14, .inl (fun _ => 0)))] H := hP
  replace hD : va_D A [(h, .inr (7, [.ref k, .ref d, .ref j, .ref o, .ref f, .ref g, .ref wk, .ref im, .ref kt, .ref dl])), (d, .inr (4, [.ref ds, .int 0, .ref dk, .ref dw, .int 0, .int 0])), (j, .inr (1, [.ref k, .ref d, .ref jd, .ref jb, .ref jw, .ref jl, .int 0, .int 0, .int 0, .int 0, .int 0, .int 0, .int 0, .int 0])), (jl, .inl (cI, 61, .inl (fun _ => 0))), (k, .inr (0, [.ref ks, .ref kw, .ref kc, .int (-6), .int 0, .int 0, .ref kq, .ref km, .ref kd, .int 0, .ref ka, .ref kk])), (ks, .inl (cI, 5, .inl (upd (fun _ => 0) 0 800))), (kc, .inl (cZ, 14, .inl (fun _ => 0)))] := hD
  rcases hq1 with ⟨rfl, hf1⟩ | ⟨rfl, hf1⟩
  · have hf1 : (0 : Int) ≤ i0.toInt ∧ i0.toInt ≤ (2 : Int) := hf1
    refine lv_if_ne (tgt := 12) hx hb dX7_behind_6 (by decide) (fun c2 => ?_) (fun c2 => absurd c2 (by decide))
    refine lv_aload_n hx hb dX7_behind_12 rfl (lv_at hl 0 rfl) ?_
    refine lv_iconst (v := 0) hx hb dX7_behind_13 (by decide) ?_
    refine mx_i (wr := [(kc, .inl (cZ, 14, .inl (fun _ => 0)))]) (va_runV (As := [.int 0]) (rest := []) ⟨hx, hb, hml, hown, hts⟩ (c_X7_planRefusal l dC dI cI cZ cK tS aK aV h o f g wk im kt dl j jd jb jw jl k ks kw kc kq km kd ka kk d ds dk dw 0 H.size) (cwV 1 hts (gw_v (fun _ h9 => List.mem_cons_of_mem _ h9) wm_72 wm_73 wm_74 wm_2 wm_75) rfl rfl rfl (by decide +kernel) ⟨Nat.le_of_ble_eq_true rfl, Nat.le_of_ble_eq_true rfl⟩) (mx_preV (C := RX7) (T := TX7) (N := 10) (ci := 7) hKx hP hD hS hA [0, 1, 2, 3, 4, 5] (by decide) rfl rfl rfl) rfl rfl hl.1 rfl (lv_room (Nat.le_of_ble_eq_true rfl)) dX7_behind_14 ⟨Nat.le_of_ble_eq_true rfl, Nat.le_of_ble_eq_true rfl⟩) hP hD hS hA [0, 1, 2, 3, 4, 5] [6] rfl rfl (by decide) (by decide) (fun r3 u3 H locs hq3 hP hD hS => ?_)
    replace hP : va_P (dC, dI) vwCl [(kc, .inl (cZ, 14, .inl (fun _ => 0))), (h, .inr (7, [.ref k, .ref d, .ref j, .ref o, .ref f, .ref g, .ref wk, .ref im, .ref kt, .ref dl])), (d, .inr (4, [.ref ds, .int 0, .ref dk, .ref dw, .int 0, .int (-6)])), (j, .inr (1, [.ref k, .ref d, .ref jd, .ref jb, .ref jw, .ref jl, .int (-6), .int (-6), .int 800, .int 0, .int (-6), .int 0, .int 0, .int 0])), (jl, .inl (cI, 61, .inl (upd (fun _ => 0) 0 800))), (k, .inr (0, [.ref ks, .ref kw, .ref kc, .int (-6), .int 0, .int 0, .ref kq, .ref km, .ref kd, .int 0, .ref ka, .ref kk])), (ks, .inl (cI, 5, .inl (upd (fun _ => 0) 0 800)))] H := hP
    replace hD : va_D A [(kc, .inl (cZ, 14, .inl (fun _ => 0))), (h, .inr (7, [.ref k, .ref d, .ref j, .ref o, .ref f, .ref g, .ref wk, .ref im, .ref kt, .ref dl])), (d, .inr (4, [.ref ds, .int 0, .ref dk, .ref dw, .int 0, .int (-6)])), (j, .inr (1, [.ref k, .ref d, .ref jd, .ref jb, .ref jw, .ref jl, .int (-6), .int (-6), .int 800, .int 0, .int (-6), .int 0, .int 0, .int 0])), (jl, .inl (cI, 61, .inl (upd (fun _ => 0) 0 800))), (k, .inr (0, [.ref ks, .ref kw, .ref kc, .int (-6), .int 0, .int 0, .ref kq, .ref km, .ref kd, .int 0, .ref ka, .ref kk])), (ks, .inl (cI, 5, .inl (upd (fun _ => 0) 0 800)))] := hD
    obtain rfl : r3 = 0 := hq3
    refine lv_istore_n (lv' := [(2, .int 0), (0, .ref h), (1, .int i0)]) hx hb dX7_behind_17 rfl hl (by decide) rfl (fun ls hl => ?_)
    refine lv_iload_n hx hb dX7_behind_18 rfl (lv_at hl 0 rfl) ?_
    refine lv_if_eq (tgt := 24) hx hb dX7_behind_19 (by decide) (fun c4 => ?_) (fun c4 => absurd c4 (by decide))
    refine lv_iload_n hx hb dX7_behind_24 rfl (lv_at hl 2 rfl) ?_
    refine lv_if_ne (tgt := 36) hx hb dX7_behind_25 (by decide) (fun c5 => ?_) (fun c5 => ?_)
    · have t5 : i0.toInt ≠ (0 : Int) := (tne c5)
      refine lv_iload_n hx hb dX7_behind_36 rfl (lv_at hl 2 rfl) ?_
      refine lv_iconst (v := 1) hx hb dX7_behind_37 (by decide) ?_
      refine lv_icmp_ne (tgt := 49) hx hb dX7_behind_38 (by decide) (fun c6 => ?_) (fun c6 => ?_)
      · have t6 : i0.toInt ≠ (1 : Int) := (tne c6)
        refine lv_aload_n hx hb dX7_behind_49 rfl (lv_at hl 1 rfl) ?_
        refine va_get (D := (dC, dI)) (ci := 7) (v := .ref j) (C := RX7) (T := TX7) (N := 10) hx hb hts hin7 hown hK hP 1 rfl rfl 2 (by decide) hw0 (fun _ h9 => h9) rfl dX7_behind_50 ?_
        refine mx_i (wr := [(h, .inr (7, [.ref k, .ref d, .ref j, .ref o, .ref f, .ref g, .ref wk, .ref im, .ref kt, .ref dl])), (d, .inr (4, [.ref ds, .int 0, .ref dk, .ref dw, .int 0, .int (-6)])), (jl, .inl (cI, 61, .inl (upd (fun _ => 0) 0 800))), (ks, .inl (cI, 5, .inl (upd (fun _ => 0) 0 800)))]) (va_runV (As := []) (rest := []) ⟨hx, hb, hml, hown, hts⟩ (c_X1_isCold l dC dI cI cZ cK tS aK aV j jd jb jw jl k ks kw kc kq km kd ka kk d H.size) (cwV 0 hts (gw_v (fun _ h9 => List.mem_cons_of_mem _ h9) wm_79 wm_80 wm_81 wm_65 wm_82) rfl rfl rfl (by decide +kernel) ⟨Nat.le_of_ble_eq_true rfl, Nat.le_of_ble_eq_true rfl⟩) (mx_preV (C := RX1) (T := TX1) (N := 14) (ci := 1) hKx hP hD hS hA [3, 5, 0] (by decide) rfl rfl rfl) rfl rfl hl.1 rfl (lv_room (Nat.le_of_ble_eq_true rfl)) dX7_behind_53 ⟨Nat.le_of_ble_eq_true rfl, Nat.le_of_ble_eq_true rfl⟩) hP hD hS hA [3, 5, 0] [1, 2, 4, 6] rfl rfl (by decide) (by decide) (fun r7 u7 H locs hq7 hP hD hS => ?_)
        replace hP : va_P (dC, dI) vwCl [(h, .inr (7, [.ref k, .ref d, .ref j, .ref o, .ref f, .ref g, .ref wk, .ref im, .ref kt, .ref dl])), (d, .inr (4, [.ref ds, .int 0, .ref dk, .ref dw, .int 0, .int (-6)])), (jl, .inl (cI, 61, .inl (upd (fun _ => 0) 0 800))), (ks, .inl (cI, 5, .inl (upd (fun _ => 0) 0 800))), (j, .inr (1, [.ref k, .ref d, .ref jd, .ref jb, .ref jw, .ref jl, .int (-6), .int (-6), .int 800, .int 0, .int (-6), .int 0, .int 0, .int 0])), (k, .inr (0, [.ref ks, .ref kw, .ref kc, .int (-6), .int 0, .int 0, .ref kq, .ref km, .ref kd, .int 0, .ref ka, .ref kk])), (kc, .inl (cZ, 14, .inl (fun _ => 0)))] H := hP
        replace hD : va_D A [(h, .inr (7, [.ref k, .ref d, .ref j, .ref o, .ref f, .ref g, .ref wk, .ref im, .ref kt, .ref dl])), (d, .inr (4, [.ref ds, .int 0, .ref dk, .ref dw, .int 0, .int (-6)])), (jl, .inl (cI, 61, .inl (upd (fun _ => 0) 0 800))), (ks, .inl (cI, 5, .inl (upd (fun _ => 0) 0 800))), (j, .inr (1, [.ref k, .ref d, .ref jd, .ref jb, .ref jw, .ref jl, .int (-6), .int (-6), .int 800, .int 0, .int (-6), .int 0, .int 0, .int 0])), (k, .inr (0, [.ref ks, .ref kw, .ref kc, .int (-6), .int 0, .int 0, .ref kq, .ref km, .ref kd, .int 0, .ref ka, .ref kk])), (kc, .inl (cZ, 14, .inl (fun _ => 0)))] := hD
        obtain rfl : r7 = 0 := hq7
        refine lv_if_eq (tgt := 63) hx hb dX7_behind_56 (by decide) (fun c8 => ?_) (fun c8 => absurd c8 (by decide))
        refine lv_iconst (v := 0) hx hb dX7_behind_63 (by decide) ?_
        have hP9 := mx_subP (wc := []) hP [] rfl
        have hD9 := hD.sub (ws' := []) [] (by decide) rfl
        exact W.iret (v := 0) hx hb hr (fun t ht hW => ⟨⟨0, (), rfl, (by first | exact Or.inl (⟨rfl, by omega⟩) | exact Or.inr (Or.inl (⟨rfl, by omega⟩)) | exact Or.inr (Or.inr (⟨rfl, by omega⟩))), by rw [ht]; exact hP9, hD9⟩, hS.F ht⟩) hS.2.2 dX7_behind_64
      · have t6 : i0.toInt = (1 : Int) := (teq c6)
        refine lv_aload_n hx hb dX7_behind_41 rfl (lv_at hl 1 rfl) ?_
        refine va_get (D := (dC, dI)) (ci := 7) (v := .ref j) (C := RX7) (T := TX7) (N := 10) hx hb hts hin7 hown hK hP 1 rfl rfl 2 (by decide) hw0 (fun _ h9 => h9) rfl dX7_behind_42 ?_
        refine va_get (D := (dC, dI)) (ci := 1) (v := .int 0) (C := RX1) (T := TX1) (N := 14) hx hb hts hin1 hown hK hP 3 rfl rfl 9 (by decide) hw1 (fun _ h9 => h9) rfl dX7_behind_45 ?_
        have hP9 := mx_subP (wc := []) hP [] rfl
        have hD9 := hD.sub (ws' := []) [] (by decide) rfl
        exact W.iret (v := 0) hx hb hr (fun t ht hW => ⟨⟨0, (), rfl, (by first | exact Or.inl (⟨rfl, by omega⟩) | exact Or.inr (Or.inl (⟨rfl, by omega⟩)) | exact Or.inr (Or.inr (⟨rfl, by omega⟩))), by rw [ht]; exact hP9, hD9⟩, hS.F ht⟩) hS.2.2 dX7_behind_48
    · have t5 : i0.toInt = (0 : Int) := (teq c5)
      refine lv_aload_n hx hb dX7_behind_28 rfl (lv_at hl 1 rfl) ?_
      refine va_get (D := (dC, dI)) (ci := 7) (v := .ref j) (C := RX7) (T := TX7) (N := 10) hx hb hts hin7 hown hK hP 1 rfl rfl 2 (by decide) hw0 (fun _ h9 => h9) rfl dX7_behind_29 ?_
      refine va_get (D := (dC, dI)) (ci := 1) (v := .int 800) (C := RX1) (T := TX1) (N := 14) hx hb hts hin1 hown hK hP 3 rfl rfl 8 (by decide) hw2 (fun _ h9 => h9) rfl dX7_behind_32 ?_
      have hP9 := mx_subP (wc := []) hP [] rfl
      have hD9 := hD.sub (ws' := []) [] (by decide) rfl
      exact W.iret (v := 800) hx hb hr (fun t ht hW => ⟨⟨800, (), rfl, (by first | exact Or.inl (⟨rfl, by omega⟩) | exact Or.inr (Or.inl (⟨rfl, by omega⟩)) | exact Or.inr (Or.inr (⟨rfl, by omega⟩))), by rw [ht]; exact hP9, hD9⟩, hS.F ht⟩) hS.2.2 dX7_behind_35
  · have hf1 : i0.toInt < (0 : Int) ∨ (2 : Int) < i0.toInt := hf1
    refine lv_if_ne (tgt := 12) hx hb dX7_behind_6 (by decide) (fun c9 => absurd c9 (by decide)) (fun c9 => ?_)
    refine lv_bipush (v := (-2)) hx hb dX7_behind_9 (by decide) ?_
    have hP9 := mx_subP (wc := []) hP [] rfl
    have hD9 := hD.sub (ws' := []) [] (by decide) rfl
    exact W.iret (v := (-2)) hx hb hr (fun t ht hW => ⟨⟨(-2), (), rfl, (by first | exact Or.inl (⟨rfl, by omega⟩) | exact Or.inr (Or.inl (⟨rfl, by omega⟩)) | exact Or.inr (Or.inr (⟨rfl, by omega⟩))), by rw [ht]; exact hP9, hD9⟩, hS.F ht⟩) hS.2.2 dX7_behind_11
set_option maxHeartbeats 4000000 in
set_option maxRecDepth 100000 in
theorem c_X7_cost (l : Launch) (dC : Nat → ClassId) (dI : Nat → Nat → Nat) (cI cZ cK : ClassId) (tS aK aV : Nat) (h : Nat) (o : Nat) (f : Nat) (g : Nat) (wk : Nat) (im : Nat) (kt : Nat) (dl : Nat) (j : Nat) (jd : Nat) (jb : Nat) (jw : Nat) (jl : Nat) (k : Nat) (ks : Nat) (kw : Nat) (kc : Nat) (kq : Nat) (km : Nat) (kd : Nat) (ka : Nat) (kk : Nat) (d : Nat) (ds : Nat) (dk : Nat) (dw : Nat) (i0 : Int32) (i1 : Int32) (sz : Nat) : Ci l yX7_cost (wq yX7_cost cX7_cost 4 (some .int)) ({ frames := 4, cells := 0, slots := 0, locals := 85 }) dC dI cI cZ cK tS aK aV [.ref h, .int i0, .int i1] sz [(h, .inr (7, [.ref k, .ref d, .ref j, .ref o, .ref f, .ref g, .ref wk, .ref im, .ref kt, .ref dl])), (d, .inr (4, [.ref ds, .int 0, .ref dk, .ref dw, .int 0, .int 0])), (j, .inr (1, [.ref k, .ref d, .ref jd, .ref jb, .ref jw, .ref jl, .int 0, .int 0, .int 0, .int 0, .int 0, .int 0, .int 0, .int 0])), (jl, .inl (cI, 61, .inl (fun _ => 0))), (k, .inr (0, [.ref ks, .ref kw, .ref kc, .int (-6), .int 0, .int 0, .ref kq, .ref km, .ref kd, .int 0, .ref ka, .ref kk])), (ks, .inl (cI, 5, .inl (upd (fun _ => 0) 0 800)))] (fun (r : Int32) (_ : Unit) => (r = (-1) ∧ (0 ≤ i1.toInt ∧ i1.toInt ≤ 1)) ∨ (r = (-2) ∧ (i1.toInt < 0 ∨ 1 < i1.toInt))) (fun _ => []) := by
  refine Met.ofW (cc := cX7_cost) (maxL := 4) (ret := (some .int)) (by decide) rfl ?_
  intro p e s m args below meth c s₁ B hml hv
  obtain ⟨rfl, hsz, hP, hKx, hD0⟩ := hv
  have hx := B.exec
  have hb := B.bytes
  have hr := B.returns
  have hts := atoms_spec (ws := wq yX7_cost cX7_cost 4 (some .int)) B.pre
  have hown : s.vm.findClass RX7 = some m.cls := findClass_of_methodNamed B.named
  have hlocks := B.notSynchronized
  subst hsz
  have hD := hD0.self (sz := s.heap.size)
  generalize hAe : va_A [(h, .inr (7, [.ref k, .ref d, .ref j, .ref o, .ref f, .ref g, .ref wk, .ref im, .ref kt, .ref dl])), (d, .inr (4, [.ref ds, .int 0, .ref dk, .ref dw, .int 0, .int 0])), (j, .inr (1, [.ref k, .ref d, .ref jd, .ref jb, .ref jw, .ref jl, .int 0, .int 0, .int 0, .int 0, .int 0, .int 0, .int 0, .int 0])), (jl, .inl (cI, 61, .inl (fun _ => 0))), (k, .inr (0, [.ref ks, .ref kw, .ref kc, .int (-6), .int 0, .int 0, .ref kq, .ref km, .ref kd, .int 0, .ref ka, .ref kk])), (ks, .inl (cI, 5, .inl (upd (fun _ => 0) 0 800)))] s.heap.size = A at hD hKx ⊢
  have hA : ∀ q : Nat, s.heap.size ≤ q → A q := fun q h => by rw [← hAe]; exact Or.inr h
  have hS : va_S A s.heap s.heap [] := va_S.rf
  have hP : va_P (dC, dI) vwCl [(h, .inr (7, [.ref k, .ref d, .ref j, .ref o, .ref f, .ref g, .ref wk, .ref im, .ref kt, .ref dl])), (d, .inr (4, [.ref ds, .int 0, .ref dk, .ref dw, .int 0, .int 0])), (j, .inr (1, [.ref k, .ref d, .ref jd, .ref jb, .ref jw, .ref jl, .int 0, .int 0, .int 0, .int 0, .int 0, .int 0, .int 0, .int 0])), (jl, .inl (cI, 61, .inl (fun _ => 0))), (k, .inr (0, [.ref ks, .ref kw, .ref kc, .int (-6), .int 0, .int 0, .ref kq, .ref km, .ref kd, .int 0, .ref ka, .ref kk])), (ks, .inl (cI, 5, .inl (upd (fun _ => 0) 0 800)))] s.heap := hP
  have hl := lv_entry ([.ref h, .int i0, .int i1]) (n := 4) (Nat.le_of_ble_eq_true rfl)
  rw [lg_entry_eq]
  generalize (lg_sl ([.ref h, .int i0, .int i1]) ++ List.replicate (4 - (lg_sl ([.ref h, .int i0, .int i1])).length) Slot.unset).toArray = ls at hl ⊢
  have hl : lv_has ls 4 [(0, .ref h), (1, .int i0), (2, .int i1)] := hl
  have hK := hKx.1
  have hin7 := fun w9 h9 => List.mem_cons_of_mem (Cond.code yX7_cost cX7_cost 4 (some .int)) (inlX7 w9 h9)
  have hin4 := fun w9 h9 => List.mem_cons_of_mem (Cond.code yX7_cost cX7_cost 4 (some .int)) (inlX4 w9 h9)
  have hw0 := hts (.fieldLink RX7 19 "OneCan" "pad" "LOneCan$Pad;") (List.mem_cons_of_mem _ wm_54)
  have hw1 := hts (.fieldLink RX7 153 "OneCan$Pad" "acts" "I") (List.mem_cons_of_mem _ wm_85)
  refine lv_iload_n hx hb dX7_cost_0 rfl (lv_at hl 2 rfl) ?_
  refine lv_iconst (v := 0) hx hb dX7_cost_1 (by decide) ?_
  refine lv_iconst (v := 1) hx hb dX7_cost_2 (by decide) ?_
  refine mx_i (wr := [(h, .inr (7, [.ref k, .ref d, .ref j, .ref o, .ref f, .ref g, .ref wk, .ref im, .ref kt, .ref dl])), (d, .inr (4, [.ref ds, .int 0, .ref dk, .ref dw, .int 0, .int 0])), (j, .inr (1, [.ref k, .ref d, .ref jd, .ref jb, .ref jw, .ref jl, .int 0, .int 0, .int 0, .int 0, .int 0, .int 0, .int 0, .int 0])), (jl, .inl (cI, 61, .inl (fun _ => 0))), (k, .inr (0, [.ref ks, .ref kw, .ref kc, .int (-6), .int 0, .int 0, .ref kq, .ref km, .ref kd, .int 0, .ref ka, .ref kk])), (ks, .inl (cI, 5, .inl (upd (fun _ => 0) 0 800)))]) (va_runS (As := [.int i1, .int 0, .int 1]) (rest := []) ⟨hx, hb, hml, hown, hts⟩ (c_X7_isIn l dC dI cI cZ cK tS aK aV i1 0 1 s.heap.size) (va_cwS 3 hts (gw_s (fun _ h9 => List.mem_cons_of_mem _ h9) wm_0 wm_1 wm_2 wm_3) rfl rfl rfl (by decide +kernel) ⟨Nat.le_of_ble_eq_true rfl, Nat.le_of_ble_eq_true rfl⟩) (mx_preS hKx hP hD hS hA [] (by decide) rfl) rfl rfl hl.1 rfl (lv_room (Nat.le_of_ble_eq_true rfl)) dX7_cost_3 ⟨Nat.le_of_ble_eq_true rfl, Nat.le_of_ble_eq_true rfl⟩) hP hD hS hA [] [0, 1, 2, 3, 4, 5] rfl rfl (by decide) (by decide) (fun r1 u1 H locs hq1 hP hD hS => ?_)
  replace hP : va_P (dC, dI) vwCl [(h, .inr (7, [.ref k, .ref d, .ref j, .ref o, .ref f, .ref g, .ref wk, .ref im, .ref kt, .ref dl])), (d, .inr (4, [.ref ds, .int 0, .ref dk, .ref dw, .int 0, .int 0])), (j, .inr (1, [.ref k, .ref d, .ref jd, .ref jb, .ref jw, .ref jl, .int 0, .int 0, .int 0, .int 0, .int 0, .int 0, .int 0, .int 0])), (jl, .inl (cI, 61, .inl (fun _ => 0))), (k, .inr (0, [.ref ks, .ref kw, .ref kc, .int (-6), .int 0, .int 0, .ref kq, .ref km, .ref kd, .int 0, .ref ka, .ref kk])), (ks, .inl (cI, 5, .inl (upd (fun _ => 0) 0 800)))] H := hP
  replace hD : va_D A [(h, .inr (7, [.ref k, .ref d, .ref j, .ref o, .ref f, .ref g, .ref wk, .ref im, .ref kt, .ref dl])), (d, .inr (4, [.ref ds, .int 0, .ref dk, .ref dw, .int 0, .int 0])), (j, .inr (1, [.ref k, .ref d, .ref jd, .ref jb, .ref jw, .ref jl, .int 0, .int 0, .int 0, .int 0, .int 0, .int 0, .int 0, .int 0])), (jl, .inl (cI, 61, .inl (fun _ => 0))), (k, .inr (0, [.ref ks, .ref kw, .ref kc, .int (-6), .int 0, .int 0, .ref kq, .ref km, .ref kd, .int 0, .ref ka, .ref kk])), (ks, .inl (cI, 5, .inl (upd (fun _ => 0) 0 800)))] := hD
  rcases hq1 with ⟨rfl, hf1⟩ | ⟨rfl, hf1⟩
  · have hf1 : (0 : Int) ≤ i1.toInt ∧ i1.toInt ≤ (1 : Int) := hf1
    refine lv_if_ne (tgt := 12) hx hb dX7_cost_6 (by decide) (fun c2 => ?_) (fun c2 => absurd c2 (by decide))
    refine lv_aload_n hx hb dX7_cost_12 rfl (lv_at hl 0 rfl) ?_
    refine lv_iconst (v := 0) hx hb dX7_cost_13 (by decide) ?_
    refine mx_i (wr := []) (va_runV (As := [.int 0]) (rest := []) ⟨hx, hb, hml, hown, hts⟩ (c_X7_planRefusal l dC dI cI cZ cK tS aK aV h o f g wk im kt dl j jd jb jw jl k ks kw kc kq km kd ka kk d ds dk dw 0 H.size) (cwV 1 hts (gw_v (fun _ h9 => List.mem_cons_of_mem _ h9) wm_72 wm_73 wm_74 wm_2 wm_75) rfl rfl rfl (by decide +kernel) ⟨Nat.le_of_ble_eq_true rfl, Nat.le_of_ble_eq_true rfl⟩) (mx_preV (C := RX7) (T := TX7) (N := 10) (ci := 7) hKx hP hD hS hA [0, 1, 2, 3, 4, 5] (by decide) rfl rfl rfl) rfl rfl hl.1 rfl (lv_room (Nat.le_of_ble_eq_true rfl)) dX7_cost_14 ⟨Nat.le_of_ble_eq_true rfl, Nat.le_of_ble_eq_true rfl⟩) hP hD hS hA [0, 1, 2, 3, 4, 5] [] rfl rfl (by decide) (by decide) (fun r3 u3 H locs hq3 hP hD hS => ?_)
    replace hP : va_P (dC, dI) vwCl [(h, .inr (7, [.ref k, .ref d, .ref j, .ref o, .ref f, .ref g, .ref wk, .ref im, .ref kt, .ref dl])), (d, .inr (4, [.ref ds, .int 0, .ref dk, .ref dw, .int 0, .int (-6)])), (j, .inr (1, [.ref k, .ref d, .ref jd, .ref jb, .ref jw, .ref jl, .int (-6), .int (-6), .int 800, .int 0, .int (-6), .int 0, .int 0, .int 0])), (jl, .inl (cI, 61, .inl (upd (fun _ => 0) 0 800))), (k, .inr (0, [.ref ks, .ref kw, .ref kc, .int (-6), .int 0, .int 0, .ref kq, .ref km, .ref kd, .int 0, .ref ka, .ref kk])), (ks, .inl (cI, 5, .inl (upd (fun _ => 0) 0 800)))] H := hP
    replace hD : va_D A [(h, .inr (7, [.ref k, .ref d, .ref j, .ref o, .ref f, .ref g, .ref wk, .ref im, .ref kt, .ref dl])), (d, .inr (4, [.ref ds, .int 0, .ref dk, .ref dw, .int 0, .int (-6)])), (j, .inr (1, [.ref k, .ref d, .ref jd, .ref jb, .ref jw, .ref jl, .int (-6), .int (-6), .int 800, .int 0, .int (-6), .int 0, .int 0, .int 0])), (jl, .inl (cI, 61, .inl (upd (fun _ => 0) 0 800))), (k, .inr (0, [.ref ks, .ref kw, .ref kc, .int (-6), .int 0, .int 0, .ref kq, .ref km, .ref kd, .int 0, .ref ka, .ref kk])), (ks, .inl (cI, 5, .inl (upd (fun _ => 0) 0 800)))] := hD
    obtain rfl : r3 = 0 := hq3
    refine lv_istore_n (lv' := [(3, .int 0), (0, .ref h), (1, .int i0), (2, .int i1)]) hx hb dX7_cost_17 rfl hl (by decide) rfl (fun ls hl => ?_)
    refine lv_iload_n hx hb dX7_cost_18 rfl (lv_at hl 0 rfl) ?_
    refine lv_if_eq (tgt := 24) hx hb dX7_cost_19 (by decide) (fun c4 => ?_) (fun c4 => absurd c4 (by decide))
    refine lv_iload_n hx hb dX7_cost_24 rfl (lv_at hl 2 rfl) ?_
    refine lv_iconst (v := 0) hx hb dX7_cost_25 (by decide) ?_
    refine lv_aload_n hx hb dX7_cost_26 rfl (lv_at hl 1 rfl) ?_
    refine va_get (D := (dC, dI)) (ci := 7) (v := .ref d) (C := RX7) (T := TX7) (N := 10) hx hb hts hin7 hown hK hP 0 rfl rfl 1 (by decide) hw0 (fun _ h9 => h9) rfl dX7_cost_27 ?_
    refine va_get (D := (dC, dI)) (ci := 4) (v := .int 0) (C := RX4) (T := TX4) (N := 6) hx hb hts hin4 hown hK hP 1 rfl rfl 4 (by decide) hw1 (fun _ h9 => h9) rfl dX7_cost_30 ?_
    refine lv_iconst (v := 1) hx hb dX7_cost_33 (by decide) ?_
    refine lv_isub hx hb dX7_cost_34 ?_
    refine lv_topi (fun x5 e5 => ?_)
    obtain rfl : x5 = (-1) := e5.trans (by decide)
    refine mx_i (wr := [(h, .inr (7, [.ref k, .ref d, .ref j, .ref o, .ref f, .ref g, .ref wk, .ref im, .ref kt, .ref dl])), (d, .inr (4, [.ref ds, .int 0, .ref dk, .ref dw, .int 0, .int (-6)])), (j, .inr (1, [.ref k, .ref d, .ref jd, .ref jb, .ref jw, .ref jl, .int (-6), .int (-6), .int 800, .int 0, .int (-6), .int 0, .int 0, .int 0])), (jl, .inl (cI, 61, .inl (upd (fun _ => 0) 0 800))), (k, .inr (0, [.ref ks, .ref kw, .ref kc, .int (-6), .int 0, .int 0, .ref kq, .ref km, .ref kd, .int 0, .ref ka, .ref kk])), (ks, .inl (cI, 5, .inl (upd (fun _ => 0) 0 800)))]) (va_runS (As := [.int i0, .int 0, .int (-1)]) (rest := []) ⟨hx, hb, hml, hown, hts⟩ (c_X7_isIn l dC dI cI cZ cK tS aK aV i0 0 (-1) H.size) (va_cwS 3 hts (gw_s (fun _ h9 => List.mem_cons_of_mem _ h9) wm_0 wm_1 wm_2 wm_3) rfl rfl rfl (by decide +kernel) ⟨Nat.le_of_ble_eq_true rfl, Nat.le_of_ble_eq_true rfl⟩) (mx_preS hKx hP hD hS hA [] (by decide) rfl) rfl rfl hl.1 rfl (lv_room (Nat.le_of_ble_eq_true rfl)) dX7_cost_35 ⟨Nat.le_of_ble_eq_true rfl, Nat.le_of_ble_eq_true rfl⟩) hP hD hS hA [] [0, 1, 2, 3, 4, 5] rfl rfl (by decide) (by decide) (fun r6 u6 H locs hq6 hP hD hS => ?_)
    replace hP : va_P (dC, dI) vwCl [(h, .inr (7, [.ref k, .ref d, .ref j, .ref o, .ref f, .ref g, .ref wk, .ref im, .ref kt, .ref dl])), (d, .inr (4, [.ref ds, .int 0, .ref dk, .ref dw, .int 0, .int (-6)])), (j, .inr (1, [.ref k, .ref d, .ref jd, .ref jb, .ref jw, .ref jl, .int (-6), .int (-6), .int 800, .int 0, .int (-6), .int 0, .int 0, .int 0])), (jl, .inl (cI, 61, .inl (upd (fun _ => 0) 0 800))), (k, .inr (0, [.ref ks, .ref kw, .ref kc, .int (-6), .int 0, .int 0, .ref kq, .ref km, .ref kd, .int 0, .ref ka, .ref kk])), (ks, .inl (cI, 5, .inl (upd (fun _ => 0) 0 800)))] H := hP
    replace hD : va_D A [(h, .inr (7, [.ref k, .ref d, .ref j, .ref o, .ref f, .ref g, .ref wk, .ref im, .ref kt, .ref dl])), (d, .inr (4, [.ref ds, .int 0, .ref dk, .ref dw, .int 0, .int (-6)])), (j, .inr (1, [.ref k, .ref d, .ref jd, .ref jb, .ref jw, .ref jl, .int (-6), .int (-6), .int 800, .int 0, .int (-6), .int 0, .int 0, .int 0])), (jl, .inl (cI, 61, .inl (upd (fun _ => 0) 0 800))), (k, .inr (0, [.ref ks, .ref kw, .ref kc, .int (-6), .int 0, .int 0, .ref kq, .ref km, .ref kd, .int 0, .ref ka, .ref kk])), (ks, .inl (cI, 5, .inl (upd (fun _ => 0) 0 800)))] := hD
    rcases hq6 with ⟨rfl, hf6⟩ | ⟨rfl, hf6⟩
    · exfalso; have hf6 : (0 : Int) ≤ i0.toInt ∧ i0.toInt ≤ (-1 : Int) := hf6; omega
    · have hf6 : i0.toInt < (0 : Int) ∨ (-1 : Int) < i0.toInt := hf6
      refine lv_if_ne (tgt := 43) hx hb dX7_cost_38 (by decide) (fun c7 => absurd c7 (by decide)) (fun c7 => ?_)
      refine lv_iconst (v := (-1)) hx hb dX7_cost_41 (by decide) ?_
      have hP9 := mx_subP (wc := []) hP [] rfl
      have hD9 := hD.sub (ws' := []) [] (by decide) rfl
      exact W.iret (v := (-1)) hx hb hr (fun t ht hW => ⟨⟨(-1), (), rfl, (by first | exact Or.inl (⟨rfl, by omega⟩) | exact Or.inr (⟨rfl, by omega⟩)), by rw [ht]; exact hP9, hD9⟩, hS.F ht⟩) hS.2.2 dX7_cost_42
  · have hf1 : i1.toInt < (0 : Int) ∨ (1 : Int) < i1.toInt := hf1
    refine lv_if_ne (tgt := 12) hx hb dX7_cost_6 (by decide) (fun c8 => absurd c8 (by decide)) (fun c8 => ?_)
    refine lv_bipush (v := (-2)) hx hb dX7_cost_9 (by decide) ?_
    have hP9 := mx_subP (wc := []) hP [] rfl
    have hD9 := hD.sub (ws' := []) [] (by decide) rfl
    exact W.iret (v := (-2)) hx hb hr (fun t ht hW => ⟨⟨(-2), (), rfl, (by first | exact Or.inl (⟨rfl, by omega⟩) | exact Or.inr (⟨rfl, by omega⟩)), by rw [ht]; exact hP9, hD9⟩, hS.F ht⟩) hS.2.2 dX7_cost_11
