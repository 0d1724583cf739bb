set_option maxHeartbeats 4000000 in
set_option maxRecDepth 100000 in
theorem c_X7_isIn (l : Launch) (dC : Nat → ClassId) (dI : Nat → Nat → Nat) (cI cZ cK : ClassId) (tS : Nat) (aK aV : Nat → Nat) (i0 : Int32) (i1 : Int32) (i2 : Int32) (sz : Nat) : Ci l yX7_isIn (wq yX7_isIn cX7_isIn 3 (some .boolean)) ({ frames := 0, cells := 0, slots := 0, locals := 0 }) dC dI cI cZ cK tS aK aV [.int i0, .int i1, .int i2] sz [] (fun (r : Int32) (u : Unit) => (r = 1 ∧ (i1.toInt ≤ i0.toInt ∧ i0.toInt ≤ i2.toInt)) ∨ (r = 0 ∧ (i0.toInt < i1.toInt ∨ i2.toInt < i0.toInt))) (fun _ => []) := by
  refine Met.ofW (cc := cX7_isIn) (maxL := 3) (ret := (some .boolean)) (by decide) rfl ?_
  intro p e s m args below meth c s₁ B hml hv
  obtain ⟨rfl, hsz, hP, hKx, hD0⟩ := hv
  have hx := B.exec
  have hb := B.bytes
  have hr := B.returns
  have hts := atoms_spec (ws := wq yX7_isIn cX7_isIn 3 (some .boolean)) B.pre
  have hown : s.vm.findClass RX7 = some m.cls := findClass_of_methodNamed B.named
  have hlocks := B.notSynchronized
  subst hsz
  have hD := hD0.self (sz := s.heap.size)
  generalize hAe : va_A [] s.heap.size = A at hD hKx ⊢
  have hA : ∀ q : Nat, s.heap.size ≤ q → A q := fun q h => by rw [← hAe]; exact Or.inr h
  have hS : va_S A s.heap s.heap [] := va_S.rf
  have hP : va_P (dC, dI) vwCl [] s.heap := hP
  have hl := lv_entry ([.int i0, .int i1, .int i2]) (n := 3) (Nat.le_of_ble_eq_true rfl)
  rw [lg_entry_eq]
  generalize (lg_sl ([.int i0, .int i1, .int i2]) ++ List.replicate (3 - (lg_sl ([.int i0, .int i1, .int i2])).length) Slot.unset).toArray = ls at hl ⊢
  have hl : lv_has ls 3 [(0, .int i0), (1, .int i1), (2, .int i2)] := hl
  have hK := hKx.1
  refine lv_iload_n hx hb dX7_isIn_0 rfl (lv_at hl 0 rfl) ?_
  refine lv_iload_n hx hb dX7_isIn_1 rfl (lv_at hl 1 rfl) ?_
  refine lv_icmp_lt (tgt := 14) hx hb dX7_isIn_2 (by decide) (fun c1 => ?_) (fun c1 => ?_)
  · have t1 : i0.toInt < i1.toInt := (tlt c1)
    refine lv_iconst (v := 0) hx hb dX7_isIn_14 (by decide) ?_
    have hP9 := mx_subP (wc := []) hP [] rfl
    have hD9 := hD.sub (ws' := []) [] (by decide) rfl
    exact W.zret (v := 0) hx hb hr rfl (fun t ht hW => ⟨⟨0, (), rfl, (by first | exact Or.inl (⟨rfl, by omega⟩) | exact Or.inr (⟨rfl, by omega⟩)), by rw [ht]; exact hP9, hD9⟩, hS.F ht⟩) hS.2.2 dX7_isIn_15
  · have t1 : i1.toInt ≤ i0.toInt := (tnlt c1)
    refine lv_iload_n hx hb dX7_isIn_5 rfl (lv_at hl 0 rfl) ?_
    refine lv_iload_n hx hb dX7_isIn_6 rfl (lv_at hl 2 rfl) ?_
    refine lv_icmp_gt (tgt := 14) hx hb dX7_isIn_7 (by decide) (fun c2 => ?_) (fun c2 => ?_)
    · have t2 : i2.toInt < i0.toInt := (tlt c2)
      refine lv_iconst (v := 0) hx hb dX7_isIn_14 (by decide) ?_
      have hP9 := mx_subP (wc := []) hP [] rfl
      have hD9 := hD.sub (ws' := []) [] (by decide) rfl
      exact W.zret (v := 0) hx hb hr rfl (fun t ht hW => ⟨⟨0, (), rfl, (by first | exact Or.inl (⟨rfl, by omega⟩) | exact Or.inr (⟨rfl, by omega⟩)), by rw [ht]; exact hP9, hD9⟩, hS.F ht⟩) hS.2.2 dX7_isIn_15
    · have t2 : i0.toInt ≤ i2.toInt := (tnlt c2)
      refine lv_iconst (v := 1) hx hb dX7_isIn_10 (by decide) ?_
      refine lv_goto (tgt := 15) hx hb dX7_isIn_11 (by decide) ?_
      have hP9 := mx_subP (wc := []) hP [] rfl
      have hD9 := hD.sub (ws' := []) [] (by decide) rfl
      exact W.zret (v := 1) hx hb hr rfl (fun t ht hW => ⟨⟨1, (), rfl, (by first | exact Or.inl (⟨rfl, by omega⟩) | exact Or.inr (⟨rfl, by omega⟩)), by rw [ht]; exact hP9, hD9⟩, hS.F ht⟩) hS.2.2 dX7_isIn_15
set_option maxHeartbeats 4000000 in
set_option maxRecDepth 100000 in
theorem c_X7_isDay (l : Launch) (dC : Nat → ClassId) (dI : Nat → Nat → Nat) (cI cZ cK : ClassId) (tS : Nat) (aK aV : Nat → Nat) (i0 : Int32) (sz : Nat) : Ci l yX7_isDay (wq yX7_isDay cX7_isDay 1 (some .boolean)) ({ frames := 1, cells := 0, slots := 0, locals := 22 }) dC dI cI cZ cK tS aK aV [.int i0] sz [] (fun (r : Int32) (u : Unit) => (r = 1 ∧ (0 ≤ i0.toInt ∧ i0.toInt ≤ 13)) ∨ (r = 0 ∧ (i0.toInt < 0 ∨ 13 < i0.toInt))) (fun _ => []) := by
  refine Met.ofW (cc := cX7_isDay) (maxL := 1) (ret := (some .boolean)) (by decide) rfl ?_
  intro p e s m args below meth c s₁ B hml hv
  obtain ⟨rfl, hsz, hP, hKx, hD0⟩ := hv
  have hx := B.exec
  have hb := B.bytes
  have hr := B.returns
  have hts := atoms_spec (ws := wq yX7_isDay cX7_isDay 1 (some .boolean)) B.pre
  have hown : s.vm.findClass RX7 = some m.cls := findClass_of_methodNamed B.named
  have hlocks := B.notSynchronized
  subst hsz
  have hD := hD0.self (sz := s.heap.size)
  generalize hAe : va_A [] s.heap.size = A at hD hKx ⊢
  have hA : ∀ q : Nat, s.heap.size ≤ q → A q := fun q h => by rw [← hAe]; exact Or.inr h
  have hS : va_S A s.heap s.heap [] := va_S.rf
  have hP : va_P (dC, dI) vwCl [] s.heap := hP
  have hl := lv_entry ([.int i0]) (n := 1) (Nat.le_of_ble_eq_true rfl)
  rw [lg_entry_eq]
  generalize (lg_sl ([.int i0]) ++ List.replicate (1 - (lg_sl ([.int i0])).length) Slot.unset).toArray = ls at hl ⊢
  have hl : lv_has ls 1 [(0, .int i0)] := hl
  have hK := hKx.1
  refine lv_iload_n hx hb dX7_isDay_0 rfl (lv_at hl 0 rfl) ?_
  refine lv_iconst (v := 0) hx hb dX7_isDay_1 (by decide) ?_
  refine lv_bipush (v := 13) hx hb dX7_isDay_2 (by decide) ?_
  refine mx_i (wr := []) (va_runS (As := [.int i0, .int 0, .int 13]) (rest := []) ⟨hx, hb, hml, hown, hts⟩ (c_X7_isIn l dC dI cI cZ cK tS aK aV i0 0 13 s.heap.size) (va_cwS 3 hts (gw_s (fun _ h9 => List.mem_cons_of_mem _ h9) wm_141 wm_142 wm_2 wm_143) rfl rfl rfl (by decide +kernel) ⟨Nat.le_of_ble_eq_true rfl, Nat.le_of_ble_eq_true rfl⟩) (mx_preS hKx hP hD hS hA [] (by decide) rfl) rfl rfl hl.1 rfl (lv_room (Nat.le_of_ble_eq_true rfl)) dX7_isDay_4 ⟨Nat.le_of_ble_eq_true rfl, Nat.le_of_ble_eq_true rfl⟩) hP hD hS hA [] [] rfl rfl (by decide) (by decide) (fun r1 u1 H locs hq1 hP hD hS => ?_)
  replace hP : va_P (dC, dI) vwCl [] H := hP
  replace hD : va_D A [] := hD
  rcases hq1 with ⟨rfl, hf1⟩ | ⟨rfl, hf1⟩
  · have hf1 : (0 : Int) ≤ i0.toInt ∧ i0.toInt ≤ (13 : Int) := hf1
    have hP9 := mx_subP (wc := []) hP [] rfl
    have hD9 := hD.sub (ws' := []) [] (by decide) rfl
    exact W.zret (v := 1) hx hb hr rfl (fun t ht hW => ⟨⟨1, (), rfl, (by first | exact Or.inl (⟨rfl, by omega⟩) | exact Or.inr (⟨rfl, by omega⟩)), by rw [ht]; exact hP9, hD9⟩, hS.F ht⟩) hS.2.2 dX7_isDay_7
  · have hf1 : i0.toInt < (0 : Int) ∨ (13 : Int) < i0.toInt := hf1
    have hP9 := mx_subP (wc := []) hP [] rfl
    have hD9 := hD.sub (ws' := []) [] (by decide) rfl
    exact W.zret (v := 0) hx hb hr rfl (fun t ht hW => ⟨⟨0, (), rfl, (by first | exact Or.inl (⟨rfl, by omega⟩) | exact Or.inr (⟨rfl, by omega⟩)), by rw [ht]; exact hP9, hD9⟩, hS.F ht⟩) hS.2.2 dX7_isDay_7
set_option maxHeartbeats 4000000 in
set_option maxRecDepth 100000 in
theorem c_X0_has (l : Launch) (dC : Nat → ClassId) (dI : Nat → Nat → Nat) (cI cZ cK : ClassId) (tS : Nat) (aK aV : Nat → Nat) (k : Nat) (i0 : Int32) (ks : Nat) (kw : Nat) (kc : Nat) (kwd : Int32) (kbg : Int32) (kme : Int32) (kq : Nat) (km : Nat) (kd : Nat) (ksi : Int32) (ka : Nat) (kk : Nat) (sz : Nat) : Ci l yX0_has (wq yX0_has cX0_has 2 (some .boolean)) ({ frames := 1, cells := 0, slots := 0, locals := 22 }) dC dI cI cZ cK tS aK aV [.ref k, .int i0] sz [(k, .inr (0, [.ref ks, .ref kw, .ref kc, .int kwd, .int kbg, .int kme, .ref kq, .ref km, .ref kd, .int ksi, .ref ka, .ref kk]))] (fun (r : Int32) (u : Unit) => (r = hsF kme i0) ∧ ((r = 1 ∧ (0 ≤ i0.toInt ∧ i0.toInt ≤ 5)) ∨ (r = 0 ∧ (True)))) (fun _ => [(k, .inr (0, [.ref ks, .ref kw, .ref kc, .int kwd, .int kbg, .int kme, .ref kq, .ref km, .ref kd, .int ksi, .ref ka, .ref kk]))]) := by
  refine Met.ofW (cc := cX0_has) (maxL := 2) (ret := (some .boolean)) (by decide) rfl ?_
  intro p e s m args below meth c s₁ B hml hv
  obtain ⟨rfl, hsz, hP, hKx, hD0⟩ := hv
  have hx := B.exec
  have hb := B.bytes
  have hr := B.returns
  have hts := atoms_spec (ws := wq yX0_has cX0_has 2 (some .boolean)) B.pre
  have hown : s.vm.findClass RX0 = some m.cls := findClass_of_methodNamed B.named
  have hlocks := B.notSynchronized
  subst hsz
  have hD := hD0.self (sz := s.heap.size)
  generalize hAe : va_A [(k, .inr (0, [.ref ks, .ref kw, .ref kc, .int kwd, .int kbg, .int kme, .ref kq, .ref km, .ref kd, .int ksi, .ref ka, .ref kk]))] s.heap.size = A at hD hKx ⊢
  have hA : ∀ q : Nat, s.heap.size ≤ q → A q := fun q h => by rw [← hAe]; exact Or.inr h
  have hS : va_S A s.heap s.heap [] := va_S.rf
  have hP : va_P (dC, dI) vwCl [(k, .inr (0, [.ref ks, .ref kw, .ref kc, .int kwd, .int kbg, .int kme, .ref kq, .ref km, .ref kd, .int ksi, .ref ka, .ref kk]))] s.heap := hP
  have hl := lv_entry ([.ref k, .int i0]) (n := 2) (Nat.le_of_ble_eq_true rfl)
  rw [lg_entry_eq]
  generalize (lg_sl ([.ref k, .int i0]) ++ List.replicate (2 - (lg_sl ([.ref k, .int i0])).length) Slot.unset).toArray = ls at hl ⊢
  have hl : lv_has ls 2 [(0, .ref k), (1, .int i0)] := hl
  have hK := hKx.1
  have hin0 := fun w9 h9 => List.mem_cons_of_mem (Cond.code yX0_has cX0_has 2 (some .boolean)) (inlX0 w9 h9)
  have hw0 := hts (.initialized RX7) (List.mem_cons_of_mem _ wm_2)
  have hw1 := hts (.static yX7_isIn) (List.mem_cons_of_mem _ wm_142)
  have hw2 := hts (.fieldLink RX0 50 "OneCan$Camp" "meals" "I") (List.mem_cons_of_mem _ wm_382)
  refine lv_iload_n hx hb dX0_has_0 rfl (lv_at hl 1 rfl) ?_
  refine lv_iconst (v := 0) hx hb dX0_has_1 (by decide) ?_
  refine lv_iconst (v := 5) hx hb dX0_has_2 (by decide) ?_
  refine mx_i (wr := [(k, .inr (0, [.ref ks, .ref kw, .ref kc, .int kwd, .int kbg, .int kme, .ref kq, .ref km, .ref kd, .int ksi, .ref ka, .ref kk]))]) (va_runSN (As := [.int i0, .int 0, .int 5]) (rest := []) ⟨hx, hb, hml, hown, hts⟩ (c_X7_isIn l dC dI cI cZ cK tS aK aV i0 0 5 s.heap.size) ⟨va_cnB 3 hts (gw_i (fun _ h9 => List.mem_cons_of_mem _ h9) wm_143) rfl rfl rfl hKx.2.1 hw0 (by decide +kernel) ⟨Nat.le_of_ble_eq_true rfl, Nat.le_of_ble_eq_true rfl⟩, hw1, trivial⟩ (mx_preS hKx hP hD hS hA [] (by decide) rfl) rfl rfl hl.1 rfl (lv_room (Nat.le_of_ble_eq_true rfl)) dX0_has_3 ⟨Nat.le_of_ble_eq_true rfl, Nat.le_of_ble_eq_true rfl⟩) hP hD hS hA [] [0] rfl rfl (by decide) (by decide) (fun r1 u1 H locs hq1 hP hD hS => ?_)
  replace hP : va_P (dC, dI) vwCl [(k, .inr (0, [.ref ks, .ref kw, .ref kc, .int kwd, .int kbg, .int kme, .ref kq, .ref km, .ref kd, .int ksi, .ref ka, .ref kk]))] H := hP
  replace hD : va_D A [(k, .inr (0, [.ref ks, .ref kw, .ref kc, .int kwd, .int kbg, .int kme, .ref kq, .ref km, .ref kd, .int ksi, .ref ka, .ref kk]))] := hD
  rcases hq1 with ⟨rfl, hf1⟩ | ⟨rfl, hf1⟩
  · have hf1 : (0 : Int) ≤ i0.toInt ∧ i0.toInt ≤ (5 : Int) := hf1
    refine lv_if_eq (tgt := 25) hx hb dX0_has_6 (by decide) (fun c2 => absurd c2 (by decide)) (fun c2 => ?_)
    refine lv_aload_n hx hb dX0_has_9 rfl (lv_at hl 0 rfl) ?_
    refine va_get (D := (dC, dI)) (ci := 0) (v := .int kme) (C := RX0) (T := TX0) (N := 12) hx hb hts hin0 hown hK hP 0 rfl rfl 5 (by decide) hw2 (fun _ h9 => h9) rfl dX0_has_10 ?_
    refine lv_iload_n hx hb dX0_has_13 rfl (lv_at hl 1 rfl) ?_
    refine lv_ishr hx hb dX0_has_14 ?_
    refine lv_iconst (v := 1) hx hb dX0_has_15 (by decide) ?_
    refine lv_iand hx hb dX0_has_16 ?_
    refine lv_iconst (v := 1) hx hb dX0_has_17 (by decide) ?_
    refine lv_icmp_ne (tgt := 25) hx hb dX0_has_18 (by decide) (fun c3 => ?_) (fun c3 => ?_)
    · have t3 : ((kme >>> (i0 &&& 31)) &&& 1).toInt ≠ (1 : Int) := (tne c3)
      refine lv_iconst (v := 0) hx hb dX0_has_25 (by decide) ?_
      have hP9 := mx_subP (wc := [(k, .inr (0, [.ref ks, .ref kw, .ref kc, .int kwd, .int kbg, .int kme, .ref kq, .ref km, .ref kd, .int ksi, .ref ka, .ref kk]))]) hP [0] rfl
      have hD9 := hD.sub (ws' := [(k, .inr (0, [.ref ks, .ref kw, .ref kc, .int kwd, .int kbg, .int kme, .ref kq, .ref km, .ref kd, .int ksi, .ref ka, .ref kk]))]) [0] (by decide) rfl
      exact W.zret (v := 0) hx hb hr rfl (fun t ht hW => ⟨⟨0, (), rfl, ⟨(show (0 : Int32) = hsF kme i0 from (by first | exact hs_a (by omega) | exact hs_b (by assumption))), (by first | exact Or.inl (⟨rfl, by omega⟩) | exact Or.inr (⟨rfl, trivial⟩))⟩, by rw [ht]; exact hP9, hD9⟩, hS.F ht⟩) hS.2.2 dX0_has_26
    · have t3 : ((kme >>> (i0 &&& 31)) &&& 1).toInt = (1 : Int) := (teq c3)
      refine lv_iconst (v := 1) hx hb dX0_has_21 (by decide) ?_
      refine lv_goto (tgt := 26) hx hb dX0_has_22 (by decide) ?_
      have hP9 := mx_subP (wc := [(k, .inr (0, [.ref ks, .ref kw, .ref kc, .int kwd, .int kbg, .int kme, .ref kq, .ref km, .ref kd, .int ksi, .ref ka, .ref kk]))]) hP [0] rfl
      have hD9 := hD.sub (ws' := [(k, .inr (0, [.ref ks, .ref kw, .ref kc, .int kwd, .int kbg, .int kme, .ref kq, .ref km, .ref kd, .int ksi, .ref ka, .ref kk]))]) [0] (by decide) rfl
      exact W.zret (v := 1) hx hb hr rfl (fun t ht hW => ⟨⟨1, (), rfl, ⟨(show (1 : Int32) = hsF kme i0 from (hs_1 (by omega) (by assumption))), (by first | exact Or.inl (⟨rfl, by omega⟩) | exact Or.inr (⟨rfl, trivial⟩))⟩, by rw [ht]; exact hP9, hD9⟩, hS.F ht⟩) hS.2.2 dX0_has_26
  · have hf1 : i0.toInt < (0 : Int) ∨ (5 : Int) < i0.toInt := hf1
    refine lv_if_eq (tgt := 25) hx hb dX0_has_6 (by decide) (fun c4 => ?_) (fun c4 => absurd c4 (by decide))
    refine lv_iconst (v := 0) hx hb dX0_has_25 (by decide) ?_
    have hP9 := mx_subP (wc := [(k, .inr (0, [.ref ks, .ref kw, .ref kc, .int kwd, .int kbg, .int kme, .ref kq, .ref km, .ref kd, .int ksi, .ref ka, .ref kk]))]) hP [0] rfl
    have hD9 := hD.sub (ws' := [(k, .inr (0, [.ref ks, .ref kw, .ref kc, .int kwd, .int kbg, .int kme, .ref kq, .ref km, .ref kd, .int ksi, .ref ka, .ref kk]))]) [0] (by decide) rfl
    exact W.zret (v := 0) hx hb hr rfl (fun t ht hW => ⟨⟨0, (), rfl, ⟨(show (0 : Int32) = hsF kme i0 from (by first | exact hs_a (by omega) | exact hs_b (by assumption))), (by first | exact Or.inl (⟨rfl, by omega⟩) | exact Or.inr (⟨rfl, trivial⟩))⟩, by rw [ht]; exact hP9, hD9⟩, hS.F ht⟩) hS.2.2 dX0_has_26
set_option maxHeartbeats 4000000 in
set_option maxRecDepth 100000 in
theorem c_X0_boilsAt (l : Launch) (dC : Nat → ClassId) (dI : Nat → Nat → Nat) (cI cZ cK : ClassId) (tS : Nat) (aK aV : Nat → Nat) (k : Nat) (ks : Nat) (kw : Nat) (kc : Nat) (kwd : Int32) (kbg : Int32) (kme : Int32) (kq : Nat) (km : Nat) (kd : Nat) (ksi : Int32) (ka : Nat) (kk : Nat) (kfs : Nat → Int32) (sz : Nat) (h_kfs_4 : 0 ≤ (kfs 4).toInt ∧ (kfs 4).toInt ≤ 13) : Ci l yX0_boilsAt (wq yX0_boilsAt cX0_boilsAt 1 (some .int)) ({ frames := 0, cells := 0, slots := 0, locals := 0 }) dC dI cI cZ cK tS aK aV [.ref k] sz [(k, .inr (0, [.ref ks, .ref kw, .ref kc, .int kwd, .int kbg, .int kme, .ref kq, .ref km, .ref kd, .int ksi, .ref ka, .ref kk])), (ks, .inl (cI, 5, .inl kfs))] (fun (r : Int32) (u : Unit) => True) (fun _ => [(k, .inr (0, [.ref ks, .ref kw, .ref kc, .int kwd, .int kbg, .int kme, .ref kq, .ref km, .ref kd, .int ksi, .ref ka, .ref kk])), (ks, .inl (cI, 5, .inl kfs))]) := by
  refine Met.ofW (cc := cX0_boilsAt) (maxL := 1) (ret := (some .int)) (by decide) rfl ?_
  intro p e s m args below meth c s₁ B hml hv
  obtain ⟨rfl, hsz, hP, hKx, hD0⟩ := hv
  have hx := B.exec
  have hb := B.bytes
  have hr := B.returns
  have hts := atoms_spec (ws := wq yX0_boilsAt cX0_boilsAt 1 (some .int)) B.pre
  have hown : s.vm.findClass RX0 = some m.cls := findClass_of_methodNamed B.named
  have hlocks := B.notSynchronized
  subst hsz
  have hD := hD0.self (sz := s.heap.size)
  generalize hAe : va_A [(k, .inr (0, [.ref ks, .ref kw, .ref kc, .int kwd, .int kbg, .int kme, .ref kq, .ref km, .ref kd, .int ksi, .ref ka, .ref kk])), (ks, .inl (cI, 5, .inl kfs))] s.heap.size = A at hD hKx ⊢
  have hA : ∀ q : Nat, s.heap.size ≤ q → A q := fun q h => by rw [← hAe]; exact Or.inr h
  have hS : va_S A s.heap s.heap [] := va_S.rf
  have hP : va_P (dC, dI) vwCl [(k, .inr (0, [.ref ks, .ref kw, .ref kc, .int kwd, .int kbg, .int kme, .ref kq, .ref km, .ref kd, .int ksi, .ref ka, .ref kk])), (ks, .inl (cI, 5, .inl kfs))] s.heap := hP
  have hl := lv_entry ([.ref k]) (n := 1) (Nat.le_of_ble_eq_true rfl)
  rw [lg_entry_eq]
  generalize (lg_sl ([.ref k]) ++ List.replicate (1 - (lg_sl ([.ref k])).length) Slot.unset).toArray = ls at hl ⊢
  have hl : lv_has ls 1 [(0, .ref k)] := hl
  have hK := hKx.1
  have hin0 := fun w9 h9 => List.mem_cons_of_mem (Cond.code yX0_boilsAt cX0_boilsAt 1 (some .int)) (inlX0 w9 h9)
  have hw0 := hts (.fieldLink RX0 9 "OneCan$Camp" "settings" "[I") (List.mem_cons_of_mem _ wm_49)
  refine lv_bipush (v := 100) hx hb dX0_boilsAt_0 (by decide) ?_
  refine lv_aload_n hx hb dX0_boilsAt_2 rfl (lv_at hl 0 rfl) ?_
  refine va_get (D := (dC, dI)) (ci := 0) (v := .ref ks) (C := RX0) (T := TX0) (N := 12) hx hb hts hin0 hown hK hP 0 rfl rfl 0 (by decide) hw0 (fun _ h9 => h9) rfl dX0_boilsAt_3 ?_
  refine lv_iconst (v := 1) hx hb dX0_boilsAt_6 (by decide) ?_
  refine va_iald hx hb hK hP 1 0 rfl rfl (vin (by decide) (by decide)) dX0_boilsAt_7 ?_
  refine lv_topi (fun x1 e1 => ?_)
  refine lv_iconst (v := 3) hx hb dX0_boilsAt_8 (by decide) ?_
  refine lv_idiv hx hb dX0_boilsAt_9 (by decide) ?_
  refine lv_topi (fun x2 e2 => ?_)
  refine lv_isub hx hb dX0_boilsAt_10 ?_
  refine lv_topi (fun x3 e3 => ?_)
  have hP9 := mx_subP (wc := [(k, .inr (0, [.ref ks, .ref kw, .ref kc, .int kwd, .int kbg, .int kme, .ref kq, .ref km, .ref kd, .int ksi, .ref ka, .ref kk])), (ks, .inl (cI, 5, .inl kfs))]) hP [0, 1] rfl
  have hD9 := hD.sub (ws' := [(k, .inr (0, [.ref ks, .ref kw, .ref kc, .int kwd, .int kbg, .int kme, .ref kq, .ref km, .ref kd, .int ksi, .ref ka, .ref kk])), (ks, .inl (cI, 5, .inl kfs))]) [0, 1] (by decide) rfl
  exact W.iret (v := x3) hx hb hr (fun t ht hW => ⟨⟨x3, (), rfl, trivial, by rw [ht]; exact hP9, hD9⟩, hS.F ht⟩) hS.2.2 dX0_boilsAt_11
set_option maxHeartbeats 4000000 in
set_option maxRecDepth 100000 in
theorem c_X0_isHot (l : Launch) (dC : Nat → ClassId) (dI : Nat → Nat → Nat) (cI cZ cK : ClassId) (tS : Nat) (aK aV : Nat → Nat) (k : Nat) (i0 : Int32) (ks : Nat) (kw : Nat) (kc : Nat) (kwd : Int32) (kbg : Int32) (kme : Int32) (kq : Nat) (km : Nat) (kd : Nat) (ksi : Int32) (ka : Nat) (kk : Nat) (kfs : Nat → Int32) (kfd : Nat → Int32) (sz : Nat) (h_kfs_4 : 0 ≤ (kfs 4).toInt ∧ (kfs 4).toInt ≤ 13) (h_i0 : 0 ≤ i0.toInt ∧ i0.toInt ≤ 5) : Ci l yX0_isHot (wq yX0_isHot cX0_isHot 2 (some .boolean)) ({ frames := 1, cells := 0, slots := 0, locals := 20 }) dC dI cI cZ cK tS aK aV [.ref k, .int i0] sz [(k, .inr (0, [.ref ks, .ref kw, .ref kc, .int kwd, .int kbg, .int kme, .ref kq, .ref km, .ref kd, .int ksi, .ref ka, .ref kk])), (ks, .inl (cI, 5, .inl kfs)), (kd, .inl (cI, 6, .inl kfd))] (fun (r : Int32) (u : Unit) => True) (fun _ => [(k, .inr (0, [.ref ks, .ref kw, .ref kc, .int kwd, .int kbg, .int kme, .ref kq, .ref km, .ref kd, .int ksi, .ref ka, .ref kk])), (ks, .inl (cI, 5, .inl kfs)), (kd, .inl (cI, 6, .inl kfd))]) := by
  refine Met.ofW (cc := cX0_isHot) (maxL := 2) (ret := (some .boolean)) (by decide) rfl ?_
  intro p e s m args below meth c s₁ B hml hv
  obtain ⟨rfl, hsz, hP, hKx, hD0⟩ := hv
  have hx := B.exec
  have hb := B.bytes
  have hr := B.returns
  have hts := atoms_spec (ws := wq yX0_isHot cX0_isHot 2 (some .boolean)) B.pre
  have hown : s.vm.findClass RX0 = some m.cls := findClass_of_methodNamed B.named
  have hlocks := B.notSynchronized
  subst hsz
  have hD := hD0.self (sz := s.heap.size)
  generalize hAe : va_A [(k, .inr (0, [.ref ks, .ref kw, .ref kc, .int kwd, .int kbg, .int kme, .ref kq, .ref km, .ref kd, .int ksi, .ref ka, .ref kk])), (ks, .inl (cI, 5, .inl kfs)), (kd, .inl (cI, 6, .inl kfd))] s.heap.size = A at hD hKx ⊢
  have hA : ∀ q : Nat, s.heap.size ≤ q → A q := fun q h => by rw [← hAe]; exact Or.inr h
  have hS : va_S A s.heap s.heap [] := va_S.rf
  have hP : va_P (dC, dI) vwCl [(k, .inr (0, [.ref ks, .ref kw, .ref kc, .int kwd, .int kbg, .int kme, .ref kq, .ref km, .ref kd, .int ksi, .ref ka, .ref kk])), (ks, .inl (cI, 5, .inl kfs)), (kd, .inl (cI, 6, .inl kfd))] s.heap := hP
  have hl := lv_entry ([.ref k, .int i0]) (n := 2) (Nat.le_of_ble_eq_true rfl)
  rw [lg_entry_eq]
  generalize (lg_sl ([.ref k, .int i0]) ++ List.replicate (2 - (lg_sl ([.ref k, .int i0])).length) Slot.unset).toArray = ls at hl ⊢
  have hl : lv_has ls 2 [(0, .ref k), (1, .int i0)] := hl
  have hK := hKx.1
  have hin0 := fun w9 h9 => List.mem_cons_of_mem (Cond.code yX0_isHot cX0_isHot 2 (some .boolean)) (inlX0 w9 h9)
  have hw0 := hts (.fieldLink RX0 32 "OneCan$Camp" "degrees" "[I") (List.mem_cons_of_mem _ wm_55)
  refine lv_aload_n hx hb dX0_isHot_0 rfl (lv_at hl 0 rfl) ?_
  refine va_get (D := (dC, dI)) (ci := 0) (v := .ref kd) (C := RX0) (T := TX0) (N := 12) hx hb hts hin0 hown hK hP 0 rfl rfl 8 (by decide) hw0 (fun _ h9 => h9) rfl dX0_isHot_1 ?_
  refine lv_iload_n hx hb dX0_isHot_4 rfl (lv_at hl 1 rfl) ?_
  refine va_iald hx hb hK hP 2 0 rfl rfl (vin (by omega) (by omega)) dX0_isHot_5 ?_
  refine lv_topi (fun x1 e1 => ?_)
  refine lv_aload_n hx hb dX0_isHot_6 rfl (lv_at hl 0 rfl) ?_
  refine mx_i (wr := [(kd, .inl (cI, 6, .inl kfd))]) (va_runV (As := []) (rest := [.int x1]) ⟨hx, hb, hml, hown, hts⟩ (c_X0_boilsAt l dC dI cI cZ cK tS aK aV k ks kw kc kwd kbg kme kq km kd ksi ka kk kfs s.heap.size (by first | omega | decide | assumption | trivial)) (cwV 0 hts (gw_v (fun _ h9 => List.mem_cons_of_mem _ h9) wm_413 wm_414 wm_415 wm_14 wm_416) rfl rfl rfl (by decide +kernel) ⟨Nat.le_of_ble_eq_true rfl, Nat.le_of_ble_eq_true rfl⟩) (mx_preV (C := RX0) (T := TX0) (N := 12) (ci := 0) hKx hP hD hS hA [0, 1] (by decide) rfl rfl rfl) rfl rfl hl.1 rfl (lv_room (Nat.le_of_ble_eq_true rfl)) dX0_isHot_7 ⟨Nat.le_of_ble_eq_true rfl, Nat.le_of_ble_eq_true rfl⟩) hP hD hS hA [0, 1] [2] rfl rfl (by decide) (by decide) (fun r2 u2 H locs hq2 hP hD hS => ?_)
  replace hP : va_P (dC, dI) vwCl [(kd, .inl (cI, 6, .inl kfd)), (k, .inr (0, [.ref ks, .ref kw, .ref kc, .int kwd, .int kbg, .int kme, .ref kq, .ref km, .ref kd, .int ksi, .ref ka, .ref kk])), (ks, .inl (cI, 5, .inl kfs))] H := hP
  replace hD : va_D A [(kd, .inl (cI, 6, .inl kfd)), (k, .inr (0, [.ref ks, .ref kw, .ref kc, .int kwd, .int kbg, .int kme, .ref kq, .ref km, .ref kd, .int ksi, .ref ka, .ref kk])), (ks, .inl (cI, 5, .inl kfs))] := hD
  refine lv_icmp_gt (tgt := 17) hx hb dX0_isHot_10 (by decide) (fun c3 => ?_) (fun c3 => ?_)
  · have t3 : r2.toInt < x1.toInt := (tlt c3)
    refine lv_iconst (v := 0) hx hb dX0_isHot_17 (by decide) ?_
    have hP9 := mx_subP (wc := [(k, .inr (0, [.ref ks, .ref kw, .ref kc, .int kwd, .int kbg, .int kme, .ref kq, .ref km, .ref kd, .int ksi, .ref ka, .ref kk])), (ks, .inl (cI, 5, .inl kfs)), (kd, .inl (cI, 6, .inl kfd))]) hP [1, 2, 0] rfl
    have hD9 := hD.sub (ws' := [(k, .inr (0, [.ref ks, .ref kw, .ref kc, .int kwd, .int kbg, .int kme, .ref kq, .ref km, .ref kd, .int ksi, .ref ka, .ref kk])), (ks, .inl (cI, 5, .inl kfs)), (kd, .inl (cI, 6, .inl kfd))]) [1, 2, 0] (by decide) rfl
    exact W.zret (v := 0) hx hb hr rfl (fun t ht hW => ⟨⟨0, (), rfl, trivial, by rw [ht]; exact hP9, hD9⟩, hS.F ht⟩) hS.2.2 dX0_isHot_18
  · have t3 : x1.toInt ≤ r2.toInt := (tnlt c3)
    refine lv_iconst (v := 1) hx hb dX0_isHot_13 (by decide) ?_
    refine lv_goto (tgt := 18) hx hb dX0_isHot_14 (by decide) ?_
    have hP9 := mx_subP (wc := [(k, .inr (0, [.ref ks, .ref kw, .ref kc, .int kwd, .int kbg, .int kme, .ref kq, .ref km, .ref kd, .int ksi, .ref ka, .ref kk])), (ks, .inl (cI, 5, .inl kfs)), (kd, .inl (cI, 6, .inl kfd))]) hP [1, 2, 0] rfl
    have hD9 := hD.sub (ws' := [(k, .inr (0, [.ref ks, .ref kw, .ref kc, .int kwd, .int kbg, .int kme, .ref kq, .ref km, .ref kd, .int ksi, .ref ka, .ref kk])), (ks, .inl (cI, 5, .inl kfs)), (kd, .inl (cI, 6, .inl kfd))]) [1, 2, 0] (by decide) rfl
    exact W.zret (v := 1) hx hb hr rfl (fun t ht hW => ⟨⟨1, (), rfl, trivial, by rw [ht]; exact hP9, hD9⟩, hS.F ht⟩) hS.2.2 dX0_isHot_18
set_option maxHeartbeats 4000000 in
set_option maxRecDepth 100000 in
theorem c_X0_isShopShut (l : Launch) (dC : Nat → ClassId) (dI : Nat → Nat → Nat) (cI cZ cK : ClassId) (tS : Nat) (aK aV : Nat → Nat) (k : Nat) (i0 : Int32) (ks : Nat) (kw : Nat) (kc : Nat) (kwd : Int32) (kbg : Int32) (kme : Int32) (kq : Nat) (km : Nat) (kd : Nat) (ksi : Int32) (ka : Nat) (kk : Nat) (kfs : Nat → Int32) (sz : Nat) (h_kfs_4 : 0 ≤ (kfs 4).toInt ∧ (kfs 4).toInt ≤ 13) : Ci l yX0_isShopShut (wq yX0_isShopShut cX0_isShopShut 2 (some .boolean)) ({ frames := 0, cells := 0, slots := 0, locals := 0 }) dC dI cI cZ cK tS aK aV [.ref k, .int i0] sz [(k, .inr (0, [.ref ks, .ref kw, .ref kc, .int kwd, .int kbg, .int kme, .ref kq, .ref km, .ref kd, .int ksi, .ref ka, .ref kk])), (ks, .inl (cI, 5, .inl kfs))] (fun (r : Int32) (u : Unit) => True) (fun _ => [(k, .inr (0, [.ref ks, .ref kw, .ref kc, .int kwd, .int kbg, .int kme, .ref kq, .ref km, .ref kd, .int ksi, .ref ka, .ref kk])), (ks, .inl (cI, 5, .inl kfs))]) := by
  refine Met.ofW (cc := cX0_isShopShut) (maxL := 2) (ret := (some .boolean)) (by decide) rfl ?_
  intro p e s m args below meth c s₁ B hml hv
  obtain ⟨rfl, hsz, hP, hKx, hD0⟩ := hv
  have hx := B.exec
  have hb := B.bytes
  have hr := B.returns
  have hts := atoms_spec (ws := wq yX0_isShopShut cX0_isShopShut 2 (some .boolean)) B.pre
  have hown : s.vm.findClass RX0 = some m.cls := findClass_of_methodNamed B.named
  have hlocks := B.notSynchronized
  subst hsz
  have hD := hD0.self (sz := s.heap.size)
  generalize hAe : va_A [(k, .inr (0, [.ref ks, .ref kw, .ref kc, .int kwd, .int kbg, .int kme, .ref kq, .ref km, .ref kd, .int ksi, .ref ka, .ref kk])), (ks, .inl (cI, 5, .inl kfs))] s.heap.size = A at hD hKx ⊢
  have hA : ∀ q : Nat, s.heap.size ≤ q → A q := fun q h => by rw [← hAe]; exact Or.inr h
  have hS : va_S A s.heap s.heap [] := va_S.rf
  have hP : va_P (dC, dI) vwCl [(k, .inr (0, [.ref ks, .ref kw, .ref kc, .int kwd, .int kbg, .int kme, .ref kq, .ref km, .ref kd, .int ksi, .ref ka, .ref kk])), (ks, .inl (cI, 5, .inl kfs))] s.heap := hP
  have hl := lv_entry ([.ref k, .int i0]) (n := 2) (Nat.le_of_ble_eq_true rfl)
  rw [lg_entry_eq]
  generalize (lg_sl ([.ref k, .int i0]) ++ List.replicate (2 - (lg_sl ([.ref k, .int i0])).length) Slot.unset).toArray = ls at hl ⊢
  have hl : lv_has ls 2 [(0, .ref k), (1, .int i0)] := hl
  have hK := hKx.1
  have hin0 := fun w9 h9 => List.mem_cons_of_mem (Cond.code yX0_isShopShut cX0_isShopShut 2 (some .boolean)) (inlX0 w9 h9)
  have hw0 := hts (.fieldLink RX0 9 "OneCan$Camp" "settings" "[I") (List.mem_cons_of_mem _ wm_49)
  refine lv_iload_n hx hb dX0_isShopShut_0 rfl (lv_at hl 1 rfl) ?_
  refine lv_bipush (v := 7) hx hb dX0_isShopShut_1 (by decide) ?_
  refine lv_irem hx hb dX0_isShopShut_3 (by decide) ?_
  refine lv_topi (fun x1 e1 => ?_)
  refine lv_aload_n hx hb dX0_isShopShut_4 rfl (lv_at hl 0 rfl) ?_
  refine va_get (D := (dC, dI)) (ci := 0) (v := .ref ks) (C := RX0) (T := TX0) (N := 12) hx hb hts hin0 hown hK hP 0 rfl rfl 0 (by decide) hw0 (fun _ h9 => h9) rfl dX0_isShopShut_5 ?_
  refine lv_iconst (v := 2) hx hb dX0_isShopShut_8 (by decide) ?_
  refine va_iald hx hb hK hP 1 0 rfl rfl (vin (by decide) (by decide)) dX0_isShopShut_9 ?_
  refine lv_topi (fun x2 e2 => ?_)
  refine lv_icmp_ne (tgt := 17) hx hb dX0_isShopShut_10 (by decide) (fun c3 => ?_) (fun c3 => ?_)
  · have t3 : x1.toInt ≠ x2.toInt := (tne c3)
    refine lv_iconst (v := 0) hx hb dX0_isShopShut_17 (by decide) ?_
    have hP9 := mx_subP (wc := [(k, .inr (0, [.ref ks, .ref kw, .ref kc, .int kwd, .int kbg, .int kme, .ref kq, .ref km, .ref kd, .int ksi, .ref ka, .ref kk])), (ks, .inl (cI, 5, .inl kfs))]) hP [0, 1] rfl
    have hD9 := hD.sub (ws' := [(k, .inr (0, [.ref ks, .ref kw, .ref kc, .int kwd, .int kbg, .int kme, .ref kq, .ref km, .ref kd, .int ksi, .ref ka, .ref kk])), (ks, .inl (cI, 5, .inl kfs))]) [0, 1] (by decide) rfl
    exact W.zret (v := 0) hx hb hr rfl (fun t ht hW => ⟨⟨0, (), rfl, trivial, by rw [ht]; exact hP9, hD9⟩, hS.F ht⟩) hS.2.2 dX0_isShopShut_18
  · have t3 : x1.toInt = x2.toInt := (teq c3)
    refine lv_iconst (v := 1) hx hb dX0_isShopShut_13 (by decide) ?_
    refine lv_goto (tgt := 18) hx hb dX0_isShopShut_14 (by decide) ?_
    have hP9 := mx_subP (wc := [(k, .inr (0, [.ref ks, .ref kw, .ref kc, .int kwd, .int kbg, .int kme, .ref kq, .ref km, .ref kd, .int ksi, .ref ka, .ref kk])), (ks, .inl (cI, 5, .inl kfs))]) hP [0, 1] rfl
    have hD9 := hD.sub (ws' := [(k, .inr (0, [.ref ks, .ref kw, .ref kc, .int kwd, .int kbg, .int kme, .ref kq, .ref km, .ref kd, .int ksi, .ref ka, .ref kk])), (ks, .inl (cI, 5, .inl kfs))]) [0, 1] (by decide) rfl
    exact W.zret (v := 1) hx hb hr rfl (fun t ht hW => ⟨⟨1, (), rfl, trivial, by rw [ht]; exact hP9, hD9⟩, hS.F ht⟩) hS.2.2 dX0_isShopShut_18
set_option maxHeartbeats 4000000 in
set_option maxRecDepth 100000 in
theorem c_X0_windOn (l : Launch) (dC : Nat → ClassId) (dI : Nat → Nat → Nat) (cI cZ cK : ClassId) (tS : Nat) (aK aV : Nat → Nat) (k : Nat) (i0 : Int32) (i1 : Int32) (ks : Nat) (kw : Nat) (kc : Nat) (kwd : Int32) (kbg : Int32) (kme : Int32) (kq : Nat) (km : Nat) (kd : Nat) (ksi : Int32) (ka : Nat) (kk : Nat) (kfs : Nat → Int32) (kfw : Nat → Int32) (sz : Nat) (h_kfs_4 : 0 ≤ (kfs 4).toInt ∧ (kfs 4).toInt ≤ 13) (h_kfw : rg kfw 14 0 4) (h_i0 : 0 ≤ i0.toInt ∧ i0.toInt ≤ 13) (h_i1 : 0 ≤ i1.toInt ∧ i1.toInt ≤ 2) : Ci l yX0_windOn (wq yX0_windOn cX0_windOn 4 (some .int)) ({ frames := 1, cells := 0, slots := 0, locals := 21 }) dC dI cI cZ cK tS aK aV [.ref k, .int i0, .int i1] sz [(k, .inr (0, [.ref ks, .ref kw, .ref kc, .int kwd, .int kbg, .int kme, .ref kq, .ref km, .ref kd, .int ksi, .ref ka, .ref kk])), (ks, .inl (cI, 5, .inl kfs)), (kw, .inl (cI, 14, .inl kfw))] (fun (r : Int32) (u : Unit) => (i1.toInt ≠ 0 ∨ r = woF (kfs 3) (kfw i0.toNatClampNeg)) ∧ (0 ≤ r.toInt ∧ r.toInt ≤ 4)) (fun _ => [(k, .inr (0, [.ref ks, .ref kw, .ref kc, .int kwd, .int kbg, .int kme, .ref kq, .ref km, .ref kd, .int ksi, .ref ka, .ref kk])), (ks, .inl (cI, 5, .inl kfs)), (kw, .inl (cI, 14, .inl kfw))]) := by
  refine Met.ofW (cc := cX0_windOn) (maxL := 4) (ret := (some .int)) (by decide) rfl ?_
  intro p e s m args below meth c s₁ B hml hv
  obtain ⟨rfl, hsz, hP, hKx, hD0⟩ := hv
  have hx := B.exec
  have hb := B.bytes
  have hr := B.returns
  have hts := atoms_spec (ws := wq yX0_windOn cX0_windOn 4 (some .int)) B.pre
  have hown : s.vm.findClass RX0 = some m.cls := findClass_of_methodNamed B.named
  have hlocks := B.notSynchronized
  subst hsz
  have hD := hD0.self (sz := s.heap.size)
  generalize hAe : va_A [(k, .inr (0, [.ref ks, .ref kw, .ref kc, .int kwd, .int kbg, .int kme, .ref kq, .ref km, .ref kd, .int ksi, .ref ka, .ref kk])), (ks, .inl (cI, 5, .inl kfs)), (kw, .inl (cI, 14, .inl kfw))] s.heap.size = A at hD hKx ⊢
  have hA : ∀ q : Nat, s.heap.size ≤ q → A q := fun q h => by rw [← hAe]; exact Or.inr h
  have hS : va_S A s.heap s.heap [] := va_S.rf
  have hP : va_P (dC, dI) vwCl [(k, .inr (0, [.ref ks, .ref kw, .ref kc, .int kwd, .int kbg, .int kme, .ref kq, .ref km, .ref kd, .int ksi, .ref ka, .ref kk])), (ks, .inl (cI, 5, .inl kfs)), (kw, .inl (cI, 14, .inl kfw))] s.heap := hP
  have hl := lv_entry ([.ref k, .int i0, .int i1]) (n := 4) (Nat.le_of_ble_eq_true rfl)
  rw [lg_entry_eq]
  generalize (lg_sl ([.ref k, .int i0, .int i1]) ++ List.replicate (4 - (lg_sl ([.ref k, .int i0, .int i1])).length) Slot.unset).toArray = ls at hl ⊢
  have hl : lv_has ls 4 [(0, .ref k), (1, .int i0), (2, .int i1)] := hl
  have hK := hKx.1
  have hin0 := fun w9 h9 => List.mem_cons_of_mem (Cond.code yX0_windOn cX0_windOn 4 (some .int)) (inlX0 w9 h9)
  have hw0 := hts (.fieldLink RX0 15 "OneCan$Camp" "winds" "[I") (List.mem_cons_of_mem _ wm_50)
  have hw1 := hts (.methodLink RX0 64 Lib.Math.min.name) (List.mem_cons_of_mem _ wm_387)
  have hw2 := hts (.static Lib.Math.min.name) (List.mem_cons_of_mem _ wm_275)
  have hw3 := hts (.initialized "java/lang/Math") (List.mem_cons_of_mem _ wm_272)
  have hw4 := hts (.code Lib.Math.min.name Lib.Math.min.code 2 (some .int)) (List.mem_cons_of_mem _ wm_276)
  have hw5 := hts (.fieldLink RX0 9 "OneCan$Camp" "settings" "[I") (List.mem_cons_of_mem _ wm_49)
  have hw6 := hts (.methodLink RX0 70 Lib.Math.max.name) (List.mem_cons_of_mem _ wm_388)
  have hw7 := hts (.static Lib.Math.max.name) (List.mem_cons_of_mem _ wm_271)
  have hw8 := hts (.code Lib.Math.max.name Lib.Math.max.code 2 (some .int)) (List.mem_cons_of_mem _ wm_273)
  refine lv_aload_n hx hb dX0_windOn_0 rfl (lv_at hl 0 rfl) ?_
  refine va_get (D := (dC, dI)) (ci := 0) (v := .ref kw) (C := RX0) (T := TX0) (N := 12) hx hb hts hin0 hown hK hP 0 rfl rfl 1 (by decide) hw0 (fun _ h9 => h9) rfl dX0_windOn_1 ?_
  refine lv_iload_n hx hb dX0_windOn_4 rfl (lv_at hl 1 rfl) ?_
  refine va_iald hx hb hK hP 2 0 rfl rfl (vin (by omega) (by omega)) dX0_windOn_5 ?_
  refine lv_topi (fun y1 e1 => ?_)
  obtain rfl : kfw i0.toNatClampNeg = y1 := e1.symm
  have g1 : 0 ≤ (kfw i0.toNatClampNeg).toInt ∧ (kfw i0.toNatClampNeg).toInt ≤ 4 := rgI h_kfw (by omega) (by omega)
  refine lv_iload_n hx hb dX0_windOn_6 rfl (lv_at hl 2 rfl) ?_
  refine lv_iadd hx hb dX0_windOn_7 ?_
  refine lv_topi (fun x2 e2 => ?_)
  have f2 : x2.toInt = (kfw i0.toNatClampNeg).toInt + i1.toInt := by rw [e2]; exact tadd (by have t8 := tb (kfw i0.toNatClampNeg); have t8 := tb i1; omega) (by have t8 := tb (kfw i0.toNatClampNeg); have t8 := tb i1; omega)
  refine lv_iconst (v := 4) hx hb dX0_windOn_8 (by decide) ?_
  refine va_mmin hx hb (hml.trans hl.1.symm) hown hw1 hw2 hw3 hw4 (Nat.le_of_ble_eq_true rfl) (Nat.le_of_ble_eq_true rfl) (Nat.le_of_ble_eq_true rfl) (Nat.le_of_ble_eq_true rfl) dX0_windOn_9 ?_
  refine lv_topi (fun x3 e3 => ?_)
  have f3 : x3.toInt ≤ x2.toInt ∧ x3.toInt ≤ (4 : Int) ∧ (x3.toInt = x2.toInt ∨ x3.toInt = (4 : Int)) := by rw [e3]; exact mmmin_t
  refine lv_istore_n (lv' := [(3, .int x3), (0, .ref k), (1, .int i0), (2, .int i1)]) hx hb dX0_windOn_12 rfl hl (by decide) rfl (fun ls hl => ?_)
  refine lv_aload_n hx hb dX0_windOn_13 rfl (lv_at hl 1 rfl) ?_
  refine va_get (D := (dC, dI)) (ci := 0) (v := .ref ks) (C := RX0) (T := TX0) (N := 12) hx hb hts hin0 hown hK hP 0 rfl rfl 0 (by decide) hw5 (fun _ h9 => h9) rfl dX0_windOn_14 ?_
  refine lv_iconst (v := 3) hx hb dX0_windOn_17 (by decide) ?_
  refine va_iald hx hb hK hP 1 0 rfl rfl (vin (by decide) (by decide)) dX0_windOn_18 ?_
  refine lv_topi (fun y4 e4 => ?_)
  obtain rfl : kfs 3 = y4 := e4.symm
  refine lv_iconst (v := 1) hx hb dX0_windOn_19 (by decide) ?_
  refine lv_icmp_ne (tgt := 33) hx hb dX0_windOn_20 (by decide) (fun c5 => ?_) (fun c5 => ?_)
  · have t5 : (kfs 3).toInt ≠ (1 : Int) := (tne c5)
    refine lv_iload_n hx hb dX0_windOn_33 rfl (lv_at hl 0 rfl) ?_
    have hP9 := mx_subP (wc := [(k, .inr (0, [.ref ks, .ref kw, .ref kc, .int kwd, .int kbg, .int kme, .ref kq, .ref km, .ref kd, .int ksi, .ref ka, .ref kk])), (ks, .inl (cI, 5, .inl kfs)), (kw, .inl (cI, 14, .inl kfw))]) hP [0, 1, 2] rfl
    have hD9 := hD.sub (ws' := [(k, .inr (0, [.ref ks, .ref kw, .ref kc, .int kwd, .int kbg, .int kme, .ref kq, .ref km, .ref kd, .int ksi, .ref ka, .ref kk])), (ks, .inl (cI, 5, .inl kfs)), (kw, .inl (cI, 14, .inl kfw))]) [0, 1, 2] (by decide) rfl
    exact W.iret (v := x3) hx hb hr (fun t ht hW => ⟨⟨x3, (), rfl, ⟨(show i1.toInt ≠ 0 ∨ x3 = woF (kfs 3) (kfw i0.toNatClampNeg) from (wo_of (by omega) (by omega))), (by omega)⟩, by rw [ht]; exact hP9, hD9⟩, hS.F ht⟩) hS.2.2 dX0_windOn_34
  · have t5 : (kfs 3).toInt = (1 : Int) := (teq c5)
    refine lv_iload_n hx hb dX0_windOn_23 rfl (lv_at hl 0 rfl) ?_
    refine lv_iconst (v := 2) hx hb dX0_windOn_24 (by decide) ?_
    refine lv_isub hx hb dX0_windOn_25 ?_
    refine lv_topi (fun x6 e6 => ?_)
    have f6 : x6.toInt = x3.toInt - (2 : Int) := by rw [e6]; exact tsub (by have t8 := tb x3; have z8 : (2 : Int32).toInt = 2 := rfl; omega) (by have t8 := tb x3; have z8 : (2 : Int32).toInt = 2 := rfl; omega)
    refine lv_iconst (v := 0) hx hb dX0_windOn_26 (by decide) ?_
    refine va_mmax hx hb (hml.trans hl.1.symm) hown hw6 hw7 hw3 hw8 (Nat.le_of_ble_eq_true rfl) (Nat.le_of_ble_eq_true rfl) (Nat.le_of_ble_eq_true rfl) (Nat.le_of_ble_eq_true rfl) dX0_windOn_27 ?_
    refine lv_topi (fun x7 e7 => ?_)
    have f7 : x7.toInt ≥ x6.toInt ∧ x7.toInt ≥ (0 : Int) ∧ (x7.toInt = x6.toInt ∨ x7.toInt = (0 : Int)) := by rw [e7]; exact mmmax_t
    refine lv_goto (tgt := 34) hx hb dX0_windOn_30 (by decide) ?_
    have hP9 := mx_subP (wc := [(k, .inr (0, [.ref ks, .ref kw, .ref kc, .int kwd, .int kbg, .int kme, .ref kq, .ref km, .ref kd, .int ksi, .ref ka, .ref kk])), (ks, .inl (cI, 5, .inl kfs)), (kw, .inl (cI, 14, .inl kfw))]) hP [0, 1, 2] rfl
    have hD9 := hD.sub (ws' := [(k, .inr (0, [.ref ks, .ref kw, .ref kc, .int kwd, .int kbg, .int kme, .ref kq, .ref km, .ref kd, .int ksi, .ref ka, .ref kk])), (ks, .inl (cI, 5, .inl kfs)), (kw, .inl (cI, 14, .inl kfw))]) [0, 1, 2] (by decide) rfl
    exact W.iret (v := x7) hx hb hr (fun t ht hW => ⟨⟨x7, (), rfl, ⟨(show i1.toInt ≠ 0 ∨ x7 = woF (kfs 3) (kfw i0.toNatClampNeg) from (wo_of (by omega) (by omega))), (by omega)⟩, by rw [ht]; exact hP9, hD9⟩, hS.F ht⟩) hS.2.2 dX0_windOn_34
set_option maxHeartbeats 4000000 in
set_option maxRecDepth 100000 in
theorem c_X0_water (l : Launch) (dC : Nat → ClassId) (dI : Nat → Nat → Nat) (cI cZ cK : ClassId) (tS : Nat) (aK aV : Nat → Nat) (k : Nat) (i0 : Int32) (i1 : Int32) (ks : Nat) (kw : Nat) (kc : Nat) (kwd : Int32) (kbg : Int32) (kme : Int32) (kq : Nat) (km : Nat) (kd : Nat) (ksi : Int32) (ka : Nat) (kk : Nat) (kfq : Nat → Int32) (sz : Nat) (h_i0 : 0 ≤ i0.toInt ∧ i0.toInt ≤ 5) : Ci l yX0_water (wq yX0_water cX0_water 4 (some .int)) ({ frames := 0, cells := 0, slots := 0, locals := 0 }) dC dI cI cZ cK tS aK aV [.ref k, .int i0, .int i1] sz [(k, .inr (0, [.ref ks, .ref kw, .ref kc, .int kwd, .int kbg, .int kme, .ref kq, .ref km, .ref kd, .int ksi, .ref ka, .ref kk])), (kq, .inl (cI, 6, .inl kfq))] (fun (r : Int32) (u : Unit) => (r = waF (kfq i0.toNatClampNeg) i1)) (fun _ => [(k, .inr (0, [.ref ks, .ref kw, .ref kc, .int kwd, .int kbg, .int kme, .ref kq, .ref km, .ref kd, .int ksi, .ref ka, .ref kk])), (kq, .inl (cI, 6, .inl kfq))]) := by
  refine Met.ofW (cc := cX0_water) (maxL := 4) (ret := (some .int)) (by decide) rfl ?_
  intro p e s m args below meth c s₁ B hml hv
  obtain ⟨rfl, hsz, hP, hKx, hD0⟩ := hv
  have hx := B.exec
  have hb := B.bytes
  have hr := B.returns
  have hts := atoms_spec (ws := wq yX0_water cX0_water 4 (some .int)) B.pre
  have hown : s.vm.findClass RX0 = some m.cls := findClass_of_methodNamed B.named
  have hlocks := B.notSynchronized
  subst hsz
  have hD := hD0.self (sz := s.heap.size)
  generalize hAe : va_A [(k, .inr (0, [.ref ks, .ref kw, .ref kc, .int kwd, .int kbg, .int kme, .ref kq, .ref km, .ref kd, .int ksi, .ref ka, .ref kk])), (kq, .inl (cI, 6, .inl kfq))] s.heap.size = A at hD hKx ⊢
  have hA : ∀ q : Nat, s.heap.size ≤ q → A q := fun q h => by rw [← hAe]; exact Or.inr h
  have hS : va_S A s.heap s.heap [] := va_S.rf
  have hP : va_P (dC, dI) vwCl [(k, .inr (0, [.ref ks, .ref kw, .ref kc, .int kwd, .int kbg, .int kme, .ref kq, .ref km, .ref kd, .int ksi, .ref ka, .ref kk])), (kq, .inl (cI, 6, .inl kfq))] s.heap := hP
  have hl := lv_entry ([.ref k, .int i0, .int i1]) (n := 4) (Nat.le_of_ble_eq_true rfl)
  rw [lg_entry_eq]
  generalize (lg_sl ([.ref k, .int i0, .int i1]) ++ List.replicate (4 - (lg_sl ([.ref k, .int i0, .int i1])).length) Slot.unset).toArray = ls at hl ⊢
  have hl : lv_has ls 4 [(0, .ref k), (1, .int i0), (2, .int i1)] := hl
  have hK := hKx.1
  have hin0 := fun w9 h9 => List.mem_cons_of_mem (Cond.code yX0_water cX0_water 4 (some .int)) (inlX0 w9 h9)
  have hw0 := hts (.fieldLink RX0 26 "OneCan$Camp" "quarts" "[I") (List.mem_cons_of_mem _ wm_53)
  refine lv_bipush (v := 11) hx hb dX0_water_0 (by decide) ?_
  refine lv_aload_n hx hb dX0_water_2 rfl (lv_at hl 0 rfl) ?_
  refine va_get (D := (dC, dI)) (ci := 0) (v := .ref kq) (C := RX0) (T := TX0) (N := 12) hx hb hts hin0 hown hK hP 0 rfl rfl 6 (by decide) hw0 (fun _ h9 => h9) rfl dX0_water_3 ?_
  refine lv_iload_n hx hb dX0_water_6 rfl (lv_at hl 1 rfl) ?_
  refine va_iald hx hb hK hP 1 0 rfl rfl (vin (by omega) (by omega)) dX0_water_7 ?_
  refine lv_topi (fun y1 e1 => ?_)
  obtain rfl : kfq i0.toNatClampNeg = y1 := e1.symm
  refine lv_imul hx hb dX0_water_8 ?_
  refine lv_istore_n (lv' := [(3, .int (11 * (kfq i0.toNatClampNeg))), (0, .ref k), (1, .int i0), (2, .int i1)]) hx hb dX0_water_9 rfl hl (by decide) rfl (fun ls hl => ?_)
  refine lv_iload_n hx hb dX0_water_10 rfl (lv_at hl 3 rfl) ?_
  refine lv_iconst (v := 1) hx hb dX0_water_11 (by decide) ?_
  refine lv_iand hx hb dX0_water_12 ?_
  refine lv_if_eq (tgt := 22) hx hb dX0_water_13 (by decide) (fun c2 => ?_) (fun c2 => ?_)
  · have t2 : (i1 &&& 1).toInt = (0 : Int) := (teq c2)
    refine lv_iload_n hx hb dX0_water_22 rfl (lv_at hl 0 rfl) ?_
    have hP9 := mx_subP (wc := [(k, .inr (0, [.ref ks, .ref kw, .ref kc, .int kwd, .int kbg, .int kme, .ref kq, .ref km, .ref kd, .int ksi, .ref ka, .ref kk])), (kq, .inl (cI, 6, .inl kfq))]) hP [0, 1] rfl
    have hD9 := hD.sub (ws' := [(k, .inr (0, [.ref ks, .ref kw, .ref kc, .int kwd, .int kbg, .int kme, .ref kq, .ref km, .ref kd, .int ksi, .ref ka, .ref kk])), (kq, .inl (cI, 6, .inl kfq))]) [0, 1] (by decide) rfl
    exact W.iret (v := (11 * (kfq i0.toNatClampNeg))) hx hb hr (fun t ht hW => ⟨⟨(11 * (kfq i0.toNatClampNeg)), (), rfl, (show (11 * (kfq i0.toNatClampNeg)) = waF (kfq i0.toNatClampNeg) i1 from (by simp only [waF, if_pos c2])), by rw [ht]; exact hP9, hD9⟩, hS.F ht⟩) hS.2.2 dX0_water_23
  · have t2 : (i1 &&& 1).toInt ≠ (0 : Int) := (tne c2)
    refine lv_iconst (v := 2) hx hb dX0_water_16 (by decide) ?_
    refine lv_iload_n hx hb dX0_water_17 rfl (lv_at hl 0 rfl) ?_
    refine lv_imul hx hb dX0_water_18 ?_
    refine lv_goto (tgt := 23) hx hb dX0_water_19 (by decide) ?_
    have hP9 := mx_subP (wc := [(k, .inr (0, [.ref ks, .ref kw, .ref kc, .int kwd, .int kbg, .int kme, .ref kq, .ref km, .ref kd, .int ksi, .ref ka, .ref kk])), (kq, .inl (cI, 6, .inl kfq))]) hP [0, 1] rfl
    have hD9 := hD.sub (ws' := [(k, .inr (0, [.ref ks, .ref kw, .ref kc, .int kwd, .int kbg, .int kme, .ref kq, .ref km, .ref kd, .int ksi, .ref ka, .ref kk])), (kq, .inl (cI, 6, .inl kfq))]) [0, 1] (by decide) rfl
    exact W.iret (v := (2 * (11 * (kfq i0.toNatClampNeg)))) hx hb hr (fun t ht hW => ⟨⟨(2 * (11 * (kfq i0.toNatClampNeg))), (), rfl, (show (2 * (11 * (kfq i0.toNatClampNeg))) = waF (kfq i0.toNatClampNeg) i1 from (by simp only [waF, if_neg c2])), by rw [ht]; exact hP9, hD9⟩, hS.F ht⟩) hS.2.2 dX0_water_23
