set_option maxHeartbeats 4000000 in
set_option maxRecDepth 100000 in
theorem c_X8_most0 (l : Launch) (dC : Nat → ClassId) (dI : Nat → Nat → Nat) (cI cZ cK : ClassId) (tS aK aV : Nat) (n : Nat) (nwi : Nat) (nco : Nat) (nqu : Nat) (nmi : Nat) (nde : Nat) (nsa : Nat) (nsm : Nat) (npa : Nat) (nac : Nat) (nam : Nat) (naw : Nat) (ncs : Nat) (nbw : Nat) (ndc : Nat) (nmk : Nat) (npo : Nat) (nta : Nat) (npl : Nat) (nmm : Nat) (ncu : Nat) (nke : Nat) (nik : Nat) (i1 : Int32) (i2 : Int32) (sz : Nat) : Ci l yX8_most (wq yX8_most cX8_most 10 (some .int)) ({ frames := 2, cells := 0, slots := 0, locals := 46 }) dC dI cI cZ cK tS aK aV [.ref n, .int 0, .int i1, .int i2] sz [(n, .inr (8, [.int 800, .int 0, .int 0, .int 0, .int 0, .int 0, .int 0, .ref nwi, .ref nco, .int 0, .ref nqu, .ref nmi, .ref nde, .ref nsa, .ref nsm, .int 0, .ref npa, .int 0, .ref nac, .ref nam, .ref naw, .int 0, .int 0, .int 0, .int 0, .int 0, .int 0, .int 0, .int 0, .int 0, .ref ncs, .ref nbw, .ref ndc, .ref nmk, .int 0, .int 0, .int 0, .int 0, .int 0, .int 0, .int 0, .ref npo, .int 0, .ref nta, .ref npl, .int 0, .int 0, .ref nmm, .ref ncu, .ref nke, .ref nik, .int 0, .int 0])), (npo, .inl (cI, 6, .inl (fun _ => 0))), (nta, .inl (cI, 6, .inl (fun _ => 0))), (nwi, .inl (cI, 14, .inl (fun _ => 0)))] (fun (r : Int32) (_ : Unit) => (r = 0 ∧ (0 ≤ i2.toInt ∧ i2.toInt ≤ 1 ∧ 0 ≤ i1.toInt ∧ i1.toInt ≤ 13)) ∨ (r = (-1) ∧ (0 ≤ i2.toInt ∧ i2.toInt ≤ 1 ∧ (i1.toInt < 0 ∨ 13 < i1.toInt))) ∨ (r = (-2) ∧ (i2.toInt < 0 ∨ 1 < i2.toInt))) (fun _ => []) := by
  refine Met.ofW (cc := cX8_most) (maxL := 10) (ret := (some .int)) (by decide) rfl ?_
  intro p e s m args below meth c s₁ B hml hv
  obtain ⟨rfl, hsz, hP, hKx, hD0⟩ := hv
  have hx := B.exec
  have hb := B.bytes
  have hr := B.returns
  have hts := atoms_spec (ws := wq yX8_most cX8_most 10 (some .int)) B.pre
  have hown : s.vm.findClass RX8 = some m.cls := findClass_of_methodNamed B.named
  have hlocks := B.notSynchronized
  subst hsz
  have hD := hD0.self (sz := s.heap.size)
  generalize hAe : va_A [(n, .inr (8, [.int 800, .int 0, .int 0, .int 0, .int 0, .int 0, .int 0, .ref nwi, .ref nco, .int 0, .ref nqu, .ref nmi, .ref nde, .ref nsa, .ref nsm, .int 0, .ref npa, .int 0, .ref nac, .ref nam, .ref naw, .int 0, .int 0, .int 0, .int 0, .int 0, .int 0, .int 0, .int 0, .int 0, .ref ncs, .ref nbw, .ref ndc, .ref nmk, .int 0, .int 0, .int 0, .int 0, .int 0, .int 0, .int 0, .ref npo, .int 0, .ref nta, .ref npl, .int 0, .int 0, .ref nmm, .ref ncu, .ref nke, .ref nik, .int 0, .int 0])), (npo, .inl (cI, 6, .inl (fun _ => 0))), (nta, .inl (cI, 6, .inl (fun _ => 0))), (nwi, .inl (cI, 14, .inl (fun _ => 0)))] s.heap.size = A at hD hKx ⊢
  have hA : ∀ q : Nat, s.heap.size ≤ q → A q := fun q h => by rw [← hAe]; exact Or.inr h
  have hS : va_S A s.heap s.heap [] := va_S.rf
  have hP : va_P (dC, dI) vwCl [(n, .inr (8, [.int 800, .int 0, .int 0, .int 0, .int 0, .int 0, .int 0, .ref nwi, .ref nco, .int 0, .ref nqu, .ref nmi, .ref nde, .ref nsa, .ref nsm, .int 0, .ref npa, .int 0, .ref nac, .ref nam, .ref naw, .int 0, .int 0, .int 0, .int 0, .int 0, .int 0, .int 0, .int 0, .int 0, .ref ncs, .ref nbw, .ref ndc, .ref nmk, .int 0, .int 0, .int 0, .int 0, .int 0, .int 0, .int 0, .ref npo, .int 0, .ref nta, .ref npl, .int 0, .int 0, .ref nmm, .ref ncu, .ref nke, .ref nik, .int 0, .int 0])), (npo, .inl (cI, 6, .inl (fun _ => 0))), (nta, .inl (cI, 6, .inl (fun _ => 0))), (nwi, .inl (cI, 14, .inl (fun _ => 0)))] s.heap := hP
  have hl := lv_entry ([.ref n, .int 0, .int i1, .int i2]) (n := 10) (Nat.le_of_ble_eq_true rfl)
  rw [lg_entry_eq]
  generalize (lg_sl ([.ref n, .int 0, .int i1, .int i2]) ++ List.replicate (10 - (lg_sl ([.ref n, .int 0, .int i1, .int i2])).length) Slot.unset).toArray = ls at hl ⊢
  have hl : lv_has ls 10 [(0, .ref n), (1, .int 0), (2, .int i1), (3, .int i2)] := hl
  have hK := hKx.1
  have hin8 := fun w9 h9 => List.mem_cons_of_mem (Cond.code yX8_most cX8_most 10 (some .int)) (inlX8 w9 h9)
  have hw0 := hts (.fieldLink RX8 249 "OneCanModel" "portionMany" "I") (List.mem_cons_of_mem _ wm_479)
  have hw1 := hts (.fieldLink RX8 55 "OneCanModel" "portion" "[I") (List.mem_cons_of_mem _ wm_480)
  have hw2 := hts (.fieldLink RX8 58 "OneCanModel" "taken" "[I") (List.mem_cons_of_mem _ wm_488)
  have hw3 := hts (.fieldLink RX8 77 "OneCanModel" "left" "I") (List.mem_cons_of_mem _ wm_389)
  refine lv_iload_n hx hb dX8_most_0 rfl (lv_at hl 1 rfl) ?_
  refine mx_i (wr := [(n, .inr (8, [.int 800, .int 0, .int 0, .int 0, .int 0, .int 0, .int 0, .ref nwi, .ref nco, .int 0, .ref nqu, .ref nmi, .ref nde, .ref nsa, .ref nsm, .int 0, .ref npa, .int 0, .ref nac, .ref nam, .ref naw, .int 0, .int 0, .int 0, .int 0, .int 0, .int 0, .int 0, .int 0, .int 0, .ref ncs, .ref nbw, .ref ndc, .ref nmk, .int 0, .int 0, .int 0, .int 0, .int 0, .int 0, .int 0, .ref npo, .int 0, .ref nta, .ref npl, .int 0, .int 0, .ref nmm, .ref ncu, .ref nke, .ref nik, .int 0, .int 0])), (npo, .inl (cI, 6, .inl (fun _ => 0))), (nta, .inl (cI, 6, .inl (fun _ => 0))), (nwi, .inl (cI, 14, .inl (fun _ => 0)))]) (va_runS (As := [.int 0]) (rest := []) ⟨hx, hb, hml, hown, hts⟩ (c_X8_arePortions l dC dI cI cZ cK tS aK aV 0 s.heap.size) (va_cwS 1 hts (gw_s (fun _ h9 => List.mem_cons_of_mem _ h9) wm_481 wm_482 wm_385 wm_483) rfl rfl rfl (by decide +kernel) ⟨Nat.le_of_ble_eq_true rfl, Nat.le_of_ble_eq_true rfl⟩) (mx_preS hKx hP hD hS hA [] (by decide) rfl) rfl rfl hl.1 rfl (lv_room (Nat.le_of_ble_eq_true rfl)) dX8_most_1 ⟨Nat.le_of_ble_eq_true rfl, Nat.le_of_ble_eq_true rfl⟩) hP hD hS hA [] [0, 1, 2, 3] rfl rfl (by decide) (by decide) (fun r1 u1 H locs hq1 hP hD hS => ?_)
  replace hP : va_P (dC, dI) vwCl [(n, .inr (8, [.int 800, .int 0, .int 0, .int 0, .int 0, .int 0, .int 0, .ref nwi, .ref nco, .int 0, .ref nqu, .ref nmi, .ref nde, .ref nsa, .ref nsm, .int 0, .ref npa, .int 0, .ref nac, .ref nam, .ref naw, .int 0, .int 0, .int 0, .int 0, .int 0, .int 0, .int 0, .int 0, .int 0, .ref ncs, .ref nbw, .ref ndc, .ref nmk, .int 0, .int 0, .int 0, .int 0, .int 0, .int 0, .int 0, .ref npo, .int 0, .ref nta, .ref npl, .int 0, .int 0, .ref nmm, .ref ncu, .ref nke, .ref nik, .int 0, .int 0])), (npo, .inl (cI, 6, .inl (fun _ => 0))), (nta, .inl (cI, 6, .inl (fun _ => 0))), (nwi, .inl (cI, 14, .inl (fun _ => 0)))] H := hP
  replace hD : va_D A [(n, .inr (8, [.int 800, .int 0, .int 0, .int 0, .int 0, .int 0, .int 0, .ref nwi, .ref nco, .int 0, .ref nqu, .ref nmi, .ref nde, .ref nsa, .ref nsm, .int 0, .ref npa, .int 0, .ref nac, .ref nam, .ref naw, .int 0, .int 0, .int 0, .int 0, .int 0, .int 0, .int 0, .int 0, .int 0, .ref ncs, .ref nbw, .ref ndc, .ref nmk, .int 0, .int 0, .int 0, .int 0, .int 0, .int 0, .int 0, .ref npo, .int 0, .ref nta, .ref npl, .int 0, .int 0, .ref nmm, .ref ncu, .ref nke, .ref nik, .int 0, .int 0])), (npo, .inl (cI, 6, .inl (fun _ => 0))), (nta, .inl (cI, 6, .inl (fun _ => 0))), (nwi, .inl (cI, 14, .inl (fun _ => 0)))] := hD
  rcases hq1 with ⟨rfl, hf1⟩ | ⟨rfl, hf1⟩
  · have hf1 : 0 ≤ (0 : Int) ∧ (0 : Int) ≤ 999999 := hf1
    refine lv_if_eq (tgt := 17) hx hb dX8_most_4 (by decide) (fun c2 => absurd c2 (by decide)) (fun c2 => ?_)
    refine lv_iload_n hx hb dX8_most_7 rfl (lv_at hl 3 rfl) ?_
    refine lv_i2l (v := i2.toInt64) hx hb dX8_most_8 rfl ?_
    refine lv_lconst (v := 0) hx hb dX8_most_9 (by decide) ?_
    refine lv_lconst (v := 1) hx hb dX8_most_10 (by decide) ?_
    refine mx_i (wr := [(n, .inr (8, [.int 800, .int 0, .int 0, .int 0, .int 0, .int 0, .int 0, .ref nwi, .ref nco, .int 0, .ref nqu, .ref nmi, .ref nde, .ref nsa, .ref nsm, .int 0, .ref npa, .int 0, .ref nac, .ref nam, .ref naw, .int 0, .int 0, .int 0, .int 0, .int 0, .int 0, .int 0, .int 0, .int 0, .ref ncs, .ref nbw, .ref ndc, .ref nmk, .int 0, .int 0, .int 0, .int 0, .int 0, .int 0, .int 0, .ref npo, .int 0, .ref nta, .ref npl, .int 0, .int 0, .ref nmm, .ref ncu, .ref nke, .ref nik, .int 0, .int 0])), (npo, .inl (cI, 6, .inl (fun _ => 0))), (nta, .inl (cI, 6, .inl (fun _ => 0))), (nwi, .inl (cI, 14, .inl (fun _ => 0)))]) (va_runS (As := [.long (i2.toInt64), .long 0, .long 1]) (rest := []) ⟨hx, hb, hml, hown, hts⟩ (c_X8_in l dC dI cI cZ cK tS aK aV (i2.toInt64) 0 1 H.size) (va_cwS 3 hts (gw_s (fun _ h9 => List.mem_cons_of_mem _ h9) wm_383 wm_384 wm_385 wm_386) rfl rfl rfl (by decide +kernel) ⟨Nat.le_of_ble_eq_true rfl, Nat.le_of_ble_eq_true rfl⟩) (mx_preS hKx hP hD hS hA [] (by decide) rfl) rfl rfl hl.1 rfl (lv_room (Nat.le_of_ble_eq_true rfl)) dX8_most_11 ⟨Nat.le_of_ble_eq_true rfl, Nat.le_of_ble_eq_true rfl⟩) hP hD hS hA [] [0, 1, 2, 3] rfl rfl (by decide) (by decide) (fun r3 u3 H locs hq3 hP hD hS => ?_)
    replace hP : va_P (dC, dI) vwCl [(n, .inr (8, [.int 800, .int 0, .int 0, .int 0, .int 0, .int 0, .int 0, .ref nwi, .ref nco, .int 0, .ref nqu, .ref nmi, .ref nde, .ref nsa, .ref nsm, .int 0, .ref npa, .int 0, .ref nac, .ref nam, .ref naw, .int 0, .int 0, .int 0, .int 0, .int 0, .int 0, .int 0, .int 0, .int 0, .ref ncs, .ref nbw, .ref ndc, .ref nmk, .int 0, .int 0, .int 0, .int 0, .int 0, .int 0, .int 0, .ref npo, .int 0, .ref nta, .ref npl, .int 0, .int 0, .ref nmm, .ref ncu, .ref nke, .ref nik, .int 0, .int 0])), (npo, .inl (cI, 6, .inl (fun _ => 0))), (nta, .inl (cI, 6, .inl (fun _ => 0))), (nwi, .inl (cI, 14, .inl (fun _ => 0)))] H := hP
    replace hD : va_D A [(n, .inr (8, [.int 800, .int 0, .int 0, .int 0, .int 0, .int 0, .int 0, .ref nwi, .ref nco, .int 0, .ref nqu, .ref nmi, .ref nde, .ref nsa, .ref nsm, .int 0, .ref npa, .int 0, .ref nac, .ref nam, .ref naw, .int 0, .int 0, .int 0, .int 0, .int 0, .int 0, .int 0, .int 0, .int 0, .ref ncs, .ref nbw, .ref ndc, .ref nmk, .int 0, .int 0, .int 0, .int 0, .int 0, .int 0, .int 0, .ref npo, .int 0, .ref nta, .ref npl, .int 0, .int 0, .ref nmm, .ref ncu, .ref nke, .ref nik, .int 0, .int 0])), (npo, .inl (cI, 6, .inl (fun _ => 0))), (nta, .inl (cI, 6, .inl (fun _ => 0))), (nwi, .inl (cI, 14, .inl (fun _ => 0)))] := hD
    rcases hq3 with ⟨rfl, hf3⟩ | ⟨rfl, hf3⟩
    · have hf3 : (0 : Int) ≤ i2.toInt ∧ i2.toInt ≤ (1 : Int) := (by have h9 := hf3; simp only [Int32.toInt_toInt64] at h9; exact h9)
      refine lv_if_ne (tgt := 20) hx hb dX8_most_14 (by decide) (fun c4 => ?_) (fun c4 => absurd c4 (by decide))
      refine lv_aload_n hx hb dX8_most_20 rfl (lv_at hl 0 rfl) ?_
      refine lv_iload_n hx hb dX8_most_21 rfl (lv_at hl 2 rfl) ?_
      refine mx_i (wr := [(npo, .inl (cI, 6, .inl (fun _ => 0))), (nta, .inl (cI, 6, .inl (fun _ => 0))), (nwi, .inl (cI, 14, .inl (fun _ => 0)))]) (va_runV (As := [.int i1]) (rest := []) ⟨hx, hb, hml, hown, hts⟩ (c_X8_isDayOn l dC dI cI cZ cK tS aK aV n nwi nco nqu nmi nde nsa nsm npa nac nam naw ncs nbw ndc nmk npo nta npl nmm ncu nke nik 800 0 0 0 0 0 0 0 0 0 0 0 0 0 0 0 0 0 0 0 0 0 0 0 0 0 0 0 0 0 i1 H.size) (cwV 1 hts (gw_v (fun _ h9 => List.mem_cons_of_mem _ h9) wm_489 wm_490 wm_491 wm_385 wm_492) rfl rfl rfl (by decide +kernel) ⟨Nat.le_of_ble_eq_true rfl, Nat.le_of_ble_eq_true rfl⟩) (mx_preV (C := RX8) (T := TX8) (N := 53) (ci := 8) hKx hP hD hS hA [0] (by decide) rfl rfl rfl) rfl rfl hl.1 rfl (lv_room (Nat.le_of_ble_eq_true rfl)) dX8_most_22 ⟨Nat.le_of_ble_eq_true rfl, Nat.le_of_ble_eq_true rfl⟩) hP hD hS hA [0] [1, 2, 3] rfl rfl (by decide) (by decide) (fun r5 u5 H locs hq5 hP hD hS => ?_)
      replace hP : va_P (dC, dI) vwCl [(npo, .inl (cI, 6, .inl (fun _ => 0))), (nta, .inl (cI, 6, .inl (fun _ => 0))), (nwi, .inl (cI, 14, .inl (fun _ => 0))), (n, .inr (8, [.int 800, .int 0, .int 0, .int 0, .int 0, .int 0, .int 0, .ref nwi, .ref nco, .int 0, .ref nqu, .ref nmi, .ref nde, .ref nsa, .ref nsm, .int 0, .ref npa, .int 0, .ref nac, .ref nam, .ref naw, .int 0, .int 0, .int 0, .int 0, .int 0, .int 0, .int 0, .int 0, .int 0, .ref ncs, .ref nbw, .ref ndc, .ref nmk, .int 0, .int 0, .int 0, .int 0, .int 0, .int 0, .int 0, .ref npo, .int 0, .ref nta, .ref npl, .int 0, .int 0, .ref nmm, .ref ncu, .ref nke, .ref nik, .int 0, .int 0]))] H := hP
      replace hD : va_D A [(npo, .inl (cI, 6, .inl (fun _ => 0))), (nta, .inl (cI, 6, .inl (fun _ => 0))), (nwi, .inl (cI, 14, .inl (fun _ => 0))), (n, .inr (8, [.int 800, .int 0, .int 0, .int 0, .int 0, .int 0, .int 0, .ref nwi, .ref nco, .int 0, .ref nqu, .ref nmi, .ref nde, .ref nsa, .ref nsm, .int 0, .ref npa, .int 0, .ref nac, .ref nam, .ref naw, .int 0, .int 0, .int 0, .int 0, .int 0, .int 0, .int 0, .int 0, .int 0, .ref ncs, .ref nbw, .ref ndc, .ref nmk, .int 0, .int 0, .int 0, .int 0, .int 0, .int 0, .int 0, .ref npo, .int 0, .ref nta, .ref npl, .int 0, .int 0, .ref nmm, .ref ncu, .ref nke, .ref nik, .int 0, .int 0]))] := hD
      rcases hq5 with ⟨rfl, hf5⟩ | ⟨rfl, hf5⟩
      · have hf5 : 0 ≤ i1.toInt ∧ i1.toInt ≤ 13 := hf5
        refine lv_if_eq (tgt := 36) hx hb dX8_most_25 (by decide) (fun c6 => absurd c6 (by decide)) (fun c6 => ?_)
        refine lv_aload_n hx hb dX8_most_28 rfl (lv_at hl 0 rfl) ?_
        refine lv_iload_n hx hb dX8_most_29 rfl (lv_at hl 1 rfl) ?_
        refine mx_i (wr := [(nta, .inl (cI, 6, .inl (fun _ => 0))), (nwi, .inl (cI, 14, .inl (fun _ => 0)))]) (va_runV (As := [.int 0]) (rest := []) ⟨hx, hb, hml, hown, hts⟩ (c_X8_layPortions0 l dC dI cI cZ cK tS aK aV n nwi nco nqu nmi nde nsa nsm npa nac nam naw ncs nbw ndc nmk npo nta npl nmm ncu nke nik H.size) (cwV 1 hts (gw_v (fun _ h9 => List.mem_cons_of_mem _ h9) wm_484 wm_485 wm_486 wm_385 wm_487) rfl rfl rfl (by decide +kernel) ⟨Nat.le_of_ble_eq_true rfl, Nat.le_of_ble_eq_true rfl⟩) (mx_preV (C := RX8) (T := TX8) (N := 53) (ci := 8) hKx hP hD hS hA [3, 0] (by decide) rfl rfl rfl) rfl rfl hl.1 rfl (lv_room (Nat.le_of_ble_eq_true rfl)) dX8_most_30 ⟨Nat.le_of_ble_eq_true rfl, Nat.le_of_ble_eq_true rfl⟩) hP hD hS hA [3, 0] [1, 2] rfl rfl (by decide) (by decide) (fun r7 u7 H locs hq7 hP hD hS => ?_)
        replace hP : va_P (dC, dI) vwCl [(nta, .inl (cI, 6, .inl (fun _ => 0))), (nwi, .inl (cI, 14, .inl (fun _ => 0))), (n, .inr (8, [.int 800, .int 0, .int 0, .int 0, .int 0, .int 0, .int 0, .ref nwi, .ref nco, .int 0, .ref nqu, .ref nmi, .ref nde, .ref nsa, .ref nsm, .int 0, .ref npa, .int 0, .ref nac, .ref nam, .ref naw, .int 0, .int 0, .int 0, .int 0, .int 0, .int 0, .int 0, .int 0, .int 0, .ref ncs, .ref nbw, .ref ndc, .ref nmk, .int 0, .int 0, .int 0, .int 0, .int 0, .int 0, .int 0, .ref npo, .int 0, .ref nta, .ref npl, .int 0, .int 0, .ref nmm, .ref ncu, .ref nke, .ref nik, .int 0, .int 0])), (npo, .inl (cI, 6, .inl (upd (upd (upd (upd (upd (upd (fun _ => 0) 5 0) 4 0) 3 0) 2 0) 1 0) 0 0)))] H := hP
        replace hD : va_D A [(nta, .inl (cI, 6, .inl (fun _ => 0))), (nwi, .inl (cI, 14, .inl (fun _ => 0))), (n, .inr (8, [.int 800, .int 0, .int 0, .int 0, .int 0, .int 0, .int 0, .ref nwi, .ref nco, .int 0, .ref nqu, .ref nmi, .ref nde, .ref nsa, .ref nsm, .int 0, .ref npa, .int 0, .ref nac, .ref nam, .ref naw, .int 0, .int 0, .int 0, .int 0, .int 0, .int 0, .int 0, .int 0, .int 0, .ref ncs, .ref nbw, .ref ndc, .ref nmk, .int 0, .int 0, .int 0, .int 0, .int 0, .int 0, .int 0, .ref npo, .int 0, .ref nta, .ref npl, .int 0, .int 0, .ref nmm, .ref ncu, .ref nke, .ref nik, .int 0, .int 0])), (npo, .inl (cI, 6, .inl (upd (upd (upd (upd (upd (upd (fun _ => 0) 5 0) 4 0) 3 0) 2 0) 1 0) 0 0)))] := hD
        obtain rfl : r7 = 1 := hq7
        refine lv_if_ne (tgt := 38) hx hb dX8_most_33 (by decide) (fun c8 => ?_) (fun c8 => absurd c8 (by decide))
        refine lv_aload_n hx hb dX8_most_38 rfl (lv_at hl 0 rfl) ?_
        refine va_get (D := (dC, dI)) (ci := 8) (v := .int 0) (C := RX8) (T := TX8) (N := 53) hx hb hts hin8 hown hK hP 2 rfl rfl 42 (by decide) hw0 (fun _ h9 => h9) rfl dX8_most_39 ?_
        refine lv_bipush (v := 12) hx hb dX8_most_42 (by decide) ?_
        refine lv_icmp_le (tgt := 50) hx hb dX8_most_44 (by decide) (fun c9 => ?_) (fun c9 => absurd c9 (by decide))
        refine lv_aload_n hx hb dX8_most_50 rfl (lv_at hl 0 rfl) ?_
        refine lv_iload_n hx hb dX8_most_51 rfl (lv_at hl 2 rfl) ?_
        refine mx_i (wr := [(nta, .inl (cI, 6, .inl (fun _ => 0))), (npo, .inl (cI, 6, .inl (upd (upd (upd (upd (upd (upd (fun _ => 0) 5 0) 4 0) 3 0) 2 0) 1 0) 0 0)))]) (va_runV (As := [.int i1]) (rest := []) ⟨hx, hb, hml, hown, hts⟩ (c_X8_leastWind l dC dI cI cZ cK tS aK aV n nwi nco nqu nmi nde nsa nsm npa nac nam naw ncs nbw ndc nmk npo nta npl nmm ncu nke nik 800 0 0 0 0 0 0 0 0 0 0 0 0 0 0 0 0 0 0 0 0 0 0 0 0 0 0 0 0 0 i1 H.size (by have z8 : (0 : Int32).toInt = 0 := rfl; have z8 : (800 : Int32).toInt = 800 := rfl; first | omega | decide | assumption | trivial)) (cwV 1 hts (gw_v (fun _ h9 => List.mem_cons_of_mem _ h9) wm_493 wm_494 wm_495 wm_385 wm_496) rfl rfl rfl (by decide +kernel) ⟨Nat.le_of_ble_eq_true rfl, Nat.le_of_ble_eq_true rfl⟩) (mx_preV (C := RX8) (T := TX8) (N := 53) (ci := 8) hKx hP hD hS hA [2, 1] (by decide) rfl rfl rfl) rfl rfl hl.1 rfl (lv_room (Nat.le_of_ble_eq_true rfl)) dX8_most_52 ⟨Nat.le_of_ble_eq_true rfl, Nat.le_of_ble_eq_true rfl⟩) hP hD hS hA [2, 1] [0, 3] rfl rfl (by decide) (by decide) (fun r10 u10 H locs hq10 hP hD hS => ?_)
        replace hP : va_P (dC, dI) vwCl [(nta, .inl (cI, 6, .inl (fun _ => 0))), (npo, .inl (cI, 6, .inl (upd (upd (upd (upd (upd (upd (fun _ => 0) 5 0) 4 0) 3 0) 2 0) 1 0) 0 0))), (n, .inr (8, [.int 800, .int 0, .int 0, .int 0, .int 0, .int 0, .int 0, .ref nwi, .ref nco, .int 0, .ref nqu, .ref nmi, .ref nde, .ref nsa, .ref nsm, .int 0, .ref npa, .int 0, .ref nac, .ref nam, .ref naw, .int 0, .int 0, .int 0, .int 0, .int 0, .int 0, .int 0, .int 0, .int 0, .ref ncs, .ref nbw, .ref ndc, .ref nmk, .int 0, .int 0, .int 0, .int 0, .int 0, .int 0, .int 0, .ref npo, .int 0, .ref nta, .ref npl, .int 0, .int 0, .ref nmm, .ref ncu, .ref nke, .ref nik, .int 0, .int 0])), (nwi, .inl (cI, 14, .inl (fun _ => 0)))] H := hP
        replace hD : va_D A [(nta, .inl (cI, 6, .inl (fun _ => 0))), (npo, .inl (cI, 6, .inl (upd (upd (upd (upd (upd (upd (fun _ => 0) 5 0) 4 0) 3 0) 2 0) 1 0) 0 0))), (n, .inr (8, [.int 800, .int 0, .int 0, .int 0, .int 0, .int 0, .int 0, .ref nwi, .ref nco, .int 0, .ref nqu, .ref nmi, .ref nde, .ref nsa, .ref nsm, .int 0, .ref npa, .int 0, .ref nac, .ref nam, .ref naw, .int 0, .int 0, .int 0, .int 0, .int 0, .int 0, .int 0, .int 0, .int 0, .ref ncs, .ref nbw, .ref ndc, .ref nmk, .int 0, .int 0, .int 0, .int 0, .int 0, .int 0, .int 0, .ref npo, .int 0, .ref nta, .ref npl, .int 0, .int 0, .ref nmm, .ref ncu, .ref nke, .ref nik, .int 0, .int 0])), (nwi, .inl (cI, 14, .inl (fun _ => 0)))] := hD
        obtain rfl : r10 = 0 := hq10
        refine lv_istore (lv' := [(4, .int 0), (0, .ref n), (1, .int 0), (2, .int i1), (3, .int i2)]) hx hb dX8_most_55 hl (by decide) rfl (fun ls hl => ?_)
        refine lv_iconst (v := 0) hx hb dX8_most_57 (by decide) ?_
        refine lv_istore (lv' := [(5, .int 0), (4, .int 0), (0, .ref n), (1, .int 0), (2, .int i1), (3, .int i2)]) hx hb dX8_most_58 hl (by decide) rfl (fun ls hl => ?_)
        refine lv_iload hx hb dX8_most_60 (lv_at hl 0 rfl) ?_
        refine lv_bipush (v := 6) hx hb dX8_most_62 (by decide) ?_
        refine lv_icmp_ge (tgt := 118) hx hb dX8_most_64 (by decide) (fun c11 => absurd c11 (by decide)) (fun c11 => ?_)
        refine lv_aload_n hx hb dX8_most_67 rfl (lv_at hl 2 rfl) ?_
        refine va_get (D := (dC, dI)) (ci := 8) (v := .ref npo) (C := RX8) (T := TX8) (N := 53) hx hb hts hin8 hown hK hP 2 rfl rfl 41 (by decide) hw1 (fun _ h9 => h9) rfl dX8_most_68 ?_
        refine lv_iload hx hb dX8_most_71 (lv_at hl 0 rfl) ?_
        refine lv_aload_n hx hb dX8_most_73 rfl (lv_at hl 2 rfl) ?_
        refine va_get (D := (dC, dI)) (ci := 8) (v := .ref npo) (C := RX8) (T := TX8) (N := 53) hx hb hts hin8 hown hK hP 2 rfl rfl 41 (by decide) hw1 (fun _ h9 => h9) rfl dX8_most_74 ?_
        refine lv_iload hx hb dX8_most_77 (lv_at hl 0 rfl) ?_
        refine va_iald hx hb hK hP 1 0 rfl rfl (vin (by decide) (by decide)) dX8_most_79 ?_
        refine lv_topi (fun x12 e12 => ?_)
        obtain rfl : x12 = 0 := e12.trans (by first | rfl | decide)
        refine lv_if_le (tgt := 102) hx hb dX8_most_80 (by decide) (fun c13 => ?_) (fun c13 => absurd c13 (by decide))
        refine lv_iconst (v := 0) hx hb dX8_most_102 (by decide) ?_
        refine va_iast hx hb hK hP hD hS 1 0 rfl rfl (vin (by decide) (by decide)) dX8_most_103 (fun H locs hP hD hS => ?_)
        replace hP : va_P (dC, dI) vwCl [(nta, .inl (cI, 6, .inl (fun _ => 0))), (npo, .inl (cI, 6, .inl (upd (upd (upd (upd (upd (upd (upd (fun _ => 0) 5 0) 4 0) 3 0) 2 0) 1 0) 0 0) 0 0))), (n, .inr (8, [.int 800, .int 0, .int 0, .int 0, .int 0, .int 0, .int 0, .ref nwi, .ref nco, .int 0, .ref nqu, .ref nmi, .ref nde, .ref nsa, .ref nsm, .int 0, .ref npa, .int 0, .ref nac, .ref nam, .ref naw, .int 0, .int 0, .int 0, .int 0, .int 0, .int 0, .int 0, .int 0, .int 0, .ref ncs, .ref nbw, .ref ndc, .ref nmk, .int 0, .int 0, .int 0, .int 0, .int 0, .int 0, .int 0, .ref npo, .int 0, .ref nta, .ref npl, .int 0, .int 0, .ref nmm, .ref ncu, .ref nke, .ref nik, .int 0, .int 0])), (nwi, .inl (cI, 14, .inl (fun _ => 0)))] H := hP
        replace hD : va_D A [(nta, .inl (cI, 6, .inl (fun _ => 0))), (npo, .inl (cI, 6, .inl (upd (upd (upd (upd (upd (upd (upd (fun _ => 0) 5 0) 4 0) 3 0) 2 0) 1 0) 0 0) 0 0))), (n, .inr (8, [.int 800, .int 0, .int 0, .int 0, .int 0, .int 0, .int 0, .ref nwi, .ref nco, .int 0, .ref nqu, .ref nmi, .ref nde, .ref nsa, .ref nsm, .int 0, .ref npa, .int 0, .ref nac, .ref nam, .ref naw, .int 0, .int 0, .int 0, .int 0, .int 0, .int 0, .int 0, .int 0, .int 0, .ref ncs, .ref nbw, .ref ndc, .ref nmk, .int 0, .int 0, .int 0, .int 0, .int 0, .int 0, .int 0, .ref npo, .int 0, .ref nta, .ref npl, .int 0, .int 0, .ref nmm, .ref ncu, .ref nke, .ref nik, .int 0, .int 0])), (nwi, .inl (cI, 14, .inl (fun _ => 0)))] := hD
        refine lv_aload_n hx hb dX8_most_104 rfl (lv_at hl 2 rfl) ?_
        refine va_get (D := (dC, dI)) (ci := 8) (v := .ref nta) (C := RX8) (T := TX8) (N := 53) hx hb hts hin8 hown hK hP 2 rfl rfl 43 (by decide) hw2 (fun _ h9 => h9) rfl dX8_most_105 ?_
        refine lv_iload hx hb dX8_most_108 (lv_at hl 0 rfl) ?_
        refine lv_iconst (v := 0) hx hb dX8_most_110 (by decide) ?_
        refine va_iast hx hb hK hP hD hS 0 0 rfl rfl (vin (by decide) (by decide)) dX8_most_111 (fun H locs hP hD hS => ?_)
        replace hP : va_P (dC, dI) vwCl [(nta, .inl (cI, 6, .inl (upd (fun _ => 0) 0 0))), (npo, .inl (cI, 6, .inl (upd (upd (upd (upd (upd (upd (upd (fun _ => 0) 5 0) 4 0) 3 0) 2 0) 1 0) 0 0) 0 0))), (n, .inr (8, [.int 800, .int 0, .int 0, .int 0, .int 0, .int 0, .int 0, .ref nwi, .ref nco, .int 0, .ref nqu, .ref nmi, .ref nde, .ref nsa, .ref nsm, .int 0, .ref npa, .int 0, .ref nac, .ref nam, .ref naw, .int 0, .int 0, .int 0, .int 0, .int 0, .int 0, .int 0, .int 0, .int 0, .ref ncs, .ref nbw, .ref ndc, .ref nmk, .int 0, .int 0, .int 0, .int 0, .int 0, .int 0, .int 0, .ref npo, .int 0, .ref nta, .ref npl, .int 0, .int 0, .ref nmm, .ref ncu, .ref nke, .ref nik, .int 0, .int 0])), (nwi, .inl (cI, 14, .inl (fun _ => 0)))] H := hP
        replace hD : va_D A [(nta, .inl (cI, 6, .inl (upd (fun _ => 0) 0 0))), (npo, .inl (cI, 6, .inl (upd (upd (upd (upd (upd (upd (upd (fun _ => 0) 5 0) 4 0) 3 0) 2 0) 1 0) 0 0) 0 0))), (n, .inr (8, [.int 800, .int 0, .int 0, .int 0, .int 0, .int 0, .int 0, .ref nwi, .ref nco, .int 0, .ref nqu, .ref nmi, .ref nde, .ref nsa, .ref nsm, .int 0, .ref npa, .int 0, .ref nac, .ref nam, .ref naw, .int 0, .int 0, .int 0, .int 0, .int 0, .int 0, .int 0, .int 0, .int 0, .ref ncs, .ref nbw, .ref ndc, .ref nmk, .int 0, .int 0, .int 0, .int 0, .int 0, .int 0, .int 0, .ref npo, .int 0, .ref nta, .ref npl, .int 0, .int 0, .ref nmm, .ref ncu, .ref nke, .ref nik, .int 0, .int 0])), (nwi, .inl (cI, 14, .inl (fun _ => 0)))] := hD
        refine lv_iinc (v := 1) (lv' := [(5, .int 1), (4, .int 0), (0, .ref n), (1, .int 0), (2, .int i1), (3, .int i2)]) hx hb dX8_most_112 hl (k := 0) rfl (by decide) (by decide) rfl (fun ls hl => ?_)
        refine lv_goto (tgt := 60) hx hb dX8_most_115 (by decide) ?_
        refine lv_iload hx hb dX8_most_60 (lv_at hl 0 rfl) ?_
        refine lv_bipush (v := 6) hx hb dX8_most_62 (by decide) ?_
        refine lv_icmp_ge (tgt := 118) hx hb dX8_most_64 (by decide) (fun c14 => absurd c14 (by decide)) (fun c14 => ?_)
        refine lv_aload_n hx hb dX8_most_67 rfl (lv_at hl 2 rfl) ?_
        refine va_get (D := (dC, dI)) (ci := 8) (v := .ref npo) (C := RX8) (T := TX8) (N := 53) hx hb hts hin8 hown hK hP 2 rfl rfl 41 (by decide) hw1 (fun _ h9 => h9) rfl dX8_most_68 ?_
        refine lv_iload hx hb dX8_most_71 (lv_at hl 0 rfl) ?_
        refine lv_aload_n hx hb dX8_most_73 rfl (lv_at hl 2 rfl) ?_
        refine va_get (D := (dC, dI)) (ci := 8) (v := .ref npo) (C := RX8) (T := TX8) (N := 53) hx hb hts hin8 hown hK hP 2 rfl rfl 41 (by decide) hw1 (fun _ h9 => h9) rfl dX8_most_74 ?_
        refine lv_iload hx hb dX8_most_77 (lv_at hl 0 rfl) ?_
        refine va_iald hx hb hK hP 1 0 rfl rfl (vin (by decide) (by decide)) dX8_most_79 ?_
        refine lv_topi (fun x15 e15 => ?_)
        obtain rfl : x15 = 0 := e15.trans (by first | rfl | decide)
        refine lv_if_le (tgt := 102) hx hb dX8_most_80 (by decide) (fun c16 => ?_) (fun c16 => absurd c16 (by decide))
        refine lv_iconst (v := 0) hx hb dX8_most_102 (by decide) ?_
        refine va_iast hx hb hK hP hD hS 1 0 rfl rfl (vin (by decide) (by decide)) dX8_most_103 (fun H locs hP hD hS => ?_)
        replace hP : va_P (dC, dI) vwCl [(nta, .inl (cI, 6, .inl (upd (fun _ => 0) 0 0))), (npo, .inl (cI, 6, .inl (upd (upd (upd (upd (upd (upd (upd (upd (fun _ => 0) 5 0) 4 0) 3 0) 2 0) 1 0) 0 0) 0 0) 1 0))), (n, .inr (8, [.int 800, .int 0, .int 0, .int 0, .int 0, .int 0, .int 0, .ref nwi, .ref nco, .int 0, .ref nqu, .ref nmi, .ref nde, .ref nsa, .ref nsm, .int 0, .ref npa, .int 0, .ref nac, .ref nam, .ref naw, .int 0, .int 0, .int 0, .int 0, .int 0, .int 0, .int 0, .int 0, .int 0, .ref ncs, .ref nbw, .ref ndc, .ref nmk, .int 0, .int 0, .int 0, .int 0, .int 0, .int 0, .int 0, .ref npo, .int 0, .ref nta, .ref npl, .int 0, .int 0, .ref nmm, .ref ncu, .ref nke, .ref nik, .int 0, .int 0])), (nwi, .inl (cI, 14, .inl (fun _ => 0)))] H := hP
        replace hD : va_D A [(nta, .inl (cI, 6, .inl (upd (fun _ => 0) 0 0))), (npo, .inl (cI, 6, .inl (upd (upd (upd (upd (upd (upd (upd (upd (fun _ => 0) 5 0) 4 0) 3 0) 2 0) 1 0) 0 0) 0 0) 1 0))), (n, .inr (8, [.int 800, .int 0, .int 0, .int 0, .int 0, .int 0, .int 0, .ref nwi, .ref nco, .int 0, .ref nqu, .ref nmi, .ref nde, .ref nsa, .ref nsm, .int 0, .ref npa, .int 0, .ref nac, .ref nam, .ref naw, .int 0, .int 0, .int 0, .int 0, .int 0, .int 0, .int 0, .int 0, .int 0, .ref ncs, .ref nbw, .ref ndc, .ref nmk, .int 0, .int 0, .int 0, .int 0, .int 0, .int 0, .int 0, .ref npo, .int 0, .ref nta, .ref npl, .int 0, .int 0, .ref nmm, .ref ncu, .ref nke, .ref nik, .int 0, .int 0])), (nwi, .inl (cI, 14, .inl (fun _ => 0)))] := hD
        refine lv_aload_n hx hb dX8_most_104 rfl (lv_at hl 2 rfl) ?_
        refine va_get (D := (dC, dI)) (ci := 8) (v := .ref nta) (C := RX8) (T := TX8) (N := 53) hx hb hts hin8 hown hK hP 2 rfl rfl 43 (by decide) hw2 (fun _ h9 => h9) rfl dX8_most_105 ?_
        refine lv_iload hx hb dX8_most_108 (lv_at hl 0 rfl) ?_
        refine lv_iconst (v := 0) hx hb dX8_most_110 (by decide) ?_
        refine va_iast hx hb hK hP hD hS 0 0 rfl rfl (vin (by decide) (by decide)) dX8_most_111 (fun H locs hP hD hS => ?_)
        replace hP : va_P (dC, dI) vwCl [(nta, .inl (cI, 6, .inl (upd (upd (fun _ => 0) 0 0) 1 0))), (npo, .inl (cI, 6, .inl (upd (upd (upd (upd (upd (upd (upd (upd (fun _ => 0) 5 0) 4 0) 3 0) 2 0) 1 0) 0 0) 0 0) 1 0))), (n, .inr (8, [.int 800, .int 0, .int 0, .int 0, .int 0, .int 0, .int 0, .ref nwi, .ref nco, .int 0, .ref nqu, .ref nmi, .ref nde, .ref nsa, .ref nsm, .int 0, .ref npa, .int 0, .ref nac, .ref nam, .ref naw, .int 0, .int 0, .int 0, .int 0, .int 0, .int 0, .int 0, .int 0, .int 0, .ref ncs, .ref nbw, .ref ndc, .ref nmk, .int 0, .int 0, .int 0, .int 0, .int 0, .int 0, .int 0, .ref npo, .int 0, .ref nta, .ref npl, .int 0, .int 0, .ref nmm, .ref ncu, .ref nke, .ref nik, .int 0, .int 0])), (nwi, .inl (cI, 14, .inl (fun _ => 0)))] H := hP
        replace hD : va_D A [(nta, .inl (cI, 6, .inl (upd (upd (fun _ => 0) 0 0) 1 0))), (npo, .inl (cI, 6, .inl (upd (upd (upd (upd (upd (upd (upd (upd (fun _ => 0) 5 0) 4 0) 3 0) 2 0) 1 0) 0 0) 0 0) 1 0))), (n, .inr (8, [.int 800, .int 0, .int 0, .int 0, .int 0, .int 0, .int 0, .ref nwi, .ref nco, .int 0, .ref nqu, .ref nmi, .ref nde, .ref nsa, .ref nsm, .int 0, .ref npa, .int 0, .ref nac, .ref nam, .ref naw, .int 0, .int 0, .int 0, .int 0, .int 0, .int 0, .int 0, .int 0, .int 0, .ref ncs, .ref nbw, .ref ndc, .ref nmk, .int 0, .int 0, .int 0, .int 0, .int 0, .int 0, .int 0, .ref npo, .int 0, .ref nta, .ref npl, .int 0, .int 0, .ref nmm, .ref ncu, .ref nke, .ref nik, .int 0, .int 0])), (nwi, .inl (cI, 14, .inl (fun _ => 0)))] := hD
        refine lv_iinc (v := 2) (lv' := [(5, .int 2), (4, .int 0), (0, .ref n), (1, .int 0), (2, .int i1), (3, .int i2)]) hx hb dX8_most_112 hl (k := 0) rfl (by decide) (by decide) rfl (fun ls hl => ?_)
        refine lv_goto (tgt := 60) hx hb dX8_most_115 (by decide) ?_
        refine lv_iload hx hb dX8_most_60 (lv_at hl 0 rfl) ?_
        refine lv_bipush (v := 6) hx hb dX8_most_62 (by decide) ?_
        refine lv_icmp_ge (tgt := 118) hx hb dX8_most_64 (by decide) (fun c17 => absurd c17 (by decide)) (fun c17 => ?_)
        refine lv_aload_n hx hb dX8_most_67 rfl (lv_at hl 2 rfl) ?_
        refine va_get (D := (dC, dI)) (ci := 8) (v := .ref npo) (C := RX8) (T := TX8) (N := 53) hx hb hts hin8 hown hK hP 2 rfl rfl 41 (by decide) hw1 (fun _ h9 => h9) rfl dX8_most_68 ?_
        refine lv_iload hx hb dX8_most_71 (lv_at hl 0 rfl) ?_
        refine lv_aload_n hx hb dX8_most_73 rfl (lv_at hl 2 rfl) ?_
        refine va_get (D := (dC, dI)) (ci := 8) (v := .ref npo) (C := RX8) (T := TX8) (N := 53) hx hb hts hin8 hown hK hP 2 rfl rfl 41 (by decide) hw1 (fun _ h9 => h9) rfl dX8_most_74 ?_
        refine lv_iload hx hb dX8_most_77 (lv_at hl 0 rfl) ?_
        refine va_iald hx hb hK hP 1 0 rfl rfl (vin (by decide) (by decide)) dX8_most_79 ?_
        refine lv_topi (fun x18 e18 => ?_)
        obtain rfl : x18 = 0 := e18.trans (by first | rfl | decide)
        refine lv_if_le (tgt := 102) hx hb dX8_most_80 (by decide) (fun c19 => ?_) (fun c19 => absurd c19 (by decide))
        refine lv_iconst (v := 0) hx hb dX8_most_102 (by decide) ?_
        refine va_iast hx hb hK hP hD hS 1 0 rfl rfl (vin (by decide) (by decide)) dX8_most_103 (fun H locs hP hD hS => ?_)
        replace hP : va_P (dC, dI) vwCl [(nta, .inl (cI, 6, .inl (upd (upd (fun _ => 0) 0 0) 1 0))), (npo, .inl (cI, 6, .inl (upd (upd (upd (upd (upd (upd (upd (upd (upd (fun _ => 0) 5 0) 4 0) 3 0) 2 0) 1 0) 0 0) 0 0) 1 0) 2 0))), (n, .inr (8, [.int 800, .int 0, .int 0, .int 0, .int 0, .int 0, .int 0, .ref nwi, .ref nco, .int 0, .ref nqu, .ref nmi, .ref nde, .ref nsa, .ref nsm, .int 0, .ref npa, .int 0, .ref nac, .ref nam, .ref naw, .int 0, .int 0, .int 0, .int 0, .int 0, .int 0, .int 0, .int 0, .int 0, .ref ncs, .ref nbw, .ref ndc, .ref nmk, .int 0, .int 0, .int 0, .int 0, .int 0, .int 0, .int 0, .ref npo, .int 0, .ref nta, .ref npl, .int 0, .int 0, .ref nmm, .ref ncu, .ref nke, .ref nik, .int 0, .int 0])), (nwi, .inl (cI, 14, .inl (fun _ => 0)))] H := hP
        replace hD : va_D A [(nta, .inl (cI, 6, .inl (upd (upd (fun _ => 0) 0 0) 1 0))), (npo, .inl (cI, 6, .inl (upd (upd (upd (upd (upd (upd (upd (upd (upd (fun _ => 0) 5 0) 4 0) 3 0) 2 0) 1 0) 0 0) 0 0) 1 0) 2 0))), (n, .inr (8, [.int 800, .int 0, .int 0, .int 0, .int 0, .int 0, .int 0, .ref nwi, .ref nco, .int 0, .ref nqu, .ref nmi, .ref nde, .ref nsa, .ref nsm, .int 0, .ref npa, .int 0, .ref nac, .ref nam, .ref naw, .int 0, .int 0, .int 0, .int 0, .int 0, .int 0, .int 0, .int 0, .int 0, .ref ncs, .ref nbw, .ref ndc, .ref nmk, .int 0, .int 0, .int 0, .int 0, .int 0, .int 0, .int 0, .ref npo, .int 0, .ref nta, .ref npl, .int 0, .int 0, .ref nmm, .ref ncu, .ref nke, .ref nik, .int 0, .int 0])), (nwi, .inl (cI, 14, .inl (fun _ => 0)))] := hD
        refine lv_aload_n hx hb dX8_most_104 rfl (lv_at hl 2 rfl) ?_
        refine va_get (D := (dC, dI)) (ci := 8) (v := .ref nta) (C := RX8) (T := TX8) (N := 53) hx hb hts hin8 hown hK hP 2 rfl rfl 43 (by decide) hw2 (fun _ h9 => h9) rfl dX8_most_105 ?_
        refine lv_iload hx hb dX8_most_108 (lv_at hl 0 rfl) ?_
        refine lv_iconst (v := 0) hx hb dX8_most_110 (by decide) ?_
        refine va_iast hx hb hK hP hD hS 0 0 rfl rfl (vin (by decide) (by decide)) dX8_most_111 (fun H locs hP hD hS => ?_)
        replace hP : va_P (dC, dI) vwCl [(nta, .inl (cI, 6, .inl (upd (upd (upd (fun _ => 0) 0 0) 1 0) 2 0))), (npo, .inl (cI, 6, .inl (upd (upd (upd (upd (upd (upd (upd (upd (upd (fun _ => 0) 5 0) 4 0) 3 0) 2 0) 1 0) 0 0) 0 0) 1 0) 2 0))), (n, .inr (8, [.int 800, .int 0, .int 0, .int 0, .int 0, .int 0, .int 0, .ref nwi, .ref nco, .int 0, .ref nqu, .ref nmi, .ref nde, .ref nsa, .ref nsm, .int 0, .ref npa, .int 0, .ref nac, .ref nam, .ref naw, .int 0, .int 0, .int 0, .int 0, .int 0, .int 0, .int 0, .int 0, .int 0, .ref ncs, .ref nbw, .ref ndc, .ref nmk, .int 0, .int 0, .int 0, .int 0, .int 0, .int 0, .int 0, .ref npo, .int 0, .ref nta, .ref npl, .int 0, .int 0, .ref nmm, .ref ncu, .ref nke, .ref nik, .int 0, .int 0])), (nwi, .inl (cI, 14, .inl (fun _ => 0)))] H := hP
        replace hD : va_D A [(nta, .inl (cI, 6, .inl (upd (upd (upd (fun _ => 0) 0 0) 1 0) 2 0))), (npo, .inl (cI, 6, .inl (upd (upd (upd (upd (upd (upd (upd (upd (upd (fun _ => 0) 5 0) 4 0) 3 0) 2 0) 1 0) 0 0) 0 0) 1 0) 2 0))), (n, .inr (8, [.int 800, .int 0, .int 0, .int 0, .int 0, .int 0, .int 0, .ref nwi, .ref nco, .int 0, .ref nqu, .ref nmi, .ref nde, .ref nsa, .ref nsm, .int 0, .ref npa, .int 0, .ref nac, .ref nam, .ref naw, .int 0, .int 0, .int 0, .int 0, .int 0, .int 0, .int 0, .int 0, .int 0, .ref ncs, .ref nbw, .ref ndc, .ref nmk, .int 0, .int 0, .int 0, .int 0, .int 0, .int 0, .int 0, .ref npo, .int 0, .ref nta, .ref npl, .int 0, .int 0, .ref nmm, .ref ncu, .ref nke, .ref nik, .int 0, .int 0])), (nwi, .inl (cI, 14, .inl (fun _ => 0)))] := hD
        refine lv_iinc (v := 3) (lv' := [(5, .int 3), (4, .int 0), (0, .ref n), (1, .int 0), (2, .int i1), (3, .int i2)]) hx hb dX8_most_112 hl (k := 0) rfl (by decide) (by decide) rfl (fun ls hl => ?_)
        refine lv_goto (tgt := 60) hx hb dX8_most_115 (by decide) ?_
        refine lv_iload hx hb dX8_most_60 (lv_at hl 0 rfl) ?_
        refine lv_bipush (v := 6) hx hb dX8_most_62 (by decide) ?_
        refine lv_icmp_ge (tgt := 118) hx hb dX8_most_64 (by decide) (fun c20 => absurd c20 (by decide)) (fun c20 => ?_)
        refine lv_aload_n hx hb dX8_most_67 rfl (lv_at hl 2 rfl) ?_
        refine va_get (D := (dC, dI)) (ci := 8) (v := .ref npo) (C := RX8) (T := TX8) (N := 53) hx hb hts hin8 hown hK hP 2 rfl rfl 41 (by decide) hw1 (fun _ h9 => h9) rfl dX8_most_68 ?_
        refine lv_iload hx hb dX8_most_71 (lv_at hl 0 rfl) ?_
        refine lv_aload_n hx hb dX8_most_73 rfl (lv_at hl 2 rfl) ?_
        refine va_get (D := (dC, dI)) (ci := 8) (v := .ref npo) (C := RX8) (T := TX8) (N := 53) hx hb hts hin8 hown hK hP 2 rfl rfl 41 (by decide) hw1 (fun _ h9 => h9) rfl dX8_most_74 ?_
        refine lv_iload hx hb dX8_most_77 (lv_at hl 0 rfl) ?_
        refine va_iald hx hb hK hP 1 0 rfl rfl (vin (by decide) (by decide)) dX8_most_79 ?_
        refine lv_topi (fun x21 e21 => ?_)
        obtain rfl : x21 = 0 := e21.trans (by first | rfl | decide)
        refine lv_if_le (tgt := 102) hx hb dX8_most_80 (by decide) (fun c22 => ?_) (fun c22 => absurd c22 (by decide))
        refine lv_iconst (v := 0) hx hb dX8_most_102 (by decide) ?_
        refine va_iast hx hb hK hP hD hS 1 0 rfl rfl (vin (by decide) (by decide)) dX8_most_103 (fun H locs hP hD hS => ?_)
        replace hP : va_P (dC, dI) vwCl [(nta, .inl (cI, 6, .inl (upd (upd (upd (fun _ => 0) 0 0) 1 0) 2 0))), (npo, .inl (cI, 6, .inl (upd (upd (upd (upd (upd (upd (upd (upd (upd (upd (fun _ => 0) 5 0) 4 0) 3 0) 2 0) 1 0) 0 0) 0 0) 1 0) 2 0) 3 0))), (n, .inr (8, [.int 800, .int 0, .int 0, .int 0, .int 0, .int 0, .int 0, .ref nwi, .ref nco, .int 0, .ref nqu, .ref nmi, .ref nde, .ref nsa, .ref nsm, .int 0, .ref npa, .int 0, .ref nac, .ref nam, .ref naw, .int 0, .int 0, .int 0, .int 0, .int 0, .int 0, .int 0, .int 0, .int 0, .ref ncs, .ref nbw, .ref ndc, .ref nmk, .int 0, .int 0, .int 0, .int 0, .int 0, .int 0, .int 0, .ref npo, .int 0, .ref nta, .ref npl, .int 0, .int 0, .ref nmm, .ref ncu, .ref nke, .ref nik, .int 0, .int 0])), (nwi, .inl (cI, 14, .inl (fun _ => 0)))] H := hP
        replace hD : va_D A [(nta, .inl (cI, 6, .inl (upd (upd (upd (fun _ => 0) 0 0) 1 0) 2 0))), (npo, .inl (cI, 6, .inl (upd (upd (upd (upd (upd (upd (upd (upd (upd (upd (fun _ => 0) 5 0) 4 0) 3 0) 2 0) 1 0) 0 0) 0 0) 1 0) 2 0) 3 0))), (n, .inr (8, [.int 800, .int 0, .int 0, .int 0, .int 0, .int 0, .int 0, .ref nwi, .ref nco, .int 0, .ref nqu, .ref nmi, .ref nde, .ref nsa, .ref nsm, .int 0, .ref npa, .int 0, .ref nac, .ref nam, .ref naw, .int 0, .int 0, .int 0, .int 0, .int 0, .int 0, .int 0, .int 0, .int 0, .ref ncs, .ref nbw, .ref ndc, .ref nmk, .int 0, .int 0, .int 0, .int 0, .int 0, .int 0, .int 0, .ref npo, .int 0, .ref nta, .ref npl, .int 0, .int 0, .ref nmm, .ref ncu, .ref nke, .ref nik, .int 0, .int 0])), (nwi, .inl (cI, 14, .inl (fun _ => 0)))] := hD
        refine lv_aload_n hx hb dX8_most_104 rfl (lv_at hl 2 rfl) ?_
        refine va_get (D := (dC, dI)) (ci := 8) (v := .ref nta) (C := RX8) (T := TX8) (N := 53) hx hb hts hin8 hown hK hP 2 rfl rfl 43 (by decide) hw2 (fun _ h9 => h9) rfl dX8_most_105 ?_
        refine lv_iload hx hb dX8_most_108 (lv_at hl 0 rfl) ?_
        refine lv_iconst (v := 0) hx hb dX8_most_110 (by decide) ?_
        refine va_iast hx hb hK hP hD hS 0 0 rfl rfl (vin (by decide) (by decide)) dX8_most_111 (fun H locs hP hD hS => ?_)
        replace hP : va_P (dC, dI) vwCl [(nta, .inl (cI, 6, .inl (upd (upd (upd (upd (fun _ => 0) 0 0) 1 0) 2 0) 3 0))), (npo, .inl (cI, 6, .inl (upd (upd (upd (upd (upd (upd (upd (upd (upd (upd (fun _ => 0) 5 0) 4 0) 3 0) 2 0) 1 0) 0 0) 0 0) 1 0) 2 0) 3 0))), (n, .inr (8, [.int 800, .int 0, .int 0, .int 0, .int 0, .int 0, .int 0, .ref nwi, .ref nco, .int 0, .ref nqu, .ref nmi, .ref nde, .ref nsa, .ref nsm, .int 0, .ref npa, .int 0, .ref nac, .ref nam, .ref naw, .int 0, .int 0, .int 0, .int 0, .int 0, .int 0, .int 0, .int 0, .int 0, .ref ncs, .ref nbw, .ref ndc, .ref nmk, .int 0, .int 0, .int 0, .int 0, .int 0, .int 0, .int 0, .ref npo, .int 0, .ref nta, .ref npl, .int 0, .int 0, .ref nmm, .ref ncu, .ref nke, .ref nik, .int 0, .int 0])), (nwi, .inl (cI, 14, .inl (fun _ => 0)))] H := hP
        replace hD : va_D A [(nta, .inl (cI, 6, .inl (upd (upd (upd (upd (fun _ => 0) 0 0) 1 0) 2 0) 3 0))), (npo, .inl (cI, 6, .inl (upd (upd (upd (upd (upd (upd (upd (upd (upd (upd (fun _ => 0) 5 0) 4 0) 3 0) 2 0) 1 0) 0 0) 0 0) 1 0) 2 0) 3 0))), (n, .inr (8, [.int 800, .int 0, .int 0, .int 0, .int 0, .int 0, .int 0, .ref nwi, .ref nco, .int 0, .ref nqu, .ref nmi, .ref nde, .ref nsa, .ref nsm, .int 0, .ref npa, .int 0, .ref nac, .ref nam, .ref naw, .int 0, .int 0, .int 0, .int 0, .int 0, .int 0, .int 0, .int 0, .int 0, .ref ncs, .ref nbw, .ref ndc, .ref nmk, .int 0, .int 0, .int 0, .int 0, .int 0, .int 0, .int 0, .ref npo, .int 0, .ref nta, .ref npl, .int 0, .int 0, .ref nmm, .ref ncu, .ref nke, .ref nik, .int 0, .int 0])), (nwi, .inl (cI, 14, .inl (fun _ => 0)))] := hD
        refine lv_iinc (v := 4) (lv' := [(5, .int 4), (4, .int 0), (0, .ref n), (1, .int 0), (2, .int i1), (3, .int i2)]) hx hb dX8_most_112 hl (k := 0) rfl (by decide) (by decide) rfl (fun ls hl => ?_)
        refine lv_goto (tgt := 60) hx hb dX8_most_115 (by decide) ?_
        refine lv_iload hx hb dX8_most_60 (lv_at hl 0 rfl) ?_
        refine lv_bipush (v := 6) hx hb dX8_most_62 (by decide) ?_
        refine lv_icmp_ge (tgt := 118) hx hb dX8_most_64 (by decide) (fun c23 => absurd c23 (by decide)) (fun c23 => ?_)
        refine lv_aload_n hx hb dX8_most_67 rfl (lv_at hl 2 rfl) ?_
        refine va_get (D := (dC, dI)) (ci := 8) (v := .ref npo) (C := RX8) (T := TX8) (N := 53) hx hb hts hin8 hown hK hP 2 rfl rfl 41 (by decide) hw1 (fun _ h9 => h9) rfl dX8_most_68 ?_
        refine lv_iload hx hb dX8_most_71 (lv_at hl 0 rfl) ?_
        refine lv_aload_n hx hb dX8_most_73 rfl (lv_at hl 2 rfl) ?_
        refine va_get (D := (dC, dI)) (ci := 8) (v := .ref npo) (C := RX8) (T := TX8) (N := 53) hx hb hts hin8 hown hK hP 2 rfl rfl 41 (by decide) hw1 (fun _ h9 => h9) rfl dX8_most_74 ?_
        refine lv_iload hx hb dX8_most_77 (lv_at hl 0 rfl) ?_
        refine va_iald hx hb hK hP 1 0 rfl rfl (vin (by decide) (by decide)) dX8_most_79 ?_
        refine lv_topi (fun x24 e24 => ?_)
        obtain rfl : x24 = 0 := e24.trans (by first | rfl | decide)
        refine lv_if_le (tgt := 102) hx hb dX8_most_80 (by decide) (fun c25 => ?_) (fun c25 => absurd c25 (by decide))
        refine lv_iconst (v := 0) hx hb dX8_most_102 (by decide) ?_
        refine va_iast hx hb hK hP hD hS 1 0 rfl rfl (vin (by decide) (by decide)) dX8_most_103 (fun H locs hP hD hS => ?_)
        replace hP : va_P (dC, dI) vwCl [(nta, .inl (cI, 6, .inl (upd (upd (upd (upd (fun _ => 0) 0 0) 1 0) 2 0) 3 0))), (npo, .inl (cI, 6, .inl (upd (upd (upd (upd (upd (upd (upd (upd (upd (upd (upd (fun _ => 0) 5 0) 4 0) 3 0) 2 0) 1 0) 0 0) 0 0) 1 0) 2 0) 3 0) 4 0))), (n, .inr (8, [.int 800, .int 0, .int 0, .int 0, .int 0, .int 0, .int 0, .ref nwi, .ref nco, .int 0, .ref nqu, .ref nmi, .ref nde, .ref nsa, .ref nsm, .int 0, .ref npa, .int 0, .ref nac, .ref nam, .ref naw, .int 0, .int 0, .int 0, .int 0, .int 0, .int 0, .int 0, .int 0, .int 0, .ref ncs, .ref nbw, .ref ndc, .ref nmk, .int 0, .int 0, .int 0, .int 0, .int 0, .int 0, .int 0, .ref npo, .int 0, .ref nta, .ref npl, .int 0, .int 0, .ref nmm, .ref ncu, .ref nke, .ref nik, .int 0, .int 0])), (nwi, .inl (cI, 14, .inl (fun _ => 0)))] H := hP
        replace hD : va_D A [(nta, .inl (cI, 6, .inl (upd (upd (upd (upd (fun _ => 0) 0 0) 1 0) 2 0) 3 0))), (npo, .inl (cI, 6, .inl (upd (upd (upd (upd (upd (upd (upd (upd (upd (upd (upd (fun _ => 0) 5 0) 4 0) 3 0) 2 0) 1 0) 0 0) 0 0) 1 0) 2 0) 3 0) 4 0))), (n, .inr (8, [.int 800, .int 0, .int 0, .int 0, .int 0, .int 0, .int 0, .ref nwi, .ref nco, .int 0, .ref nqu, .ref nmi, .ref nde, .ref nsa, .ref nsm, .int 0, .ref npa, .int 0, .ref nac, .ref nam, .ref naw, .int 0, .int 0, .int 0, .int 0, .int 0, .int 0, .int 0, .int 0, .int 0, .ref ncs, .ref nbw, .ref ndc, .ref nmk, .int 0, .int 0, .int 0, .int 0, .int 0, .int 0, .int 0, .ref npo, .int 0, .ref nta, .ref npl, .int 0, .int 0, .ref nmm, .ref ncu, .ref nke, .ref nik, .int 0, .int 0])), (nwi, .inl (cI, 14, .inl (fun _ => 0)))] := hD
        refine lv_aload_n hx hb dX8_most_104 rfl (lv_at hl 2 rfl) ?_
        refine va_get (D := (dC, dI)) (ci := 8) (v := .ref nta) (C := RX8) (T := TX8) (N := 53) hx hb hts hin8 hown hK hP 2 rfl rfl 43 (by decide) hw2 (fun _ h9 => h9) rfl dX8_most_105 ?_
        refine lv_iload hx hb dX8_most_108 (lv_at hl 0 rfl) ?_
        refine lv_iconst (v := 0) hx hb dX8_most_110 (by decide) ?_
        refine va_iast hx hb hK hP hD hS 0 0 rfl rfl (vin (by decide) (by decide)) dX8_most_111 (fun H locs hP hD hS => ?_)
        replace hP : va_P (dC, dI) vwCl [(nta, .inl (cI, 6, .inl (upd (upd (upd (upd (upd (fun _ => 0) 0 0) 1 0) 2 0) 3 0) 4 0))), (npo, .inl (cI, 6, .inl (upd (upd (upd (upd (upd (upd (upd (upd (upd (upd (upd (fun _ => 0) 5 0) 4 0) 3 0) 2 0) 1 0) 0 0) 0 0) 1 0) 2 0) 3 0) 4 0))), (n, .inr (8, [.int 800, .int 0, .int 0, .int 0, .int 0, .int 0, .int 0, .ref nwi, .ref nco, .int 0, .ref nqu, .ref nmi, .ref nde, .ref nsa, .ref nsm, .int 0, .ref npa, .int 0, .ref nac, .ref nam, .ref naw, .int 0, .int 0, .int 0, .int 0, .int 0, .int 0, .int 0, .int 0, .int 0, .ref ncs, .ref nbw, .ref ndc, .ref nmk, .int 0, .int 0, .int 0, .int 0, .int 0, .int 0, .int 0, .ref npo, .int 0, .ref nta, .ref npl, .int 0, .int 0, .ref nmm, .ref ncu, .ref nke, .ref nik, .int 0, .int 0])), (nwi, .inl (cI, 14, .inl (fun _ => 0)))] H := hP
        replace hD : va_D A [(nta, .inl (cI, 6, .inl (upd (upd (upd (upd (upd (fun _ => 0) 0 0) 1 0) 2 0) 3 0) 4 0))), (npo, .inl (cI, 6, .inl (upd (upd (upd (upd (upd (upd (upd (upd (upd (upd (upd (fun _ => 0) 5 0) 4 0) 3 0) 2 0) 1 0) 0 0) 0 0) 1 0) 2 0) 3 0) 4 0))), (n, .inr (8, [.int 800, .int 0, .int 0, .int 0, .int 0, .int 0, .int 0, .ref nwi, .ref nco, .int 0, .ref nqu, .ref nmi, .ref nde, .ref nsa, .ref nsm, .int 0, .ref npa, .int 0, .ref nac, .ref nam, .ref naw, .int 0, .int 0, .int 0, .int 0, .int 0, .int 0, .int 0, .int 0, .int 0, .ref ncs, .ref nbw, .ref ndc, .ref nmk, .int 0, .int 0, .int 0, .int 0, .int 0, .int 0, .int 0, .ref npo, .int 0, .ref nta, .ref npl, .int 0, .int 0, .ref nmm, .ref ncu, .ref nke, .ref nik, .int 0, .int 0])), (nwi, .inl (cI, 14, .inl (fun _ => 0)))] := hD
        refine lv_iinc (v := 5) (lv' := [(5, .int 5), (4, .int 0), (0, .ref n), (1, .int 0), (2, .int i1), (3, .int i2)]) hx hb dX8_most_112 hl (k := 0) rfl (by decide) (by decide) rfl (fun ls hl => ?_)
        refine lv_goto (tgt := 60) hx hb dX8_most_115 (by decide) ?_
        refine lv_iload hx hb dX8_most_60 (lv_at hl 0 rfl) ?_
        refine lv_bipush (v := 6) hx hb dX8_most_62 (by decide) ?_
        refine lv_icmp_ge (tgt := 118) hx hb dX8_most_64 (by decide) (fun c26 => absurd c26 (by decide)) (fun c26 => ?_)
        refine lv_aload_n hx hb dX8_most_67 rfl (lv_at hl 2 rfl) ?_
        refine va_get (D := (dC, dI)) (ci := 8) (v := .ref npo) (C := RX8) (T := TX8) (N := 53) hx hb hts hin8 hown hK hP 2 rfl rfl 41 (by decide) hw1 (fun _ h9 => h9) rfl dX8_most_68 ?_
        refine lv_iload hx hb dX8_most_71 (lv_at hl 0 rfl) ?_
        refine lv_aload_n hx hb dX8_most_73 rfl (lv_at hl 2 rfl) ?_
        refine va_get (D := (dC, dI)) (ci := 8) (v := .ref npo) (C := RX8) (T := TX8) (N := 53) hx hb hts hin8 hown hK hP 2 rfl rfl 41 (by decide) hw1 (fun _ h9 => h9) rfl dX8_most_74 ?_
        refine lv_iload hx hb dX8_most_77 (lv_at hl 0 rfl) ?_
        refine va_iald hx hb hK hP 1 0 rfl rfl (vin (by decide) (by decide)) dX8_most_79 ?_
        refine lv_topi (fun x27 e27 => ?_)
        obtain rfl : x27 = 0 := e27.trans (by first | rfl | decide)
        refine lv_if_le (tgt := 102) hx hb dX8_most_80 (by decide) (fun c28 => ?_) (fun c28 => absurd c28 (by decide))
        refine lv_iconst (v := 0) hx hb dX8_most_102 (by decide) ?_
        refine va_iast hx hb hK hP hD hS 1 0 rfl rfl (vin (by decide) (by decide)) dX8_most_103 (fun H locs hP hD hS => ?_)
        replace hP : va_P (dC, dI) vwCl [(nta, .inl (cI, 6, .inl (upd (upd (upd (upd (upd (fun _ => 0) 0 0) 1 0) 2 0) 3 0) 4 0))), (npo, .inl (cI, 6, .inl (upd (upd (upd (upd (upd (upd (upd (upd (upd (upd (upd (upd (fun _ => 0) 5 0) 4 0) 3 0) 2 0) 1 0) 0 0) 0 0) 1 0) 2 0) 3 0) 4 0) 5 0))), (n, .inr (8, [.int 800, .int 0, .int 0, .int 0, .int 0, .int 0, .int 0, .ref nwi, .ref nco, .int 0, .ref nqu, .ref nmi, .ref nde, .ref nsa, .ref nsm, .int 0, .ref npa, .int 0, .ref nac, .ref nam, .ref naw, .int 0, .int 0, .int 0, .int 0, .int 0, .int 0, .int 0, .int 0, .int 0, .ref ncs, .ref nbw, .ref ndc, .ref nmk, .int 0, .int 0, .int 0, .int 0, .int 0, .int 0, .int 0, .ref npo, .int 0, .ref nta, .ref npl, .int 0, .int 0, .ref nmm, .ref ncu, .ref nke, .ref nik, .int 0, .int 0])), (nwi, .inl (cI, 14, .inl (fun _ => 0)))] H := hP
        replace hD : va_D A [(nta, .inl (cI, 6, .inl (upd (upd (upd (upd (upd (fun _ => 0) 0 0) 1 0) 2 0) 3 0) 4 0))), (npo, .inl (cI, 6, .inl (upd (upd (upd (upd (upd (upd (upd (upd (upd (upd (upd (upd (fun _ => 0) 5 0) 4 0) 3 0) 2 0) 1 0) 0 0) 0 0) 1 0) 2 0) 3 0) 4 0) 5 0))), (n, .inr (8, [.int 800, .int 0, .int 0, .int 0, .int 0, .int 0, .int 0, .ref nwi, .ref nco, .int 0, .ref nqu, .ref nmi, .ref nde, .ref nsa, .ref nsm, .int 0, .ref npa, .int 0, .ref nac, .ref nam, .ref naw, .int 0, .int 0, .int 0, .int 0, .int 0, .int 0, .int 0, .int 0, .int 0, .ref ncs, .ref nbw, .ref ndc, .ref nmk, .int 0, .int 0, .int 0, .int 0, .int 0, .int 0, .int 0, .ref npo, .int 0, .ref nta, .ref npl, .int 0, .int 0, .ref nmm, .ref ncu, .ref nke, .ref nik, .int 0, .int 0])), (nwi, .inl (cI, 14, .inl (fun _ => 0)))] := hD
        refine lv_aload_n hx hb dX8_most_104 rfl (lv_at hl 2 rfl) ?_
        refine va_get (D := (dC, dI)) (ci := 8) (v := .ref nta) (C := RX8) (T := TX8) (N := 53) hx hb hts hin8 hown hK hP 2 rfl rfl 43 (by decide) hw2 (fun _ h9 => h9) rfl dX8_most_105 ?_
        refine lv_iload hx hb dX8_most_108 (lv_at hl 0 rfl) ?_
        refine lv_iconst (v := 0) hx hb dX8_most_110 (by decide) ?_
        refine va_iast hx hb hK hP hD hS 0 0 rfl rfl (vin (by decide) (by decide)) dX8_most_111 (fun H locs hP hD hS => ?_)
        replace hP : va_P (dC, dI) vwCl [(nta, .inl (cI, 6, .inl (upd (upd (upd (upd (upd (upd (fun _ => 0) 0 0) 1 0) 2 0) 3 0) 4 0) 5 0))), (npo, .inl (cI, 6, .inl (upd (upd (upd (upd (upd (upd (upd (upd (upd (upd (upd (upd (fun _ => 0) 5 0) 4 0) 3 0) 2 0) 1 0) 0 0) 0 0) 1 0) 2 0) 3 0) 4 0) 5 0))), (n, .inr (8, [.int 800, .int 0, .int 0, .int 0, .int 0, .int 0, .int 0, .ref nwi, .ref nco, .int 0, .ref nqu, .ref nmi, .ref nde, .ref nsa, .ref nsm, .int 0, .ref npa, .int 0, .ref nac, .ref nam, .ref naw, .int 0, .int 0, .int 0, .int 0, .int 0, .int 0, .int 0, .int 0, .int 0, .ref ncs, .ref nbw, .ref ndc, .ref nmk, .int 0, .int 0, .int 0, .int 0, .int 0, .int 0, .int 0, .ref npo, .int 0, .ref nta, .ref npl, .int 0, .int 0, .ref nmm, .ref ncu, .ref nke, .ref nik, .int 0, .int 0])), (nwi, .inl (cI, 14, .inl (fun _ => 0)))] H := hP
        replace hD : va_D A [(nta, .inl (cI, 6, .inl (upd (upd (upd (upd (upd (upd (fun _ => 0) 0 0) 1 0) 2 0) 3 0) 4 0) 5 0))), (npo, .inl (cI, 6, .inl (upd (upd (upd (upd (upd (upd (upd (upd (upd (upd (upd (upd (fun _ => 0) 5 0) 4 0) 3 0) 2 0) 1 0) 0 0) 0 0) 1 0) 2 0) 3 0) 4 0) 5 0))), (n, .inr (8, [.int 800, .int 0, .int 0, .int 0, .int 0, .int 0, .int 0, .ref nwi, .ref nco, .int 0, .ref nqu, .ref nmi, .ref nde, .ref nsa, .ref nsm, .int 0, .ref npa, .int 0, .ref nac, .ref nam, .ref naw, .int 0, .int 0, .int 0, .int 0, .int 0, .int 0, .int 0, .int 0, .int 0, .ref ncs, .ref nbw, .ref ndc, .ref nmk, .int 0, .int 0, .int 0, .int 0, .int 0, .int 0, .int 0, .ref npo, .int 0, .ref nta, .ref npl, .int 0, .int 0, .ref nmm, .ref ncu, .ref nke, .ref nik, .int 0, .int 0])), (nwi, .inl (cI, 14, .inl (fun _ => 0)))] := hD
        refine lv_iinc (v := 6) (lv' := [(5, .int 6), (4, .int 0), (0, .ref n), (1, .int 0), (2, .int i1), (3, .int i2)]) hx hb dX8_most_112 hl (k := 0) rfl (by decide) (by decide) rfl (fun ls hl => ?_)
        refine lv_goto (tgt := 60) hx hb dX8_most_115 (by decide) ?_
        refine lv_iload hx hb dX8_most_60 (lv_at hl 0 rfl) ?_
        refine lv_bipush (v := 6) hx hb dX8_most_62 (by decide) ?_
        refine lv_icmp_ge (tgt := 118) hx hb dX8_most_64 (by decide) (fun c29 => ?_) (fun c29 => absurd c29 (by decide))
        refine lv_iconst (v := 0) hx hb dX8_most_118 (by decide) ?_
        refine lv_istore (lv' := [(5, .int 0), (4, .int 0), (0, .ref n), (1, .int 0), (2, .int i1), (3, .int i2)]) hx hb dX8_most_119 hl (by decide) rfl (fun ls hl => ?_)
        refine lv_iconst (v := 1) hx hb dX8_most_121 (by decide) ?_
        refine lv_istore (lv' := [(6, .int 1), (5, .int 0), (4, .int 0), (0, .ref n), (1, .int 0), (2, .int i1), (3, .int i2)]) hx hb dX8_most_122 hl (by decide) rfl (fun ls hl => ?_)
        refine lv_iload hx hb dX8_most_124 (lv_at hl 0 rfl) ?_
        refine lv_if_eq (tgt := 271) hx hb dX8_most_126 (by decide) (fun c30 => absurd c30 (by decide)) (fun c30 => ?_)
        refine lv_iconst (v := 0) hx hb dX8_most_129 (by decide) ?_
        refine lv_istore (lv' := [(7, .int 0), (6, .int 1), (5, .int 0), (4, .int 0), (0, .ref n), (1, .int 0), (2, .int i1), (3, .int i2)]) hx hb dX8_most_130 hl (by decide) rfl (fun ls hl => ?_)
        refine lv_iconst (v := 0) hx hb dX8_most_132 (by decide) ?_
        refine lv_istore (lv' := [(8, .int 0), (7, .int 0), (6, .int 1), (5, .int 0), (4, .int 0), (0, .ref n), (1, .int 0), (2, .int i1), (3, .int i2)]) hx hb dX8_most_133 hl (by decide) rfl (fun ls hl => ?_)
        refine lv_iconst (v := 0) hx hb dX8_most_135 (by decide) ?_
        refine lv_istore (lv' := [(9, .int 0), (8, .int 0), (7, .int 0), (6, .int 1), (5, .int 0), (4, .int 0), (0, .ref n), (1, .int 0), (2, .int i1), (3, .int i2)]) hx hb dX8_most_136 hl (by decide) rfl (fun ls hl => ?_)
        refine lv_iload hx hb dX8_most_138 (lv_at hl 0 rfl) ?_
        refine lv_bipush (v := 6) hx hb dX8_most_140 (by decide) ?_
        refine lv_icmp_ge (tgt := 237) hx hb dX8_most_142 (by decide) (fun c31 => absurd c31 (by decide)) (fun c31 => ?_)
        refine lv_iload hx hb dX8_most_145 (lv_at hl 2 rfl) ?_
        refine lv_aload_n hx hb dX8_most_147 rfl (lv_at hl 6 rfl) ?_
        refine va_get (D := (dC, dI)) (ci := 8) (v := .ref nta) (C := RX8) (T := TX8) (N := 53) hx hb hts hin8 hown hK hP 2 rfl rfl 43 (by decide) hw2 (fun _ h9 => h9) rfl dX8_most_148 ?_
        refine lv_iload hx hb dX8_most_151 (lv_at hl 0 rfl) ?_
        refine va_iald hx hb hK hP 0 0 rfl rfl (vin (by decide) (by decide)) dX8_most_153 ?_
        refine lv_topi (fun x32 e32 => ?_)
        obtain rfl : x32 = 0 := e32.trans (by first | rfl | decide)
        refine lv_if_le (tgt := 177) hx hb dX8_most_154 (by decide) (fun c33 => ?_) (fun c33 => absurd c33 (by decide))
        refine lv_iconst (v := 0) hx hb dX8_most_177 (by decide) ?_
        refine lv_iadd hx hb dX8_most_178 ?_
        refine lv_topi (fun x34 e34 => ?_)
        obtain rfl : x34 = 0 := e34.trans (by decide)
        refine lv_istore (lv' := [(7, .int 0), (9, .int 0), (8, .int 0), (6, .int 1), (5, .int 0), (4, .int 0), (0, .ref n), (1, .int 0), (2, .int i1), (3, .int i2)]) hx hb dX8_most_179 hl (by decide) rfl (fun ls hl => ?_)
        refine lv_iload hx hb dX8_most_181 (lv_at hl 2 rfl) ?_
        refine lv_aload_n hx hb dX8_most_183 rfl (lv_at hl 6 rfl) ?_
        refine va_get (D := (dC, dI)) (ci := 8) (v := .ref nta) (C := RX8) (T := TX8) (N := 53) hx hb hts hin8 hown hK hP 2 rfl rfl 43 (by decide) hw2 (fun _ h9 => h9) rfl dX8_most_184 ?_
        refine lv_iload hx hb dX8_most_187 (lv_at hl 1 rfl) ?_
        refine va_iald hx hb hK hP 0 0 rfl rfl (vin (by decide) (by decide)) dX8_most_189 ?_
        refine lv_topi (fun x35 e35 => ?_)
        obtain rfl : x35 = 0 := e35.trans (by first | rfl | decide)
        refine lv_if_le (tgt := 227) hx hb dX8_most_190 (by decide) (fun c36 => ?_) (fun c36 => absurd c36 (by decide))
        refine lv_iconst (v := 0) hx hb dX8_most_227 (by decide) ?_
        refine lv_iadd hx hb dX8_most_228 ?_
        refine lv_topi (fun x37 e37 => ?_)
        obtain rfl : x37 = 0 := e37.trans (by decide)
        refine lv_istore (lv' := [(8, .int 0), (7, .int 0), (9, .int 0), (6, .int 1), (5, .int 0), (4, .int 0), (0, .ref n), (1, .int 0), (2, .int i1), (3, .int i2)]) hx hb dX8_most_229 hl (by decide) rfl (fun ls hl => ?_)
        refine lv_iinc (v := 1) (lv' := [(9, .int 1), (8, .int 0), (7, .int 0), (6, .int 1), (5, .int 0), (4, .int 0), (0, .ref n), (1, .int 0), (2, .int i1), (3, .int i2)]) hx hb dX8_most_231 hl (k := 2) rfl (by decide) (by decide) rfl (fun ls hl => ?_)
        refine lv_goto (tgt := 138) hx hb dX8_most_234 (by decide) ?_
        refine lv_iload hx hb dX8_most_138 (lv_at hl 0 rfl) ?_
        refine lv_bipush (v := 6) hx hb dX8_most_140 (by decide) ?_
        refine lv_icmp_ge (tgt := 237) hx hb dX8_most_142 (by decide) (fun c38 => absurd c38 (by decide)) (fun c38 => ?_)
        refine lv_iload hx hb dX8_most_145 (lv_at hl 2 rfl) ?_
        refine lv_aload_n hx hb dX8_most_147 rfl (lv_at hl 6 rfl) ?_
        refine va_get (D := (dC, dI)) (ci := 8) (v := .ref nta) (C := RX8) (T := TX8) (N := 53) hx hb hts hin8 hown hK hP 2 rfl rfl 43 (by decide) hw2 (fun _ h9 => h9) rfl dX8_most_148 ?_
        refine lv_iload hx hb dX8_most_151 (lv_at hl 0 rfl) ?_
        refine va_iald hx hb hK hP 0 0 rfl rfl (vin (by decide) (by decide)) dX8_most_153 ?_
        refine lv_topi (fun x39 e39 => ?_)
        obtain rfl : x39 = 0 := e39.trans (by first | rfl | decide)
        refine lv_if_le (tgt := 177) hx hb dX8_most_154 (by decide) (fun c40 => ?_) (fun c40 => absurd c40 (by decide))
        refine lv_iconst (v := 0) hx hb dX8_most_177 (by decide) ?_
        refine lv_iadd hx hb dX8_most_178 ?_
        refine lv_topi (fun x41 e41 => ?_)
        obtain rfl : x41 = 0 := e41.trans (by decide)
        refine lv_istore (lv' := [(7, .int 0), (9, .int 1), (8, .int 0), (6, .int 1), (5, .int 0), (4, .int 0), (0, .ref n), (1, .int 0), (2, .int i1), (3, .int i2)]) hx hb dX8_most_179 hl (by decide) rfl (fun ls hl => ?_)
        refine lv_iload hx hb dX8_most_181 (lv_at hl 2 rfl) ?_
        refine lv_aload_n hx hb dX8_most_183 rfl (lv_at hl 6 rfl) ?_
        refine va_get (D := (dC, dI)) (ci := 8) (v := .ref nta) (C := RX8) (T := TX8) (N := 53) hx hb hts hin8 hown hK hP 2 rfl rfl 43 (by decide) hw2 (fun _ h9 => h9) rfl dX8_most_184 ?_
        refine lv_iload hx hb dX8_most_187 (lv_at hl 1 rfl) ?_
        refine va_iald hx hb hK hP 0 0 rfl rfl (vin (by decide) (by decide)) dX8_most_189 ?_
        refine lv_topi (fun x42 e42 => ?_)
        obtain rfl : x42 = 0 := e42.trans (by first | rfl | decide)
        refine lv_if_le (tgt := 227) hx hb dX8_most_190 (by decide) (fun c43 => ?_) (fun c43 => absurd c43 (by decide))
        refine lv_iconst (v := 0) hx hb dX8_most_227 (by decide) ?_
        refine lv_iadd hx hb dX8_most_228 ?_
        refine lv_topi (fun x44 e44 => ?_)
        obtain rfl : x44 = 0 := e44.trans (by decide)
        refine lv_istore (lv' := [(8, .int 0), (7, .int 0), (9, .int 1), (6, .int 1), (5, .int 0), (4, .int 0), (0, .ref n), (1, .int 0), (2, .int i1), (3, .int i2)]) hx hb dX8_most_229 hl (by decide) rfl (fun ls hl => ?_)
        refine lv_iinc (v := 2) (lv' := [(9, .int 2), (8, .int 0), (7, .int 0), (6, .int 1), (5, .int 0), (4, .int 0), (0, .ref n), (1, .int 0), (2, .int i1), (3, .int i2)]) hx hb dX8_most_231 hl (k := 2) rfl (by decide) (by decide) rfl (fun ls hl => ?_)
        refine lv_goto (tgt := 138) hx hb dX8_most_234 (by decide) ?_
        refine lv_iload hx hb dX8_most_138 (lv_at hl 0 rfl) ?_
        refine lv_bipush (v := 6) hx hb dX8_most_140 (by decide) ?_
        refine lv_icmp_ge (tgt := 237) hx hb dX8_most_142 (by decide) (fun c45 => absurd c45 (by decide)) (fun c45 => ?_)
        refine lv_iload hx hb dX8_most_145 (lv_at hl 2 rfl) ?_
        refine lv_aload_n hx hb dX8_most_147 rfl (lv_at hl 6 rfl) ?_
        refine va_get (D := (dC, dI)) (ci := 8) (v := .ref nta) (C := RX8) (T := TX8) (N := 53) hx hb hts hin8 hown hK hP 2 rfl rfl 43 (by decide) hw2 (fun _ h9 => h9) rfl dX8_most_148 ?_
        refine lv_iload hx hb dX8_most_151 (lv_at hl 0 rfl) ?_
        refine va_iald hx hb hK hP 0 0 rfl rfl (vin (by decide) (by decide)) dX8_most_153 ?_
        refine lv_topi (fun x46 e46 => ?_)
        obtain rfl : x46 = 0 := e46.trans (by first | rfl | decide)
        refine lv_if_le (tgt := 177) hx hb dX8_most_154 (by decide) (fun c47 => ?_) (fun c47 => absurd c47 (by decide))
        refine lv_iconst (v := 0) hx hb dX8_most_177 (by decide) ?_
        refine lv_iadd hx hb dX8_most_178 ?_
        refine lv_topi (fun x48 e48 => ?_)
        obtain rfl : x48 = 0 := e48.trans (by decide)
        refine lv_istore (lv' := [(7, .int 0), (9, .int 2), (8, .int 0), (6, .int 1), (5, .int 0), (4, .int 0), (0, .ref n), (1, .int 0), (2, .int i1), (3, .int i2)]) hx hb dX8_most_179 hl (by decide) rfl (fun ls hl => ?_)
        refine lv_iload hx hb dX8_most_181 (lv_at hl 2 rfl) ?_
        refine lv_aload_n hx hb dX8_most_183 rfl (lv_at hl 6 rfl) ?_
        refine va_get (D := (dC, dI)) (ci := 8) (v := .ref nta) (C := RX8) (T := TX8) (N := 53) hx hb hts hin8 hown hK hP 2 rfl rfl 43 (by decide) hw2 (fun _ h9 => h9) rfl dX8_most_184 ?_
        refine lv_iload hx hb dX8_most_187 (lv_at hl 1 rfl) ?_
        refine va_iald hx hb hK hP 0 0 rfl rfl (vin (by decide) (by decide)) dX8_most_189 ?_
        refine lv_topi (fun x49 e49 => ?_)
        obtain rfl : x49 = 0 := e49.trans (by first | rfl | decide)
        refine lv_if_le (tgt := 227) hx hb dX8_most_190 (by decide) (fun c50 => ?_) (fun c50 => absurd c50 (by decide))
        refine lv_iconst (v := 0) hx hb dX8_most_227 (by decide) ?_
        refine lv_iadd hx hb dX8_most_228 ?_
        refine lv_topi (fun x51 e51 => ?_)
        obtain rfl : x51 = 0 := e51.trans (by decide)
        refine lv_istore (lv' := [(8, .int 0), (7, .int 0), (9, .int 2), (6, .int 1), (5, .int 0), (4, .int 0), (0, .ref n), (1, .int 0), (2, .int i1), (3, .int i2)]) hx hb dX8_most_229 hl (by decide) rfl (fun ls hl => ?_)
        refine lv_iinc (v := 3) (lv' := [(9, .int 3), (8, .int 0), (7, .int 0), (6, .int 1), (5, .int 0), (4, .int 0), (0, .ref n), (1, .int 0), (2, .int i1), (3, .int i2)]) hx hb dX8_most_231 hl (k := 2) rfl (by decide) (by decide) rfl (fun ls hl => ?_)
        refine lv_goto (tgt := 138) hx hb dX8_most_234 (by decide) ?_
        refine lv_iload hx hb dX8_most_138 (lv_at hl 0 rfl) ?_
        refine lv_bipush (v := 6) hx hb dX8_most_140 (by decide) ?_
        refine lv_icmp_ge (tgt := 237) hx hb dX8_most_142 (by decide) (fun c52 => absurd c52 (by decide)) (fun c52 => ?_)
        refine lv_iload hx hb dX8_most_145 (lv_at hl 2 rfl) ?_
        refine lv_aload_n hx hb dX8_most_147 rfl (lv_at hl 6 rfl) ?_
        refine va_get (D := (dC, dI)) (ci := 8) (v := .ref nta) (C := RX8) (T := TX8) (N := 53) hx hb hts hin8 hown hK hP 2 rfl rfl 43 (by decide) hw2 (fun _ h9 => h9) rfl dX8_most_148 ?_
        refine lv_iload hx hb dX8_most_151 (lv_at hl 0 rfl) ?_
        refine va_iald hx hb hK hP 0 0 rfl rfl (vin (by decide) (by decide)) dX8_most_153 ?_
        refine lv_topi (fun x53 e53 => ?_)
        obtain rfl : x53 = 0 := e53.trans (by first | rfl | decide)
        refine lv_if_le (tgt := 177) hx hb dX8_most_154 (by decide) (fun c54 => ?_) (fun c54 => absurd c54 (by decide))
        refine lv_iconst (v := 0) hx hb dX8_most_177 (by decide) ?_
        refine lv_iadd hx hb dX8_most_178 ?_
        refine lv_topi (fun x55 e55 => ?_)
        obtain rfl : x55 = 0 := e55.trans (by decide)
        refine lv_istore (lv' := [(7, .int 0), (9, .int 3), (8, .int 0), (6, .int 1), (5, .int 0), (4, .int 0), (0, .ref n), (1, .int 0), (2, .int i1), (3, .int i2)]) hx hb dX8_most_179 hl (by decide) rfl (fun ls hl => ?_)
        refine lv_iload hx hb dX8_most_181 (lv_at hl 2 rfl) ?_
        refine lv_aload_n hx hb dX8_most_183 rfl (lv_at hl 6 rfl) ?_
        refine va_get (D := (dC, dI)) (ci := 8) (v := .ref nta) (C := RX8) (T := TX8) (N := 53) hx hb hts hin8 hown hK hP 2 rfl rfl 43 (by decide) hw2 (fun _ h9 => h9) rfl dX8_most_184 ?_
        refine lv_iload hx hb dX8_most_187 (lv_at hl 1 rfl) ?_
        refine va_iald hx hb hK hP 0 0 rfl rfl (vin (by decide) (by decide)) dX8_most_189 ?_
        refine lv_topi (fun x56 e56 => ?_)
        obtain rfl : x56 = 0 := e56.trans (by first | rfl | decide)
        refine lv_if_le (tgt := 227) hx hb dX8_most_190 (by decide) (fun c57 => ?_) (fun c57 => absurd c57 (by decide))
        refine lv_iconst (v := 0) hx hb dX8_most_227 (by decide) ?_
        refine lv_iadd hx hb dX8_most_228 ?_
        refine lv_topi (fun x58 e58 => ?_)
        obtain rfl : x58 = 0 := e58.trans (by decide)
        refine lv_istore (lv' := [(8, .int 0), (7, .int 0), (9, .int 3), (6, .int 1), (5, .int 0), (4, .int 0), (0, .ref n), (1, .int 0), (2, .int i1), (3, .int i2)]) hx hb dX8_most_229 hl (by decide) rfl (fun ls hl => ?_)
        refine lv_iinc (v := 4) (lv' := [(9, .int 4), (8, .int 0), (7, .int 0), (6, .int 1), (5, .int 0), (4, .int 0), (0, .ref n), (1, .int 0), (2, .int i1), (3, .int i2)]) hx hb dX8_most_231 hl (k := 2) rfl (by decide) (by decide) rfl (fun ls hl => ?_)
        refine lv_goto (tgt := 138) hx hb dX8_most_234 (by decide) ?_
        refine lv_iload hx hb dX8_most_138 (lv_at hl 0 rfl) ?_
        refine lv_bipush (v := 6) hx hb dX8_most_140 (by decide) ?_
        refine lv_icmp_ge (tgt := 237) hx hb dX8_most_142 (by decide) (fun c59 => absurd c59 (by decide)) (fun c59 => ?_)
        refine lv_iload hx hb dX8_most_145 (lv_at hl 2 rfl) ?_
        refine lv_aload_n hx hb dX8_most_147 rfl (lv_at hl 6 rfl) ?_
        refine va_get (D := (dC, dI)) (ci := 8) (v := .ref nta) (C := RX8) (T := TX8) (N := 53) hx hb hts hin8 hown hK hP 2 rfl rfl 43 (by decide) hw2 (fun _ h9 => h9) rfl dX8_most_148 ?_
        refine lv_iload hx hb dX8_most_151 (lv_at hl 0 rfl) ?_
        refine va_iald hx hb hK hP 0 0 rfl rfl (vin (by decide) (by decide)) dX8_most_153 ?_
        refine lv_topi (fun x60 e60 => ?_)
        obtain rfl : x60 = 0 := e60.trans (by first | rfl | decide)
        refine lv_if_le (tgt := 177) hx hb dX8_most_154 (by decide) (fun c61 => ?_) (fun c61 => absurd c61 (by decide))
        refine lv_iconst (v := 0) hx hb dX8_most_177 (by decide) ?_
        refine lv_iadd hx hb dX8_most_178 ?_
        refine lv_topi (fun x62 e62 => ?_)
        obtain rfl : x62 = 0 := e62.trans (by decide)
        refine lv_istore (lv' := [(7, .int 0), (9, .int 4), (8, .int 0), (6, .int 1), (5, .int 0), (4, .int 0), (0, .ref n), (1, .int 0), (2, .int i1), (3, .int i2)]) hx hb dX8_most_179 hl (by decide) rfl (fun ls hl => ?_)
        refine lv_iload hx hb dX8_most_181 (lv_at hl 2 rfl) ?_
        refine lv_aload_n hx hb dX8_most_183 rfl (lv_at hl 6 rfl) ?_
        refine va_get (D := (dC, dI)) (ci := 8) (v := .ref nta) (C := RX8) (T := TX8) (N := 53) hx hb hts hin8 hown hK hP 2 rfl rfl 43 (by decide) hw2 (fun _ h9 => h9) rfl dX8_most_184 ?_
        refine lv_iload hx hb dX8_most_187 (lv_at hl 1 rfl) ?_
        refine va_iald hx hb hK hP 0 0 rfl rfl (vin (by decide) (by decide)) dX8_most_189 ?_
        refine lv_topi (fun x63 e63 => ?_)
        obtain rfl : x63 = 0 := e63.trans (by first | rfl | decide)
        refine lv_if_le (tgt := 227) hx hb dX8_most_190 (by decide) (fun c64 => ?_) (fun c64 => absurd c64 (by decide))
        refine lv_iconst (v := 0) hx hb dX8_most_227 (by decide) ?_
        refine lv_iadd hx hb dX8_most_228 ?_
        refine lv_topi (fun x65 e65 => ?_)
        obtain rfl : x65 = 0 := e65.trans (by decide)
        refine lv_istore (lv' := [(8, .int 0), (7, .int 0), (9, .int 4), (6, .int 1), (5, .int 0), (4, .int 0), (0, .ref n), (1, .int 0), (2, .int i1), (3, .int i2)]) hx hb dX8_most_229 hl (by decide) rfl (fun ls hl => ?_)
        refine lv_iinc (v := 5) (lv' := [(9, .int 5), (8, .int 0), (7, .int 0), (6, .int 1), (5, .int 0), (4, .int 0), (0, .ref n), (1, .int 0), (2, .int i1), (3, .int i2)]) hx hb dX8_most_231 hl (k := 2) rfl (by decide) (by decide) rfl (fun ls hl => ?_)
        refine lv_goto (tgt := 138) hx hb dX8_most_234 (by decide) ?_
        refine lv_iload hx hb dX8_most_138 (lv_at hl 0 rfl) ?_
        refine lv_bipush (v := 6) hx hb dX8_most_140 (by decide) ?_
        refine lv_icmp_ge (tgt := 237) hx hb dX8_most_142 (by decide) (fun c66 => absurd c66 (by decide)) (fun c66 => ?_)
        refine lv_iload hx hb dX8_most_145 (lv_at hl 2 rfl) ?_
        refine lv_aload_n hx hb dX8_most_147 rfl (lv_at hl 6 rfl) ?_
        refine va_get (D := (dC, dI)) (ci := 8) (v := .ref nta) (C := RX8) (T := TX8) (N := 53) hx hb hts hin8 hown hK hP 2 rfl rfl 43 (by decide) hw2 (fun _ h9 => h9) rfl dX8_most_148 ?_
        refine lv_iload hx hb dX8_most_151 (lv_at hl 0 rfl) ?_
        refine va_iald hx hb hK hP 0 0 rfl rfl (vin (by decide) (by decide)) dX8_most_153 ?_
        refine lv_topi (fun x67 e67 => ?_)
        obtain rfl : x67 = 0 := e67.trans (by first | rfl | decide)
        refine lv_if_le (tgt := 177) hx hb dX8_most_154 (by decide) (fun c68 => ?_) (fun c68 => absurd c68 (by decide))
        refine lv_iconst (v := 0) hx hb dX8_most_177 (by decide) ?_
        refine lv_iadd hx hb dX8_most_178 ?_
        refine lv_topi (fun x69 e69 => ?_)
        obtain rfl : x69 = 0 := e69.trans (by decide)
        refine lv_istore (lv' := [(7, .int 0), (9, .int 5), (8, .int 0), (6, .int 1), (5, .int 0), (4, .int 0), (0, .ref n), (1, .int 0), (2, .int i1), (3, .int i2)]) hx hb dX8_most_179 hl (by decide) rfl (fun ls hl => ?_)
        refine lv_iload hx hb dX8_most_181 (lv_at hl 2 rfl) ?_
        refine lv_aload_n hx hb dX8_most_183 rfl (lv_at hl 6 rfl) ?_
        refine va_get (D := (dC, dI)) (ci := 8) (v := .ref nta) (C := RX8) (T := TX8) (N := 53) hx hb hts hin8 hown hK hP 2 rfl rfl 43 (by decide) hw2 (fun _ h9 => h9) rfl dX8_most_184 ?_
        refine lv_iload hx hb dX8_most_187 (lv_at hl 1 rfl) ?_
        refine va_iald hx hb hK hP 0 0 rfl rfl (vin (by decide) (by decide)) dX8_most_189 ?_
        refine lv_topi (fun x70 e70 => ?_)
        obtain rfl : x70 = 0 := e70.trans (by first | rfl | decide)
        refine lv_if_le (tgt := 227) hx hb dX8_most_190 (by decide) (fun c71 => ?_) (fun c71 => absurd c71 (by decide))
        refine lv_iconst (v := 0) hx hb dX8_most_227 (by decide) ?_
        refine lv_iadd hx hb dX8_most_228 ?_
        refine lv_topi (fun x72 e72 => ?_)
        obtain rfl : x72 = 0 := e72.trans (by decide)
        refine lv_istore (lv' := [(8, .int 0), (7, .int 0), (9, .int 5), (6, .int 1), (5, .int 0), (4, .int 0), (0, .ref n), (1, .int 0), (2, .int i1), (3, .int i2)]) hx hb dX8_most_229 hl (by decide) rfl (fun ls hl => ?_)
        refine lv_iinc (v := 6) (lv' := [(9, .int 6), (8, .int 0), (7, .int 0), (6, .int 1), (5, .int 0), (4, .int 0), (0, .ref n), (1, .int 0), (2, .int i1), (3, .int i2)]) hx hb dX8_most_231 hl (k := 2) rfl (by decide) (by decide) rfl (fun ls hl => ?_)
        refine lv_goto (tgt := 138) hx hb dX8_most_234 (by decide) ?_
        refine lv_iload hx hb dX8_most_138 (lv_at hl 0 rfl) ?_
        refine lv_bipush (v := 6) hx hb dX8_most_140 (by decide) ?_
        refine lv_icmp_ge (tgt := 237) hx hb dX8_most_142 (by decide) (fun c73 => ?_) (fun c73 => absurd c73 (by decide))
        refine lv_iload hx hb dX8_most_237 (lv_at hl 2 rfl) ?_
        refine lv_aload_n hx hb dX8_most_239 rfl (lv_at hl 6 rfl) ?_
        refine va_get (D := (dC, dI)) (ci := 8) (v := .int 800) (C := RX8) (T := TX8) (N := 53) hx hb hts hin8 hown hK hP 2 rfl rfl 0 (by decide) hw3 (fun _ h9 => h9) rfl dX8_most_240 ?_
        refine lv_icmp_gt (tgt := 258) hx hb dX8_most_243 (by decide) (fun c74 => absurd c74 (by decide)) (fun c74 => ?_)
        refine lv_iload hx hb dX8_most_246 (lv_at hl 1 rfl) ?_
        refine lv_iload hx hb dX8_most_248 (lv_at hl 4 rfl) ?_
        refine lv_icmp_le (tgt := 258) hx hb dX8_most_250 (by decide) (fun c75 => ?_) (fun c75 => absurd c75 (by decide))
        refine lv_iload hx hb dX8_most_258 (lv_at hl 4 rfl) ?_
        refine lv_istore (lv' := [(5, .int 0), (9, .int 6), (8, .int 0), (7, .int 0), (6, .int 1), (4, .int 0), (0, .ref n), (1, .int 0), (2, .int i1), (3, .int i2)]) hx hb dX8_most_260 hl (by decide) rfl (fun ls hl => ?_)
        refine lv_aload_n hx hb dX8_most_262 rfl (lv_at hl 6 rfl) ?_
        refine mx_i (wr := [(nwi, .inl (cI, 14, .inl (fun _ => 0)))]) (va_runV (As := []) (rest := []) ⟨hx, hb, hml, hown, hts⟩ (c_X8_nextTaken0 l dC dI cI cZ cK tS aK aV n nwi nco nqu nmi nde nsa nsm npa nac nam naw ncs nbw ndc nmk npo nta npl nmm ncu nke nik 800 0 0 0 0 0 0 0 0 0 0 0 0 0 0 0 0 0 0 0 0 0 0 0 0 0 0 0 0 0 0 H.size) (cwV 0 hts (gw_v (fun _ h9 => List.mem_cons_of_mem _ h9) wm_497 wm_498 wm_499 wm_385 wm_500) rfl rfl rfl (by decide +kernel) ⟨Nat.le_of_ble_eq_true rfl, Nat.le_of_ble_eq_true rfl⟩) (mx_preV (C := RX8) (T := TX8) (N := 53) (ci := 8) hKx hP hD hS hA [2, 1, 0] (by decide) rfl rfl rfl) rfl rfl hl.1 rfl (lv_room (Nat.le_of_ble_eq_true rfl)) dX8_most_263 ⟨Nat.le_of_ble_eq_true rfl, Nat.le_of_ble_eq_true rfl⟩) hP hD hS hA [2, 1, 0] [3] rfl rfl (by decide) (by decide) (fun r76 u76 H locs hq76 hP hD hS => ?_)
        replace hP : va_P (dC, dI) vwCl [(nwi, .inl (cI, 14, .inl (fun _ => 0)))] H := hP
        replace hD : va_D A [(nwi, .inl (cI, 14, .inl (fun _ => 0)))] := hD
        obtain rfl : r76 = 0 := hq76
        refine lv_istore (lv' := [(6, .int 0), (5, .int 0), (9, .int 6), (8, .int 0), (7, .int 0), (4, .int 0), (0, .ref n), (1, .int 0), (2, .int i1), (3, .int i2)]) hx hb dX8_most_266 hl (by decide) rfl (fun ls hl => ?_)
        refine lv_goto (tgt := 124) hx hb dX8_most_268 (by decide) ?_
        refine lv_iload hx hb dX8_most_124 (lv_at hl 0 rfl) ?_
        refine lv_if_eq (tgt := 271) hx hb dX8_most_126 (by decide) (fun c77 => ?_) (fun c77 => absurd c77 (by decide))
        refine lv_iload hx hb dX8_most_271 (lv_at hl 1 rfl) ?_
        have hP9 := mx_subP (wc := []) hP [] rfl
        have hD9 := hD.sub (ws' := []) [] (by decide) rfl
        exact W.iret (v := 0) hx hb hr (fun t ht hW => ⟨⟨0, (), rfl, (by first | exact Or.inl (⟨rfl, by omega⟩) | exact Or.inr (Or.inl (⟨rfl, by omega⟩)) | exact Or.inr (Or.inr (⟨rfl, by omega⟩))), by rw [ht]; exact hP9, hD9⟩, hS.F ht⟩) hS.2.2 dX8_most_273
      · have hf5 : i1.toInt < 0 ∨ 13 < i1.toInt := hf5
        refine lv_if_eq (tgt := 36) hx hb dX8_most_25 (by decide) (fun c78 => ?_) (fun c78 => absurd c78 (by decide))
        refine lv_iconst (v := (-1)) hx hb dX8_most_36 (by decide) ?_
        have hP9 := mx_subP (wc := []) hP [] rfl
        have hD9 := hD.sub (ws' := []) [] (by decide) rfl
        exact W.iret (v := (-1)) hx hb hr (fun t ht hW => ⟨⟨(-1), (), rfl, (by first | exact Or.inl (⟨rfl, by omega⟩) | exact Or.inr (Or.inl (⟨rfl, by omega⟩)) | exact Or.inr (Or.inr (⟨rfl, by omega⟩))), by rw [ht]; exact hP9, hD9⟩, hS.F ht⟩) hS.2.2 dX8_most_37
    · have hf3 : i2.toInt < (0 : Int) ∨ (1 : Int) < i2.toInt := (by have h9 := hf3; simp only [Int32.toInt_toInt64] at h9; exact h9)
      refine lv_if_ne (tgt := 20) hx hb dX8_most_14 (by decide) (fun c79 => absurd c79 (by decide)) (fun c79 => ?_)
      refine lv_bipush (v := (-2)) hx hb dX8_most_17 (by decide) ?_
      have hP9 := mx_subP (wc := []) hP [] rfl
      have hD9 := hD.sub (ws' := []) [] (by decide) rfl
      exact W.iret (v := (-2)) hx hb hr (fun t ht hW => ⟨⟨(-2), (), rfl, (by first | exact Or.inl (⟨rfl, by omega⟩) | exact Or.inr (Or.inl (⟨rfl, by omega⟩)) | exact Or.inr (Or.inr (⟨rfl, by omega⟩))), by rw [ht]; exact hP9, hD9⟩, hS.F ht⟩) hS.2.2 dX8_most_19
  · exfalso; have hf1 : (0 : Int) < 0 ∨ 999999 < (0 : Int) := hf1; omega
set_option maxHeartbeats 4000000 in
set_option maxRecDepth 100000 in
theorem c_X8_mostN (l : Launch) (dC : Nat → ClassId) (dI : Nat → Nat → Nat) (cI cZ cK : ClassId) (tS aK aV : Nat) (n : Nat) (nwi : Nat) (nco : Nat) (nqu : Nat) (nmi : Nat) (nde : Nat) (nsa : Nat) (nsm : Nat) (npa : Nat) (nac : Nat) (nam : Nat) (naw : Nat) (ncs : Nat) (nbw : Nat) (ndc : Nat) (nmk : Nat) (npo : Nat) (nta : Nat) (npl : Nat) (nmm : Nat) (ncu : Nat) (nke : Nat) (nik : Nat) (i0 : Int32) (i1 : Int32) (i2 : Int32) (sz : Nat) (hi0 : i0.toInt ≠ 0) : Ci l yX8_most (wq yX8_most cX8_most 10 (some .int)) ({ frames := 3, cells := 0, slots := 0, locals := 70 }) dC dI cI cZ cK tS aK aV [.ref n, .int i0, .int i1, .int i2] sz [(n, .inr (8, [.int 800, .int 0, .int 0, .int 0, .int 0, .int 0, .int 0, .ref nwi, .ref nco, .int 0, .ref nqu, .ref nmi, .ref nde, .ref nsa, .ref nsm, .int 0, .ref npa, .int 0, .ref nac, .ref nam, .ref naw, .int 0, .int 0, .int 0, .int 0, .int 0, .int 0, .int 0, .int 0, .int 0, .ref ncs, .ref nbw, .ref ndc, .ref nmk, .int 0, .int 0, .int 0, .int 0, .int 0, .int 0, .int 0, .ref npo, .int 0, .ref nta, .ref npl, .int 0, .int 0, .ref nmm, .ref ncu, .ref nke, .ref nik, .int 0, .int 0])), (npo, .inl (cI, 6, .inl (fun _ => 0)))] (fun (r : Int32) (_ : Unit) => (r = (-1) ∧ (0 ≤ i0.toInt ∧ i0.toInt ≤ 999999 ∧ 0 ≤ i2.toInt ∧ i2.toInt ≤ 1)) ∨ (r = (-2) ∧ (i0.toInt < 0 ∨ 999999 < i0.toInt ∨ i2.toInt < 0 ∨ 1 < i2.toInt))) (fun _ => []) := by
  refine Met.ofW (cc := cX8_most) (maxL := 10) (ret := (some .int)) (by decide) rfl ?_
  intro p e s m args below meth c s₁ B hml hv
  obtain ⟨rfl, hsz, hP, hKx, hD0⟩ := hv
  have hx := B.exec
  have hb := B.bytes
  have hr := B.returns
  have hts := atoms_spec (ws := wq yX8_most cX8_most 10 (some .int)) B.pre
  have hown : s.vm.findClass RX8 = some m.cls := findClass_of_methodNamed B.named
  have hlocks := B.notSynchronized
  subst hsz
  have hD := hD0.self (sz := s.heap.size)
  generalize hAe : va_A [(n, .inr (8, [.int 800, .int 0, .int 0, .int 0, .int 0, .int 0, .int 0, .ref nwi, .ref nco, .int 0, .ref nqu, .ref nmi, .ref nde, .ref nsa, .ref nsm, .int 0, .ref npa, .int 0, .ref nac, .ref nam, .ref naw, .int 0, .int 0, .int 0, .int 0, .int 0, .int 0, .int 0, .int 0, .int 0, .ref ncs, .ref nbw, .ref ndc, .ref nmk, .int 0, .int 0, .int 0, .int 0, .int 0, .int 0, .int 0, .ref npo, .int 0, .ref nta, .ref npl, .int 0, .int 0, .ref nmm, .ref ncu, .ref nke, .ref nik, .int 0, .int 0])), (npo, .inl (cI, 6, .inl (fun _ => 0)))] s.heap.size = A at hD hKx ⊢
  have hA : ∀ q : Nat, s.heap.size ≤ q → A q := fun q h => by rw [← hAe]; exact Or.inr h
  have hS : va_S A s.heap s.heap [] := va_S.rf
  have hP : va_P (dC, dI) vwCl [(n, .inr (8, [.int 800, .int 0, .int 0, .int 0, .int 0, .int 0, .int 0, .ref nwi, .ref nco, .int 0, .ref nqu, .ref nmi, .ref nde, .ref nsa, .ref nsm, .int 0, .ref npa, .int 0, .ref nac, .ref nam, .ref naw, .int 0, .int 0, .int 0, .int 0, .int 0, .int 0, .int 0, .int 0, .int 0, .ref ncs, .ref nbw, .ref ndc, .ref nmk, .int 0, .int 0, .int 0, .int 0, .int 0, .int 0, .int 0, .ref npo, .int 0, .ref nta, .ref npl, .int 0, .int 0, .ref nmm, .ref ncu, .ref nke, .ref nik, .int 0, .int 0])), (npo, .inl (cI, 6, .inl (fun _ => 0)))] s.heap := hP
  have hl := lv_entry ([.ref n, .int i0, .int i1, .int i2]) (n := 10) (Nat.le_of_ble_eq_true rfl)
  rw [lg_entry_eq]
  generalize (lg_sl ([.ref n, .int i0, .int i1, .int i2]) ++ List.replicate (10 - (lg_sl ([.ref n, .int i0, .int i1, .int i2])).length) Slot.unset).toArray = ls at hl ⊢
  have hl : lv_has ls 10 [(0, .ref n), (1, .int i0), (2, .int i1), (3, .int i2)] := hl
  have hK := hKx.1
  refine lv_iload_n hx hb dX8_most_0 rfl (lv_at hl 1 rfl) ?_
  refine mx_i (wr := [(n, .inr (8, [.int 800, .int 0, .int 0, .int 0, .int 0, .int 0, .int 0, .ref nwi, .ref nco, .int 0, .ref nqu, .ref nmi, .ref nde, .ref nsa, .ref nsm, .int 0, .ref npa, .int 0, .ref nac, .ref nam, .ref naw, .int 0, .int 0, .int 0, .int 0, .int 0, .int 0, .int 0, .int 0, .int 0, .ref ncs, .ref nbw, .ref ndc, .ref nmk, .int 0, .int 0, .int 0, .int 0, .int 0, .int 0, .int 0, .ref npo, .int 0, .ref nta, .ref npl, .int 0, .int 0, .ref nmm, .ref ncu, .ref nke, .ref nik, .int 0, .int 0])), (npo, .inl (cI, 6, .inl (fun _ => 0)))]) (va_runS (As := [.int i0]) (rest := []) ⟨hx, hb, hml, hown, hts⟩ (c_X8_arePortions l dC dI cI cZ cK tS aK aV i0 s.heap.size) (va_cwS 1 hts (gw_s (fun _ h9 => List.mem_cons_of_mem _ h9) wm_481 wm_482 wm_385 wm_483) rfl rfl rfl (by decide +kernel) ⟨Nat.le_of_ble_eq_true rfl, Nat.le_of_ble_eq_true rfl⟩) (mx_preS hKx hP hD hS hA [] (by decide) rfl) rfl rfl hl.1 rfl (lv_room (Nat.le_of_ble_eq_true rfl)) dX8_most_1 ⟨Nat.le_of_ble_eq_true rfl, Nat.le_of_ble_eq_true rfl⟩) hP hD hS hA [] [0, 1] rfl rfl (by decide) (by decide) (fun r1 u1 H locs hq1 hP hD hS => ?_)
  replace hP : va_P (dC, dI) vwCl [(n, .inr (8, [.int 800, .int 0, .int 0, .int 0, .int 0, .int 0, .int 0, .ref nwi, .ref nco, .int 0, .ref nqu, .ref nmi, .ref nde, .ref nsa, .ref nsm, .int 0, .ref npa, .int 0, .ref nac, .ref nam, .ref naw, .int 0, .int 0, .int 0, .int 0, .int 0, .int 0, .int 0, .int 0, .int 0, .ref ncs, .ref nbw, .ref ndc, .ref nmk, .int 0, .int 0, .int 0, .int 0, .int 0, .int 0, .int 0, .ref npo, .int 0, .ref nta, .ref npl, .int 0, .int 0, .ref nmm, .ref ncu, .ref nke, .ref nik, .int 0, .int 0])), (npo, .inl (cI, 6, .inl (fun _ => 0)))] H := hP
  replace hD : va_D A [(n, .inr (8, [.int 800, .int 0, .int 0, .int 0, .int 0, .int 0, .int 0, .ref nwi, .ref nco, .int 0, .ref nqu, .ref nmi, .ref nde, .ref nsa, .ref nsm, .int 0, .ref npa, .int 0, .ref nac, .ref nam, .ref naw, .int 0, .int 0, .int 0, .int 0, .int 0, .int 0, .int 0, .int 0, .int 0, .ref ncs, .ref nbw, .ref ndc, .ref nmk, .int 0, .int 0, .int 0, .int 0, .int 0, .int 0, .int 0, .ref npo, .int 0, .ref nta, .ref npl, .int 0, .int 0, .ref nmm, .ref ncu, .ref nke, .ref nik, .int 0, .int 0])), (npo, .inl (cI, 6, .inl (fun _ => 0)))] := hD
  rcases hq1 with ⟨rfl, hf1⟩ | ⟨rfl, hf1⟩
  · have hf1 : 0 ≤ i0.toInt ∧ i0.toInt ≤ 999999 := hf1
    refine lv_if_eq (tgt := 17) hx hb dX8_most_4 (by decide) (fun c2 => absurd c2 (by decide)) (fun c2 => ?_)
    refine lv_iload_n hx hb dX8_most_7 rfl (lv_at hl 3 rfl) ?_
    refine lv_i2l (v := i2.toInt64) hx hb dX8_most_8 rfl ?_
    refine lv_lconst (v := 0) hx hb dX8_most_9 (by decide) ?_
    refine lv_lconst (v := 1) hx hb dX8_most_10 (by decide) ?_
    refine mx_i (wr := [(n, .inr (8, [.int 800, .int 0, .int 0, .int 0, .int 0, .int 0, .int 0, .ref nwi, .ref nco, .int 0, .ref nqu, .ref nmi, .ref nde, .ref nsa, .ref nsm, .int 0, .ref npa, .int 0, .ref nac, .ref nam, .ref naw, .int 0, .int 0, .int 0, .int 0, .int 0, .int 0, .int 0, .int 0, .int 0, .ref ncs, .ref nbw, .ref ndc, .ref nmk, .int 0, .int 0, .int 0, .int 0, .int 0, .int 0, .int 0, .ref npo, .int 0, .ref nta, .ref npl, .int 0, .int 0, .ref nmm, .ref ncu, .ref nke, .ref nik, .int 0, .int 0])), (npo, .inl (cI, 6, .inl (fun _ => 0)))]) (va_runS (As := [.long (i2.toInt64), .long 0, .long 1]) (rest := []) ⟨hx, hb, hml, hown, hts⟩ (c_X8_in l dC dI cI cZ cK tS aK aV (i2.toInt64) 0 1 H.size) (va_cwS 3 hts (gw_s (fun _ h9 => List.mem_cons_of_mem _ h9) wm_383 wm_384 wm_385 wm_386) rfl rfl rfl (by decide +kernel) ⟨Nat.le_of_ble_eq_true rfl, Nat.le_of_ble_eq_true rfl⟩) (mx_preS hKx hP hD hS hA [] (by decide) rfl) rfl rfl hl.1 rfl (lv_room (Nat.le_of_ble_eq_true rfl)) dX8_most_11 ⟨Nat.le_of_ble_eq_true rfl, Nat.le_of_ble_eq_true rfl⟩) hP hD hS hA [] [0, 1] rfl rfl (by decide) (by decide) (fun r3 u3 H locs hq3 hP hD hS => ?_)
    replace hP : va_P (dC, dI) vwCl [(n, .inr (8, [.int 800, .int 0, .int 0, .int 0, .int 0, .int 0, .int 0, .ref nwi, .ref nco, .int 0, .ref nqu, .ref nmi, .ref nde, .ref nsa, .ref nsm, .int 0, .ref npa, .int 0, .ref nac, .ref nam, .ref naw, .int 0, .int 0, .int 0, .int 0, .int 0, .int 0, .int 0, .int 0, .int 0, .ref ncs, .ref nbw, .ref ndc, .ref nmk, .int 0, .int 0, .int 0, .int 0, .int 0, .int 0, .int 0, .ref npo, .int 0, .ref nta, .ref npl, .int 0, .int 0, .ref nmm, .ref ncu, .ref nke, .ref nik, .int 0, .int 0])), (npo, .inl (cI, 6, .inl (fun _ => 0)))] H := hP
    replace hD : va_D A [(n, .inr (8, [.int 800, .int 0, .int 0, .int 0, .int 0, .int 0, .int 0, .ref nwi, .ref nco, .int 0, .ref nqu, .ref nmi, .ref nde, .ref nsa, .ref nsm, .int 0, .ref npa, .int 0, .ref nac, .ref nam, .ref naw, .int 0, .int 0, .int 0, .int 0, .int 0, .int 0, .int 0, .int 0, .int 0, .ref ncs, .ref nbw, .ref ndc, .ref nmk, .int 0, .int 0, .int 0, .int 0, .int 0, .int 0, .int 0, .ref npo, .int 0, .ref nta, .ref npl, .int 0, .int 0, .ref nmm, .ref ncu, .ref nke, .ref nik, .int 0, .int 0])), (npo, .inl (cI, 6, .inl (fun _ => 0)))] := hD
    rcases hq3 with ⟨rfl, hf3⟩ | ⟨rfl, hf3⟩
    · have hf3 : (0 : Int) ≤ i2.toInt ∧ i2.toInt ≤ (1 : Int) := (by have h9 := hf3; simp only [Int32.toInt_toInt64] at h9; exact h9)
      refine lv_if_ne (tgt := 20) hx hb dX8_most_14 (by decide) (fun c4 => ?_) (fun c4 => absurd c4 (by decide))
      refine lv_aload_n hx hb dX8_most_20 rfl (lv_at hl 0 rfl) ?_
      refine lv_iload_n hx hb dX8_most_21 rfl (lv_at hl 2 rfl) ?_
      refine mx_i (wr := [(npo, .inl (cI, 6, .inl (fun _ => 0)))]) (va_runV (As := [.int i1]) (rest := []) ⟨hx, hb, hml, hown, hts⟩ (c_X8_isDayOn l dC dI cI cZ cK tS aK aV n nwi nco nqu nmi nde nsa nsm npa nac nam naw ncs nbw ndc nmk npo nta npl nmm ncu nke nik 800 0 0 0 0 0 0 0 0 0 0 0 0 0 0 0 0 0 0 0 0 0 0 0 0 0 0 0 0 0 i1 H.size) (cwV 1 hts (gw_v (fun _ h9 => List.mem_cons_of_mem _ h9) wm_489 wm_490 wm_491 wm_385 wm_492) rfl rfl rfl (by decide +kernel) ⟨Nat.le_of_ble_eq_true rfl, Nat.le_of_ble_eq_true rfl⟩) (mx_preV (C := RX8) (T := TX8) (N := 53) (ci := 8) hKx hP hD hS hA [0] (by decide) rfl rfl rfl) rfl rfl hl.1 rfl (lv_room (Nat.le_of_ble_eq_true rfl)) dX8_most_22 ⟨Nat.le_of_ble_eq_true rfl, Nat.le_of_ble_eq_true rfl⟩) hP hD hS hA [0] [1] rfl rfl (by decide) (by decide) (fun r5 u5 H locs hq5 hP hD hS => ?_)
      replace hP : va_P (dC, dI) vwCl [(npo, .inl (cI, 6, .inl (fun _ => 0))), (n, .inr (8, [.int 800, .int 0, .int 0, .int 0, .int 0, .int 0, .int 0, .ref nwi, .ref nco, .int 0, .ref nqu, .ref nmi, .ref nde, .ref nsa, .ref nsm, .int 0, .ref npa, .int 0, .ref nac, .ref nam, .ref naw, .int 0, .int 0, .int 0, .int 0, .int 0, .int 0, .int 0, .int 0, .int 0, .ref ncs, .ref nbw, .ref ndc, .ref nmk, .int 0, .int 0, .int 0, .int 0, .int 0, .int 0, .int 0, .ref npo, .int 0, .ref nta, .ref npl, .int 0, .int 0, .ref nmm, .ref ncu, .ref nke, .ref nik, .int 0, .int 0]))] H := hP
      replace hD : va_D A [(npo, .inl (cI, 6, .inl (fun _ => 0))), (n, .inr (8, [.int 800, .int 0, .int 0, .int 0, .int 0, .int 0, .int 0, .ref nwi, .ref nco, .int 0, .ref nqu, .ref nmi, .ref nde, .ref nsa, .ref nsm, .int 0, .ref npa, .int 0, .ref nac, .ref nam, .ref naw, .int 0, .int 0, .int 0, .int 0, .int 0, .int 0, .int 0, .int 0, .int 0, .ref ncs, .ref nbw, .ref ndc, .ref nmk, .int 0, .int 0, .int 0, .int 0, .int 0, .int 0, .int 0, .ref npo, .int 0, .ref nta, .ref npl, .int 0, .int 0, .ref nmm, .ref ncu, .ref nke, .ref nik, .int 0, .int 0]))] := hD
      rcases hq5 with ⟨rfl, hf5⟩ | ⟨rfl, hf5⟩
      · have hf5 : 0 ≤ i1.toInt ∧ i1.toInt ≤ 13 := hf5
        refine lv_if_eq (tgt := 36) hx hb dX8_most_25 (by decide) (fun c6 => absurd c6 (by decide)) (fun c6 => ?_)
        refine lv_aload_n hx hb dX8_most_28 rfl (lv_at hl 0 rfl) ?_
        refine lv_iload_n hx hb dX8_most_29 rfl (lv_at hl 1 rfl) ?_
        refine mx_i (wr := []) (va_runV (As := [.int i0]) (rest := []) ⟨hx, hb, hml, hown, hts⟩ (c_X8_layPortionsN l dC dI cI cZ cK tS aK aV n nwi nco nqu nmi nde nsa nsm npa nac nam naw ncs nbw ndc nmk npo nta npl nmm ncu nke nik i0 H.size (by first | omega | decide | assumption | trivial)) (cwV 1 hts (gw_v (fun _ h9 => List.mem_cons_of_mem _ h9) wm_484 wm_485 wm_486 wm_385 wm_487) rfl rfl rfl (by decide +kernel) ⟨Nat.le_of_ble_eq_true rfl, Nat.le_of_ble_eq_true rfl⟩) (mx_preV (C := RX8) (T := TX8) (N := 53) (ci := 8) hKx hP hD hS hA [1, 0] (by decide) rfl rfl rfl) rfl rfl hl.1 rfl (lv_room (Nat.le_of_ble_eq_true rfl)) dX8_most_30 ⟨Nat.le_of_ble_eq_true rfl, Nat.le_of_ble_eq_true rfl⟩) hP hD hS hA [1, 0] [] rfl rfl (by decide) (by decide) (fun r7 u7 H locs hq7 hP hD hS => ?_)
        replace hP : va_P (dC, dI) vwCl [] H := hP
        replace hD : va_D A [] := hD
        obtain rfl : r7 = 0 := hq7
        refine lv_if_ne (tgt := 38) hx hb dX8_most_33 (by decide) (fun c8 => absurd c8 (by decide)) (fun c8 => ?_)
        refine lv_iconst (v := (-1)) hx hb dX8_most_36 (by decide) ?_
        have hP9 := mx_subP (wc := []) hP [] rfl
        have hD9 := hD.sub (ws' := []) [] (by decide) rfl
        exact W.iret (v := (-1)) hx hb hr (fun t ht hW => ⟨⟨(-1), (), rfl, (by first | exact Or.inl (⟨rfl, by omega⟩) | exact Or.inr (⟨rfl, by omega⟩)), by rw [ht]; exact hP9, hD9⟩, hS.F ht⟩) hS.2.2 dX8_most_37
      · have hf5 : i1.toInt < 0 ∨ 13 < i1.toInt := hf5
        refine lv_if_eq (tgt := 36) hx hb dX8_most_25 (by decide) (fun c9 => ?_) (fun c9 => absurd c9 (by decide))
        refine lv_iconst (v := (-1)) hx hb dX8_most_36 (by decide) ?_
        have hP9 := mx_subP (wc := []) hP [] rfl
        have hD9 := hD.sub (ws' := []) [] (by decide) rfl
        exact W.iret (v := (-1)) hx hb hr (fun t ht hW => ⟨⟨(-1), (), rfl, (by first | exact Or.inl (⟨rfl, by omega⟩) | exact Or.inr (⟨rfl, by omega⟩)), by rw [ht]; exact hP9, hD9⟩, hS.F ht⟩) hS.2.2 dX8_most_37
    · have hf3 : i2.toInt < (0 : Int) ∨ (1 : Int) < i2.toInt := (by have h9 := hf3; simp only [Int32.toInt_toInt64] at h9; exact h9)
      refine lv_if_ne (tgt := 20) hx hb dX8_most_14 (by decide) (fun c10 => absurd c10 (by decide)) (fun c10 => ?_)
      refine lv_bipush (v := (-2)) hx hb dX8_most_17 (by decide) ?_
      have hP9 := mx_subP (wc := []) hP [] rfl
      have hD9 := hD.sub (ws' := []) [] (by decide) rfl
      exact W.iret (v := (-2)) hx hb hr (fun t ht hW => ⟨⟨(-2), (), rfl, (by first | exact Or.inl (⟨rfl, by omega⟩) | exact Or.inr (⟨rfl, by omega⟩)), by rw [ht]; exact hP9, hD9⟩, hS.F ht⟩) hS.2.2 dX8_most_19
  · have hf1 : i0.toInt < 0 ∨ 999999 < i0.toInt := hf1
    refine lv_if_eq (tgt := 17) hx hb dX8_most_4 (by decide) (fun c11 => ?_) (fun c11 => absurd c11 (by decide))
    refine lv_bipush (v := (-2)) hx hb dX8_most_17 (by decide) ?_
    have hP9 := mx_subP (wc := []) hP [] rfl
    have hD9 := hD.sub (ws' := []) [] (by decide) rfl
    exact W.iret (v := (-2)) hx hb hr (fun t ht hW => ⟨⟨(-2), (), rfl, (by first | exact Or.inl (⟨rfl, by omega⟩) | exact Or.inr (⟨rfl, by omega⟩)), by rw [ht]; exact hP9, hD9⟩, hS.F ht⟩) hS.2.2 dX8_most_19
set_option maxHeartbeats 4000000 in
set_option maxRecDepth 100000 in
theorem c_X8_blows0 (l : Launch) (dC : Nat → ClassId) (dI : Nat → Nat → Nat) (cI cZ cK : ClassId) (tS aK aV : Nat) (n : Nat) (nwi : Nat) (nco : Nat) (nqu : Nat) (nmi : Nat) (nde : Nat) (nsa : Nat) (nsm : Nat) (npa : Nat) (nac : Nat) (nam : Nat) (naw : Nat) (ncs : Nat) (nbw : Nat) (ndc : Nat) (nmk : Nat) (npo : Nat) (nta : Nat) (npl : Nat) (nmm : Nat) (ncu : Nat) (nke : Nat) (nik : Nat) (vleft : Int32) (vmetres : Int32) (vshut : Int32) (vtoday : Int32) (vbagged : Int32) (vwarmed : Int32) (vmeals : Int32) (vsights : Int32) (vpadMany : Int32) (vacts : Int32) (vgusty : Int32) (vleakAct : Int32) (vleakMuch : Int32) (vendOfCan : Int32) (vbadAct : Int32) (vbadWhy : Int32) (vburnt : Int32) (vboiled : Int32) (vhadLeft : Int32) (vhadToday : Int32) (vhadBagged : Int32) (vhadWarmed : Int32) (vleaves : Int32) (vdayThen : Int32) (vcoldThen : Int32) (vportionMany : Int32) (vleakMany : Int32) (vleakActs : Int32) (vkeptAt : Int32) (visWriting : Int32) (sz : Nat) : Ci l yX8_blows (wq yX8_blows cX8_blows 2 (some .int)) ({ frames := 0, cells := 0, slots := 0, locals := 0 }) dC dI cI cZ cK tS aK aV [.ref n, .int 0] sz [(n, .inr (8, [.int vleft, .int vmetres, .int vshut, .int 0, .int vtoday, .int vbagged, .int vwarmed, .ref nwi, .ref nco, .int vmeals, .ref nqu, .ref nmi, .ref nde, .ref nsa, .ref nsm, .int vsights, .ref npa, .int vpadMany, .ref nac, .ref nam, .ref naw, .int vacts, .int vgusty, .int vleakAct, .int vleakMuch, .int vendOfCan, .int vbadAct, .int vbadWhy, .int vburnt, .int vboiled, .ref ncs, .ref nbw, .ref ndc, .ref nmk, .int vhadLeft, .int vhadToday, .int vhadBagged, .int vhadWarmed, .int vleaves, .int vdayThen, .int vcoldThen, .ref npo, .int vportionMany, .ref nta, .ref npl, .int vleakMany, .int vleakActs, .ref nmm, .ref ncu, .ref nke, .ref nik, .int vkeptAt, .int visWriting]))] (fun (r : Int32) (_ : Unit) => r = 0) (fun _ => [(n, .inr (8, [.int vleft, .int vmetres, .int vshut, .int 0, .int vtoday, .int vbagged, .int vwarmed, .ref nwi, .ref nco, .int vmeals, .ref nqu, .ref nmi, .ref nde, .ref nsa, .ref nsm, .int vsights, .ref npa, .int vpadMany, .ref nac, .ref nam, .ref naw, .int vacts, .int vgusty, .int vleakAct, .int vleakMuch, .int vendOfCan, .int vbadAct, .int vbadWhy, .int vburnt, .int vboiled, .ref ncs, .ref nbw, .ref ndc, .ref nmk, .int vhadLeft, .int vhadToday, .int vhadBagged, .int vhadWarmed, .int vleaves, .int vdayThen, .int vcoldThen, .ref npo, .int vportionMany, .ref nta, .ref npl, .int vleakMany, .int vleakActs, .ref nmm, .ref ncu, .ref nke, .ref nik, .int vkeptAt, .int visWriting]))]) := by
  refine Met.ofW (cc := cX8_blows) (maxL := 2) (ret := (some .int)) (by decide) rfl ?_
  intro p e s m args below meth c s₁ B hml hv
  obtain ⟨rfl, hsz, hP, hKx, hD0⟩ := hv
  have hx := B.exec
  have hb := B.bytes
  have hr := B.returns
  have hts := atoms_spec (ws := wq yX8_blows cX8_blows 2 (some .int)) B.pre
  have hown : s.vm.findClass RX8 = some m.cls := findClass_of_methodNamed B.named
  have hlocks := B.notSynchronized
  subst hsz
  have hD := hD0.self (sz := s.heap.size)
  generalize hAe : va_A [(n, .inr (8, [.int vleft, .int vmetres, .int vshut, .int 0, .int vtoday, .int vbagged, .int vwarmed, .ref nwi, .ref nco, .int vmeals, .ref nqu, .ref nmi, .ref nde, .ref nsa, .ref nsm, .int vsights, .ref npa, .int vpadMany, .ref nac, .ref nam, .ref naw, .int vacts, .int vgusty, .int vleakAct, .int vleakMuch, .int vendOfCan, .int vbadAct, .int vbadWhy, .int vburnt, .int vboiled, .ref ncs, .ref nbw, .ref ndc, .ref nmk, .int vhadLeft, .int vhadToday, .int vhadBagged, .int vhadWarmed, .int vleaves, .int vdayThen, .int vcoldThen, .ref npo, .int vportionMany, .ref nta, .ref npl, .int vleakMany, .int vleakActs, .ref nmm, .ref ncu, .ref nke, .ref nik, .int vkeptAt, .int visWriting]))] s.heap.size = A at hD hKx ⊢
  have hA : ∀ q : Nat, s.heap.size ≤ q → A q := fun q h => by rw [← hAe]; exact Or.inr h
  have hS : va_S A s.heap s.heap [] := va_S.rf
  have hP : va_P (dC, dI) vwCl [(n, .inr (8, [.int vleft, .int vmetres, .int vshut, .int 0, .int vtoday, .int vbagged, .int vwarmed, .ref nwi, .ref nco, .int vmeals, .ref nqu, .ref nmi, .ref nde, .ref nsa, .ref nsm, .int vsights, .ref npa, .int vpadMany, .ref nac, .ref nam, .ref naw, .int vacts, .int vgusty, .int vleakAct, .int vleakMuch, .int vendOfCan, .int vbadAct, .int vbadWhy, .int vburnt, .int vboiled, .ref ncs, .ref nbw, .ref ndc, .ref nmk, .int vhadLeft, .int vhadToday, .int vhadBagged, .int vhadWarmed, .int vleaves, .int vdayThen, .int vcoldThen, .ref npo, .int vportionMany, .ref nta, .ref npl, .int vleakMany, .int vleakActs, .ref nmm, .ref ncu, .ref nke, .ref nik, .int vkeptAt, .int visWriting]))] s.heap := hP
  have hl := lv_entry ([.ref n, .int 0]) (n := 2) (Nat.le_of_ble_eq_true rfl)
  rw [lg_entry_eq]
  generalize (lg_sl ([.ref n, .int 0]) ++ List.replicate (2 - (lg_sl ([.ref n, .int 0])).length) Slot.unset).toArray = ls at hl ⊢
  have hl : lv_has ls 2 [(0, .ref n), (1, .int 0)] := hl
  have hK := hKx.1
  have hin8 := fun w9 h9 => List.mem_cons_of_mem (Cond.code yX8_blows cX8_blows 2 (some .int)) (inlX8 w9 h9)
  have hw0 := hts (.fieldLink RX8 98 "OneCanModel" "shield" "I") (List.mem_cons_of_mem _ wm_392)
  refine lv_iload_n hx hb dX8_blows_0 rfl (lv_at hl 1 rfl) ?_
  refine lv_iconst (v := 2) hx hb dX8_blows_1 (by decide) ?_
  refine lv_aload_n hx hb dX8_blows_2 rfl (lv_at hl 0 rfl) ?_
  refine va_get (D := (dC, dI)) (ci := 8) (v := .int 0) (C := RX8) (T := TX8) (N := 53) hx hb hts hin8 hown hK hP 0 rfl rfl 3 (by decide) hw0 (fun _ h9 => h9) rfl dX8_blows_3 ?_
  refine lv_imul hx hb dX8_blows_6 ?_
  refine lv_topi (fun x1 e1 => ?_)
  obtain rfl : x1 = 0 := e1.trans (by decide)
  refine lv_icmp_le (tgt := 21) hx hb dX8_blows_7 (by decide) (fun c2 => ?_) (fun c2 => absurd c2 (by decide))
  refine lv_iconst (v := 0) hx hb dX8_blows_21 (by decide) ?_
  have hP9 := mx_subP (wc := [(n, .inr (8, [.int vleft, .int vmetres, .int vshut, .int 0, .int vtoday, .int vbagged, .int vwarmed, .ref nwi, .ref nco, .int vmeals, .ref nqu, .ref nmi, .ref nde, .ref nsa, .ref nsm, .int vsights, .ref npa, .int vpadMany, .ref nac, .ref nam, .ref naw, .int vacts, .int vgusty, .int vleakAct, .int vleakMuch, .int vendOfCan, .int vbadAct, .int vbadWhy, .int vburnt, .int vboiled, .ref ncs, .ref nbw, .ref ndc, .ref nmk, .int vhadLeft, .int vhadToday, .int vhadBagged, .int vhadWarmed, .int vleaves, .int vdayThen, .int vcoldThen, .ref npo, .int vportionMany, .ref nta, .ref npl, .int vleakMany, .int vleakActs, .ref nmm, .ref ncu, .ref nke, .ref nik, .int vkeptAt, .int visWriting]))]) hP [0] rfl
  have hD9 := hD.sub (ws' := [(n, .inr (8, [.int vleft, .int vmetres, .int vshut, .int 0, .int vtoday, .int vbagged, .int vwarmed, .ref nwi, .ref nco, .int vmeals, .ref nqu, .ref nmi, .ref nde, .ref nsa, .ref nsm, .int vsights, .ref npa, .int vpadMany, .ref nac, .ref nam, .ref naw, .int vacts, .int vgusty, .int vleakAct, .int vleakMuch, .int vendOfCan, .int vbadAct, .int vbadWhy, .int vburnt, .int vboiled, .ref ncs, .ref nbw, .ref ndc, .ref nmk, .int vhadLeft, .int vhadToday, .int vhadBagged, .int vhadWarmed, .int vleaves, .int vdayThen, .int vcoldThen, .ref npo, .int vportionMany, .ref nta, .ref npl, .int vleakMany, .int vleakActs, .ref nmm, .ref ncu, .ref nke, .ref nik, .int vkeptAt, .int visWriting]))]) [0] (by decide) rfl
  exact W.iret (v := 0) hx hb hr (fun t ht hW => ⟨⟨0, (), rfl, rfl, by rw [ht]; exact hP9, hD9⟩, hS.F ht⟩) hS.2.2 dX8_blows_22
set_option maxHeartbeats 4000000 in
set_option maxRecDepth 100000 in
theorem c_X8_layPlaces (l : Launch) (dC : Nat → ClassId) (dI : Nat → Nat → Nat) (cI cZ cK : ClassId) (tS aK aV : Nat) (n : Nat) (nwi : Nat) (nco : Nat) (nqu : Nat) (nmi : Nat) (nde : Nat) (nsa : Nat) (nsm : Nat) (npa : Nat) (nac : Nat) (nam : Nat) (naw : Nat) (ncs : Nat) (nbw : Nat) (ndc : Nat) (nmk : Nat) (npo : Nat) (nta : Nat) (npl : Nat) (nmm : Nat) (ncu : Nat) (nke : Nat) (nik : Nat) (vleft : Int32) (vmetres : Int32) (vshut : Int32) (vbagged : Int32) (vwarmed : Int32) (vmeals : Int32) (vsights : Int32) (vpadMany : Int32) (vacts : Int32) (vgusty : Int32) (vleakAct : Int32) (vleakMuch : Int32) (vendOfCan : Int32) (vbadAct : Int32) (vbadWhy : Int32) (vburnt : Int32) (vboiled : Int32) (vhadLeft : Int32) (vhadToday : Int32) (vhadBagged : Int32) (vhadWarmed : Int32) (vleaves : Int32) (vdayThen : Int32) (vcoldThen : Int32) (vportionMany : Int32) (vleakMany : Int32) (vleakActs : Int32) (vkeptAt : Int32) (visWriting : Int32) (i0 : Int32) (sz : Nat) (hi0 : 0 ≤ i0.toInt ∧ i0.toInt ≤ 13) : Ci l yX8_layPlaces (wq yX8_layPlaces cX8_layPlaces 5 (some .int)) ({ frames := 1, cells := 0, slots := 0, locals := 21 }) dC dI cI cZ cK tS aK aV [.ref n, .int i0] sz [(n, .inr (8, [.int vleft, .int vmetres, .int vshut, .int 0, .int 0, .int vbagged, .int vwarmed, .ref nwi, .ref nco, .int vmeals, .ref nqu, .ref nmi, .ref nde, .ref nsa, .ref nsm, .int vsights, .ref npa, .int vpadMany, .ref nac, .ref nam, .ref naw, .int vacts, .int vgusty, .int vleakAct, .int vleakMuch, .int vendOfCan, .int vbadAct, .int vbadWhy, .int vburnt, .int vboiled, .ref ncs, .ref nbw, .ref ndc, .ref nmk, .int vhadLeft, .int vhadToday, .int vhadBagged, .int vhadWarmed, .int vleaves, .int vdayThen, .int vcoldThen, .ref npo, .int vportionMany, .ref nta, .ref npl, .int vleakMany, .int vleakActs, .ref nmm, .ref ncu, .ref nke, .ref nik, .int vkeptAt, .int visWriting])), (nwi, .inl (cI, 14, .inl (fun _ => 0))), (npl, .inl (cI, 28, .inl (fun _ => 0)))] (fun (r : Int32) (_ : Unit) => (0 ≤ r.toInt ∧ r.toInt ≤ 28)) (fun _ => [(n, .inr (8, [.int vleft, .int vmetres, .int vshut, .int 0, .int 0, .int vbagged, .int vwarmed, .ref nwi, .ref nco, .int vmeals, .ref nqu, .ref nmi, .ref nde, .ref nsa, .ref nsm, .int vsights, .ref npa, .int vpadMany, .ref nac, .ref nam, .ref naw, .int vacts, .int vgusty, .int vleakAct, .int vleakMuch, .int vendOfCan, .int vbadAct, .int vbadWhy, .int vburnt, .int vboiled, .ref ncs, .ref nbw, .ref ndc, .ref nmk, .int vhadLeft, .int vhadToday, .int vhadBagged, .int vhadWarmed, .int vleaves, .int vdayThen, .int vcoldThen, .ref npo, .int vportionMany, .ref nta, .ref npl, .int vleakMany, .int vleakActs, .ref nmm, .ref ncu, .ref nke, .ref nik, .int vkeptAt, .int visWriting])), (nwi, .inl (cI, 14, .inl (fun _ => 0)))]) := by
  refine Met.ofW (cc := cX8_layPlaces) (maxL := 5) (ret := (some .int)) (by decide) rfl ?_
  intro p e s m args below meth c s₁ B hml hv
  obtain ⟨rfl, hsz, hP, hKx, hD0⟩ := hv
  have hx := B.exec
  have hb := B.bytes
  have hr := B.returns
  have hts := atoms_spec (ws := wq yX8_layPlaces cX8_layPlaces 5 (some .int)) B.pre
  have hown : s.vm.findClass RX8 = some m.cls := findClass_of_methodNamed B.named
  have hlocks := B.notSynchronized
  subst hsz
  have hD := hD0.self (sz := s.heap.size)
  generalize hAe : va_A [(n, .inr (8, [.int vleft, .int vmetres, .int vshut, .int 0, .int 0, .int vbagged, .int vwarmed, .ref nwi, .ref nco, .int vmeals, .ref nqu, .ref nmi, .ref nde, .ref nsa, .ref nsm, .int vsights, .ref npa, .int vpadMany, .ref nac, .ref nam, .ref naw, .int vacts, .int vgusty, .int vleakAct, .int vleakMuch, .int vendOfCan, .int vbadAct, .int vbadWhy, .int vburnt, .int vboiled, .ref ncs, .ref nbw, .ref ndc, .ref nmk, .int vhadLeft, .int vhadToday, .int vhadBagged, .int vhadWarmed, .int vleaves, .int vdayThen, .int vcoldThen, .ref npo, .int vportionMany, .ref nta, .ref npl, .int vleakMany, .int vleakActs, .ref nmm, .ref ncu, .ref nke, .ref nik, .int vkeptAt, .int visWriting])), (nwi, .inl (cI, 14, .inl (fun _ => 0))), (npl, .inl (cI, 28, .inl (fun _ => 0)))] s.heap.size = A at hD hKx ⊢
  have hA : ∀ q : Nat, s.heap.size ≤ q → A q := fun q h => by rw [← hAe]; exact Or.inr h
  have hS : va_S A s.heap s.heap [] := va_S.rf
  have hP : va_P (dC, dI) vwCl [(n, .inr (8, [.int vleft, .int vmetres, .int vshut, .int 0, .int 0, .int vbagged, .int vwarmed, .ref nwi, .ref nco, .int vmeals, .ref nqu, .ref nmi, .ref nde, .ref nsa, .ref nsm, .int vsights, .ref npa, .int vpadMany, .ref nac, .ref nam, .ref naw, .int vacts, .int vgusty, .int vleakAct, .int vleakMuch, .int vendOfCan, .int vbadAct, .int vbadWhy, .int vburnt, .int vboiled, .ref ncs, .ref nbw, .ref ndc, .ref nmk, .int vhadLeft, .int vhadToday, .int vhadBagged, .int vhadWarmed, .int vleaves, .int vdayThen, .int vcoldThen, .ref npo, .int vportionMany, .ref nta, .ref npl, .int vleakMany, .int vleakActs, .ref nmm, .ref ncu, .ref nke, .ref nik, .int vkeptAt, .int visWriting])), (nwi, .inl (cI, 14, .inl (fun _ => 0))), (npl, .inl (cI, 28, .inl (fun _ => 0)))] s.heap := hP
  have hl := lv_entry ([.ref n, .int i0]) (n := 5) (Nat.le_of_ble_eq_true rfl)
  rw [lg_entry_eq]
  generalize (lg_sl ([.ref n, .int i0]) ++ List.replicate (5 - (lg_sl ([.ref n, .int i0])).length) Slot.unset).toArray = ls at hl ⊢
  have hl : lv_has ls 5 [(0, .ref n), (1, .int i0)] := hl
  have hK := hKx.1
  have hin8 := fun w9 h9 => List.mem_cons_of_mem (Cond.code yX8_layPlaces cX8_layPlaces 5 (some .int)) (inlX8 w9 h9)
  have hw0 := hts (.fieldLink RX8 101 "OneCanModel" "today" "I") (List.mem_cons_of_mem _ wm_393)
  have hw1 := hts (.fieldLink RX8 7 "OneCanModel" "wind" "[I") (List.mem_cons_of_mem _ wm_407)
  have hw2 := hts (.fieldLink RX8 61 "OneCanModel" "places" "[I") (List.mem_cons_of_mem _ wm_505)
  refine lv_iconst (v := 0) hx hb dX8_layPlaces_0 (by decide) ?_
  refine lv_istore_n (lv' := [(2, .int 0), (0, .ref n), (1, .int i0)]) hx hb dX8_layPlaces_1 rfl hl (by decide) rfl (fun ls hl => ?_)
  refine lv_iconst (v := 0) hx hb dX8_layPlaces_2 (by decide) ?_
  refine lv_istore_n (lv' := [(3, .int 0), (2, .int 0), (0, .ref n), (1, .int i0)]) hx hb dX8_layPlaces_3 rfl hl (by decide) rfl (fun ls hl => ?_)
  refine lv_iload_n hx hb dX8_layPlaces_4 rfl (lv_at hl 0 rfl) ?_
  refine lv_iconst (v := 4) hx hb dX8_layPlaces_5 (by decide) ?_
  refine lv_icmp_gt (tgt := 67) hx hb dX8_layPlaces_6 (by decide) (fun c1 => absurd c1 (by decide)) (fun c1 => ?_)
  refine lv_aload_n hx hb dX8_layPlaces_9 rfl (lv_at hl 2 rfl) ?_
  refine va_get (D := (dC, dI)) (ci := 8) (v := .int 0) (C := RX8) (T := TX8) (N := 53) hx hb hts hin8 hown hK hP 0 rfl rfl 4 (by decide) hw0 (fun _ h9 => h9) rfl dX8_layPlaces_10 ?_
  refine lv_istore (lv' := [(4, .int 0), (3, .int 0), (2, .int 0), (0, .ref n), (1, .int i0)]) hx hb dX8_layPlaces_13 hl (by decide) rfl (fun ls hl => ?_)
  refine lv_iload hx hb dX8_layPlaces_15 (lv_at hl 0 rfl) ?_
  refine lv_iload_n hx hb dX8_layPlaces_17 rfl (lv_at hl 4 rfl) ?_
  refine lv_icmp_gt (tgt := 61) hx hb dX8_layPlaces_18 (by decide) (fun c2 => by exfalso; have t2 : i0.toInt < (0 : Int) := (tlt c2); omega) (fun c2 => ?_)
  refine lv_aload_n hx hb dX8_layPlaces_21 rfl (lv_at hl 3 rfl) ?_
  refine lv_aload_n hx hb dX8_layPlaces_22 rfl (lv_at hl 3 rfl) ?_
  refine va_get (D := (dC, dI)) (ci := 8) (v := .ref nwi) (C := RX8) (T := TX8) (N := 53) hx hb hts hin8 hown hK hP 0 rfl rfl 7 (by decide) hw1 (fun _ h9 => h9) rfl dX8_layPlaces_23 ?_
  refine lv_iload hx hb dX8_layPlaces_26 (lv_at hl 0 rfl) ?_
  refine va_iald hx hb hK hP 1 0 rfl rfl (vin (by decide) (by decide)) dX8_layPlaces_28 ?_
  refine lv_topi (fun x3 e3 => ?_)
  obtain rfl : x3 = 0 := e3.trans (by first | rfl | decide)
  refine mx_i (wr := [(nwi, .inl (cI, 14, .inl (fun _ => 0))), (npl, .inl (cI, 28, .inl (fun _ => 0)))]) (va_runV (As := [.int 0]) (rest := []) ⟨hx, hb, hml, hown, hts⟩ (c_X8_blows0 l dC dI cI cZ cK tS aK aV n nwi nco nqu nmi nde nsa nsm npa nac nam naw ncs nbw ndc nmk npo nta npl nmm ncu nke nik vleft vmetres vshut 0 vbagged vwarmed vmeals vsights vpadMany vacts vgusty vleakAct vleakMuch vendOfCan vbadAct vbadWhy vburnt vboiled vhadLeft vhadToday vhadBagged vhadWarmed vleaves vdayThen vcoldThen vportionMany vleakMany vleakActs vkeptAt visWriting s.heap.size) (cwV 1 hts (gw_v (fun _ h9 => List.mem_cons_of_mem _ h9) wm_501 wm_502 wm_503 wm_385 wm_504) rfl rfl rfl (by decide +kernel) ⟨Nat.le_of_ble_eq_true rfl, Nat.le_of_ble_eq_true rfl⟩) (mx_preV (C := RX8) (T := TX8) (N := 53) (ci := 8) hKx hP hD hS hA [0] (by decide) rfl rfl rfl) rfl rfl hl.1 rfl (lv_room (Nat.le_of_ble_eq_true rfl)) dX8_layPlaces_29 ⟨Nat.le_of_ble_eq_true rfl, Nat.le_of_ble_eq_true rfl⟩) hP hD hS hA [0] [1, 2] rfl rfl (by decide) (by decide) (fun r4 u4 H locs hq4 hP hD hS => ?_)
  replace hP : va_P (dC, dI) vwCl [(nwi, .inl (cI, 14, .inl (fun _ => 0))), (npl, .inl (cI, 28, .inl (fun _ => 0))), (n, .inr (8, [.int vleft, .int vmetres, .int vshut, .int 0, .int 0, .int vbagged, .int vwarmed, .ref nwi, .ref nco, .int vmeals, .ref nqu, .ref nmi, .ref nde, .ref nsa, .ref nsm, .int vsights, .ref npa, .int vpadMany, .ref nac, .ref nam, .ref naw, .int vacts, .int vgusty, .int vleakAct, .int vleakMuch, .int vendOfCan, .int vbadAct, .int vbadWhy, .int vburnt, .int vboiled, .ref ncs, .ref nbw, .ref ndc, .ref nmk, .int vhadLeft, .int vhadToday, .int vhadBagged, .int vhadWarmed, .int vleaves, .int vdayThen, .int vcoldThen, .ref npo, .int vportionMany, .ref nta, .ref npl, .int vleakMany, .int vleakActs, .ref nmm, .ref ncu, .ref nke, .ref nik, .int vkeptAt, .int visWriting]))] H := hP
  replace hD : va_D A [(nwi, .inl (cI, 14, .inl (fun _ => 0))), (npl, .inl (cI, 28, .inl (fun _ => 0))), (n, .inr (8, [.int vleft, .int vmetres, .int vshut, .int 0, .int 0, .int vbagged, .int vwarmed, .ref nwi, .ref nco, .int vmeals, .ref nqu, .ref nmi, .ref nde, .ref nsa, .ref nsm, .int vsights, .ref npa, .int vpadMany, .ref nac, .ref nam, .ref naw, .int vacts, .int vgusty, .int vleakAct, .int vleakMuch, .int vendOfCan, .int vbadAct, .int vbadWhy, .int vburnt, .int vboiled, .ref ncs, .ref nbw, .ref ndc, .ref nmk, .int vhadLeft, .int vhadToday, .int vhadBagged, .int vhadWarmed, .int vleaves, .int vdayThen, .int vcoldThen, .ref npo, .int vportionMany, .ref nta, .ref npl, .int vleakMany, .int vleakActs, .ref nmm, .ref ncu, .ref nke, .ref nik, .int vkeptAt, .int visWriting]))] := hD
  obtain rfl : r4 = 0 := hq4
  refine lv_iload_n hx hb dX8_layPlaces_32 rfl (lv_at hl 1 rfl) ?_
  refine lv_icmp_ne (tgt := 55) hx hb dX8_layPlaces_33 (by decide) (fun c5 => absurd c5 (by decide)) (fun c5 => ?_)
  refine lv_aload_n hx hb dX8_layPlaces_36 rfl (lv_at hl 3 rfl) ?_
  refine va_get (D := (dC, dI)) (ci := 8) (v := .ref npl) (C := RX8) (T := TX8) (N := 53) hx hb hts hin8 hown hK hP 2 rfl rfl 44 (by decide) hw2 (fun _ h9 => h9) rfl dX8_layPlaces_37 ?_
  refine lv_iload_n hx hb dX8_layPlaces_40 rfl (lv_at hl 2 rfl) ?_
  refine lv_iload_n hx hb dX8_layPlaces_41 rfl (lv_at hl 1 rfl) ?_
  refine va_iast hx hb hK hP hD hS 1 0 rfl rfl (vin (by decide) (by decide)) dX8_layPlaces_42 (fun H locs hP hD hS => ?_)
  replace hP : va_P (dC, dI) vwCl [(nwi, .inl (cI, 14, .inl (fun _ => 0))), (npl, .inl (cI, 28, .inl (upd (fun _ => 0) 0 0))), (n, .inr (8, [.int vleft, .int vmetres, .int vshut, .int 0, .int 0, .int vbagged, .int vwarmed, .ref nwi, .ref nco, .int vmeals, .ref nqu, .ref nmi, .ref nde, .ref nsa, .ref nsm, .int vsights, .ref npa, .int vpadMany, .ref nac, .ref nam, .ref naw, .int vacts, .int vgusty, .int vleakAct, .int vleakMuch, .int vendOfCan, .int vbadAct, .int vbadWhy, .int vburnt, .int vboiled, .ref ncs, .ref nbw, .ref ndc, .ref nmk, .int vhadLeft, .int vhadToday, .int vhadBagged, .int vhadWarmed, .int vleaves, .int vdayThen, .int vcoldThen, .ref npo, .int vportionMany, .ref nta, .ref npl, .int vleakMany, .int vleakActs, .ref nmm, .ref ncu, .ref nke, .ref nik, .int vkeptAt, .int visWriting]))] H := hP
  replace hD : va_D A [(nwi, .inl (cI, 14, .inl (fun _ => 0))), (npl, .inl (cI, 28, .inl (upd (fun _ => 0) 0 0))), (n, .inr (8, [.int vleft, .int vmetres, .int vshut, .int 0, .int 0, .int vbagged, .int vwarmed, .ref nwi, .ref nco, .int vmeals, .ref nqu, .ref nmi, .ref nde, .ref nsa, .ref nsm, .int vsights, .ref npa, .int vpadMany, .ref nac, .ref nam, .ref naw, .int vacts, .int vgusty, .int vleakAct, .int vleakMuch, .int vendOfCan, .int vbadAct, .int vbadWhy, .int vburnt, .int vboiled, .ref ncs, .ref nbw, .ref ndc, .ref nmk, .int vhadLeft, .int vhadToday, .int vhadBagged, .int vhadWarmed, .int vleaves, .int vdayThen, .int vcoldThen, .ref npo, .int vportionMany, .ref nta, .ref npl, .int vleakMany, .int vleakActs, .ref nmm, .ref ncu, .ref nke, .ref nik, .int vkeptAt, .int visWriting]))] := hD
  refine lv_aload_n hx hb dX8_layPlaces_43 rfl (lv_at hl 3 rfl) ?_
  refine va_get (D := (dC, dI)) (ci := 8) (v := .ref npl) (C := RX8) (T := TX8) (N := 53) hx hb hts hin8 hown hK hP 2 rfl rfl 44 (by decide) hw2 (fun _ h9 => h9) rfl dX8_layPlaces_44 ?_
  refine lv_iload_n hx hb dX8_layPlaces_47 rfl (lv_at hl 2 rfl) ?_
  refine lv_iconst (v := 1) hx hb dX8_layPlaces_48 (by decide) ?_
  refine lv_iadd hx hb dX8_layPlaces_49 ?_
  refine lv_topi (fun x6 e6 => ?_)
  obtain rfl : x6 = 1 := e6.trans (by decide)
  refine lv_iload_n hx hb dX8_layPlaces_50 rfl (lv_at hl 1 rfl) ?_
  refine va_iast hx hb hK hP hD hS 1 0 rfl rfl (vin (by decide) (by decide)) dX8_layPlaces_51 (fun H locs hP hD hS => ?_)
  replace hP : va_P (dC, dI) vwCl [(nwi, .inl (cI, 14, .inl (fun _ => 0))), (npl, .inl (cI, 28, .inl (upd (upd (fun _ => 0) 0 0) 1 0))), (n, .inr (8, [.int vleft, .int vmetres, .int vshut, .int 0, .int 0, .int vbagged, .int vwarmed, .ref nwi, .ref nco, .int vmeals, .ref nqu, .ref nmi, .ref nde, .ref nsa, .ref nsm, .int vsights, .ref npa, .int vpadMany, .ref nac, .ref nam, .ref naw, .int vacts, .int vgusty, .int vleakAct, .int vleakMuch, .int vendOfCan, .int vbadAct, .int vbadWhy, .int vburnt, .int vboiled, .ref ncs, .ref nbw, .ref ndc, .ref nmk, .int vhadLeft, .int vhadToday, .int vhadBagged, .int vhadWarmed, .int vleaves, .int vdayThen, .int vcoldThen, .ref npo, .int vportionMany, .ref nta, .ref npl, .int vleakMany, .int vleakActs, .ref nmm, .ref ncu, .ref nke, .ref nik, .int vkeptAt, .int visWriting]))] H := hP
  replace hD : va_D A [(nwi, .inl (cI, 14, .inl (fun _ => 0))), (npl, .inl (cI, 28, .inl (upd (upd (fun _ => 0) 0 0) 1 0))), (n, .inr (8, [.int vleft, .int vmetres, .int vshut, .int 0, .int 0, .int vbagged, .int vwarmed, .ref nwi, .ref nco, .int vmeals, .ref nqu, .ref nmi, .ref nde, .ref nsa, .ref nsm, .int vsights, .ref npa, .int vpadMany, .ref nac, .ref nam, .ref naw, .int vacts, .int vgusty, .int vleakAct, .int vleakMuch, .int vendOfCan, .int vbadAct, .int vbadWhy, .int vburnt, .int vboiled, .ref ncs, .ref nbw, .ref ndc, .ref nmk, .int vhadLeft, .int vhadToday, .int vhadBagged, .int vhadWarmed, .int vleaves, .int vdayThen, .int vcoldThen, .ref npo, .int vportionMany, .ref nta, .ref npl, .int vleakMany, .int vleakActs, .ref nmm, .ref ncu, .ref nke, .ref nik, .int vkeptAt, .int visWriting]))] := hD
  refine lv_iinc (v := 2) (lv' := [(2, .int 2), (4, .int 0), (3, .int 0), (0, .ref n), (1, .int i0)]) hx hb dX8_layPlaces_52 hl (k := 2) rfl (by decide) (by decide) rfl (fun ls hl => ?_)
  refine lv_iinc (v := 1) (lv' := [(4, .int 1), (2, .int 2), (3, .int 0), (0, .ref n), (1, .int i0)]) hx hb dX8_layPlaces_55 hl (k := 1) rfl (by decide) (by decide) rfl (fun ls hl => ?_)
  refine lv_goto (tgt := 15) hx hb dX8_layPlaces_58 (by decide) ?_
  have z8 : (2 : Int32).toInt = 2 := rfl
  have z9 : (1 : Int32).toInt = 1 := rfl
  have hl0 := hl
  clear hl
  have hP0 := hP
  clear hP
  have hD0 := hD
  clear hD
  obtain ⟨y2, y4, fp, ex, hl, hP, hD⟩ : ∃ (y2 y4 : Int32) (fp : Nat → Int32), (1 ≤ y4.toInt ∧ y4.toInt ≤ i0.toInt + 1 ∧ y2.toInt = 2 * y4.toInt) ∧ lv_has ls 5 [(4, .int y4), (2, .int y2), (3, .int 0), (0, .ref n), (1, .int i0)] ∧ va_P (dC, dI) vwCl [(nwi, .inl (cI, 14, .inl (fun _ => 0))), (npl, .inl (cI, 28, .inl fp)), (n, .inr (8, [.int vleft, .int vmetres, .int vshut, .int 0, .int 0, .int vbagged, .int vwarmed, .ref nwi, .ref nco, .int vmeals, .ref nqu, .ref nmi, .ref nde, .ref nsa, .ref nsm, .int vsights, .ref npa, .int vpadMany, .ref nac, .ref nam, .ref naw, .int vacts, .int vgusty, .int vleakAct, .int vleakMuch, .int vendOfCan, .int vbadAct, .int vbadWhy, .int vburnt, .int vboiled, .ref ncs, .ref nbw, .ref ndc, .ref nmk, .int vhadLeft, .int vhadToday, .int vhadBagged, .int vhadWarmed, .int vleaves, .int vdayThen, .int vcoldThen, .ref npo, .int vportionMany, .ref nta, .ref npl, .int vleakMany, .int vleakActs, .ref nmm, .ref ncu, .ref nke, .ref nik, .int vkeptAt, .int visWriting]))] H ∧ va_D A [(nwi, .inl (cI, 14, .inl (fun _ => 0))), (npl, .inl (cI, 28, .inl fp)), (n, .inr (8, [.int vleft, .int vmetres, .int vshut, .int 0, .int 0, .int vbagged, .int vwarmed, .ref nwi, .ref nco, .int vmeals, .ref nqu, .ref nmi, .ref nde, .ref nsa, .ref nsm, .int vsights, .ref npa, .int vpadMany, .ref nac, .ref nam, .ref naw, .int vacts, .int vgusty, .int vleakAct, .int vleakMuch, .int vendOfCan, .int vbadAct, .int vbadWhy, .int vburnt, .int vboiled, .ref ncs, .ref nbw, .ref ndc, .ref nmk, .int vhadLeft, .int vhadToday, .int vhadBagged, .int vhadWarmed, .int vleaves, .int vdayThen, .int vcoldThen, .ref npo, .int vportionMany, .ref nta, .ref npl, .int vleakMany, .int vleakActs, .ref nmm, .ref ncu, .ref nke, .ref nik, .int vkeptAt, .int visWriting]))] := ⟨2, 1, _, by omega, hl0, hP0, hD0⟩
  clear hl0 hP0 hD0
  obtain ⟨n7, hn⟩ : ∃ n : Nat, (n : Int) = i0.toInt + 1 - y4.toInt := ⟨(i0.toInt + 1 - y4.toInt).toNat, by omega⟩
  induction n7 generalizing y2 y4 fp ls H locs with
  | zero =>
    skip
    refine lv_iload hx hb dX8_layPlaces_15 (lv_at hl 0 rfl) ?_
    refine lv_iload_n hx hb dX8_layPlaces_17 rfl (lv_at hl 4 rfl) ?_
    refine lv_icmp_gt (tgt := 61) hx hb dX8_layPlaces_18 (by decide) (fun c10 => ?_) (fun c10 => by exfalso; have t10 : y4.toInt ≤ i0.toInt := (tnlt c10); omega)
    refine lv_iinc (v := 1) (lv' := [(3, .int 1), (4, .int y4), (2, .int y2), (0, .ref n), (1, .int i0)]) hx hb dX8_layPlaces_61 hl (k := 2) rfl (by decide) (by decide) rfl (fun ls hl => ?_)
    refine lv_goto (tgt := 4) hx hb dX8_layPlaces_64 (by decide) ?_
    refine lv_iload_n hx hb dX8_layPlaces_4 rfl (lv_at hl 0 rfl) ?_
    refine lv_iconst (v := 4) hx hb dX8_layPlaces_5 (by decide) ?_
    refine lv_icmp_gt (tgt := 67) hx hb dX8_layPlaces_6 (by decide) (fun c11 => absurd c11 (by decide)) (fun c11 => ?_)
    refine lv_aload_n hx hb dX8_layPlaces_9 rfl (lv_at hl 3 rfl) ?_
    refine va_get (D := (dC, dI)) (ci := 8) (v := .int 0) (C := RX8) (T := TX8) (N := 53) hx hb hts hin8 hown hK hP 2 rfl rfl 4 (by decide) hw0 (fun _ h9 => h9) rfl dX8_layPlaces_10 ?_
    refine lv_istore (lv' := [(4, .int 0), (3, .int 1), (2, .int y2), (0, .ref n), (1, .int i0)]) hx hb dX8_layPlaces_13 hl (by decide) rfl (fun ls hl => ?_)
    have z13 : (0 : Int32).toInt = 0 := rfl
    have hl0 := hl
    clear hl
    have hP0 := hP
    clear hP
    have hD0 := hD
    clear hD
    obtain ⟨y5, ex, hl, hP, hD⟩ : ∃ (y5 : Int32), (0 ≤ y5.toInt ∧ y5.toInt ≤ i0.toInt + 1) ∧ lv_has ls 5 [(4, .int y5), (3, .int 1), (2, .int y2), (0, .ref n), (1, .int i0)] ∧ va_P (dC, dI) vwCl [(nwi, .inl (cI, 14, .inl (fun _ => 0))), (npl, .inl (cI, 28, .inl fp)), (n, .inr (8, [.int vleft, .int vmetres, .int vshut, .int 0, .int 0, .int vbagged, .int vwarmed, .ref nwi, .ref nco, .int vmeals, .ref nqu, .ref nmi, .ref nde, .ref nsa, .ref nsm, .int vsights, .ref npa, .int vpadMany, .ref nac, .ref nam, .ref naw, .int vacts, .int vgusty, .int vleakAct, .int vleakMuch, .int vendOfCan, .int vbadAct, .int vbadWhy, .int vburnt, .int vboiled, .ref ncs, .ref nbw, .ref ndc, .ref nmk, .int vhadLeft, .int vhadToday, .int vhadBagged, .int vhadWarmed, .int vleaves, .int vdayThen, .int vcoldThen, .ref npo, .int vportionMany, .ref nta, .ref npl, .int vleakMany, .int vleakActs, .ref nmm, .ref ncu, .ref nke, .ref nik, .int vkeptAt, .int visWriting]))] H ∧ va_D A [(nwi, .inl (cI, 14, .inl (fun _ => 0))), (npl, .inl (cI, 28, .inl fp)), (n, .inr (8, [.int vleft, .int vmetres, .int vshut, .int 0, .int 0, .int vbagged, .int vwarmed, .ref nwi, .ref nco, .int vmeals, .ref nqu, .ref nmi, .ref nde, .ref nsa, .ref nsm, .int vsights, .ref npa, .int vpadMany, .ref nac, .ref nam, .ref naw, .int vacts, .int vgusty, .int vleakAct, .int vleakMuch, .int vendOfCan, .int vbadAct, .int vbadWhy, .int vburnt, .int vboiled, .ref ncs, .ref nbw, .ref ndc, .ref nmk, .int vhadLeft, .int vhadToday, .int vhadBagged, .int vhadWarmed, .int vleaves, .int vdayThen, .int vcoldThen, .ref npo, .int vportionMany, .ref nta, .ref npl, .int vleakMany, .int vleakActs, .ref nmm, .ref ncu, .ref nke, .ref nik, .int vkeptAt, .int visWriting]))] := ⟨0, by omega, hl0, hP0, hD0⟩
    clear hl0 hP0 hD0
    obtain ⟨n12, hn⟩ : ∃ n : Nat, (n : Int) = i0.toInt + 1 - y5.toInt := ⟨(i0.toInt + 1 - y5.toInt).toNat, by omega⟩
    induction n12 generalizing y5  ls H locs with
    | zero =>
      skip
      refine lv_iload hx hb dX8_layPlaces_15 (lv_at hl 0 rfl) ?_
      refine lv_iload_n hx hb dX8_layPlaces_17 rfl (lv_at hl 4 rfl) ?_
      refine lv_icmp_gt (tgt := 61) hx hb dX8_layPlaces_18 (by decide) (fun c14 => ?_) (fun c14 => by exfalso; have t14 : y5.toInt ≤ i0.toInt := (tnlt c14); omega)
      refine lv_iinc (v := 2) (lv' := [(3, .int 2), (4, .int y5), (2, .int y2), (0, .ref n), (1, .int i0)]) hx hb dX8_layPlaces_61 hl (k := 1) rfl (by decide) (by decide) rfl (fun ls hl => ?_)
      refine lv_goto (tgt := 4) hx hb dX8_layPlaces_64 (by decide) ?_
      refine lv_iload_n hx hb dX8_layPlaces_4 rfl (lv_at hl 0 rfl) ?_
      refine lv_iconst (v := 4) hx hb dX8_layPlaces_5 (by decide) ?_
      refine lv_icmp_gt (tgt := 67) hx hb dX8_layPlaces_6 (by decide) (fun c15 => absurd c15 (by decide)) (fun c15 => ?_)
      refine lv_aload_n hx hb dX8_layPlaces_9 rfl (lv_at hl 3 rfl) ?_
      refine va_get (D := (dC, dI)) (ci := 8) (v := .int 0) (C := RX8) (T := TX8) (N := 53) hx hb hts hin8 hown hK hP 2 rfl rfl 4 (by decide) hw0 (fun _ h9 => h9) rfl dX8_layPlaces_10 ?_
      refine lv_istore (lv' := [(4, .int 0), (3, .int 2), (2, .int y2), (0, .ref n), (1, .int i0)]) hx hb dX8_layPlaces_13 hl (by decide) rfl (fun ls hl => ?_)
      have z17 : (0 : Int32).toInt = 0 := rfl
      have hl0 := hl
      clear hl
      have hP0 := hP
      clear hP
      have hD0 := hD
      clear hD
      obtain ⟨y5, ex, hl, hP, hD⟩ : ∃ (y5 : Int32), (0 ≤ y5.toInt ∧ y5.toInt ≤ i0.toInt + 1) ∧ lv_has ls 5 [(4, .int y5), (3, .int 2), (2, .int y2), (0, .ref n), (1, .int i0)] ∧ va_P (dC, dI) vwCl [(nwi, .inl (cI, 14, .inl (fun _ => 0))), (npl, .inl (cI, 28, .inl fp)), (n, .inr (8, [.int vleft, .int vmetres, .int vshut, .int 0, .int 0, .int vbagged, .int vwarmed, .ref nwi, .ref nco, .int vmeals, .ref nqu, .ref nmi, .ref nde, .ref nsa, .ref nsm, .int vsights, .ref npa, .int vpadMany, .ref nac, .ref nam, .ref naw, .int vacts, .int vgusty, .int vleakAct, .int vleakMuch, .int vendOfCan, .int vbadAct, .int vbadWhy, .int vburnt, .int vboiled, .ref ncs, .ref nbw, .ref ndc, .ref nmk, .int vhadLeft, .int vhadToday, .int vhadBagged, .int vhadWarmed, .int vleaves, .int vdayThen, .int vcoldThen, .ref npo, .int vportionMany, .ref nta, .ref npl, .int vleakMany, .int vleakActs, .ref nmm, .ref ncu, .ref nke, .ref nik, .int vkeptAt, .int visWriting]))] H ∧ va_D A [(nwi, .inl (cI, 14, .inl (fun _ => 0))), (npl, .inl (cI, 28, .inl fp)), (n, .inr (8, [.int vleft, .int vmetres, .int vshut, .int 0, .int 0, .int vbagged, .int vwarmed, .ref nwi, .ref nco, .int vmeals, .ref nqu, .ref nmi, .ref nde, .ref nsa, .ref nsm, .int vsights, .ref npa, .int vpadMany, .ref nac, .ref nam, .ref naw, .int vacts, .int vgusty, .int vleakAct, .int vleakMuch, .int vendOfCan, .int vbadAct, .int vbadWhy, .int vburnt, .int vboiled, .ref ncs, .ref nbw, .ref ndc, .ref nmk, .int vhadLeft, .int vhadToday, .int vhadBagged, .int vhadWarmed, .int vleaves, .int vdayThen, .int vcoldThen, .ref npo, .int vportionMany, .ref nta, .ref npl, .int vleakMany, .int vleakActs, .ref nmm, .ref ncu, .ref nke, .ref nik, .int vkeptAt, .int visWriting]))] := ⟨0, by omega, hl0, hP0, hD0⟩
      clear hl0 hP0 hD0
      obtain ⟨n16, hn⟩ : ∃ n : Nat, (n : Int) = i0.toInt + 1 - y5.toInt := ⟨(i0.toInt + 1 - y5.toInt).toNat, by omega⟩
      induction n16 generalizing y5  ls H locs with
      | zero =>
        skip
        refine lv_iload hx hb dX8_layPlaces_15 (lv_at hl 0 rfl) ?_
        refine lv_iload_n hx hb dX8_layPlaces_17 rfl (lv_at hl 4 rfl) ?_
        refine lv_icmp_gt (tgt := 61) hx hb dX8_layPlaces_18 (by decide) (fun c18 => ?_) (fun c18 => by exfalso; have t18 : y5.toInt ≤ i0.toInt := (tnlt c18); omega)
        refine lv_iinc (v := 3) (lv' := [(3, .int 3), (4, .int y5), (2, .int y2), (0, .ref n), (1, .int i0)]) hx hb dX8_layPlaces_61 hl (k := 1) rfl (by decide) (by decide) rfl (fun ls hl => ?_)
        refine lv_goto (tgt := 4) hx hb dX8_layPlaces_64 (by decide) ?_
        refine lv_iload_n hx hb dX8_layPlaces_4 rfl (lv_at hl 0 rfl) ?_
        refine lv_iconst (v := 4) hx hb dX8_layPlaces_5 (by decide) ?_
        refine lv_icmp_gt (tgt := 67) hx hb dX8_layPlaces_6 (by decide) (fun c19 => absurd c19 (by decide)) (fun c19 => ?_)
        refine lv_aload_n hx hb dX8_layPlaces_9 rfl (lv_at hl 3 rfl) ?_
        refine va_get (D := (dC, dI)) (ci := 8) (v := .int 0) (C := RX8) (T := TX8) (N := 53) hx hb hts hin8 hown hK hP 2 rfl rfl 4 (by decide) hw0 (fun _ h9 => h9) rfl dX8_layPlaces_10 ?_
        refine lv_istore (lv' := [(4, .int 0), (3, .int 3), (2, .int y2), (0, .ref n), (1, .int i0)]) hx hb dX8_layPlaces_13 hl (by decide) rfl (fun ls hl => ?_)
        have z21 : (0 : Int32).toInt = 0 := rfl
        have hl0 := hl
        clear hl
        have hP0 := hP
        clear hP
        have hD0 := hD
        clear hD
        obtain ⟨y5, ex, hl, hP, hD⟩ : ∃ (y5 : Int32), (0 ≤ y5.toInt ∧ y5.toInt ≤ i0.toInt + 1) ∧ lv_has ls 5 [(4, .int y5), (3, .int 3), (2, .int y2), (0, .ref n), (1, .int i0)] ∧ va_P (dC, dI) vwCl [(nwi, .inl (cI, 14, .inl (fun _ => 0))), (npl, .inl (cI, 28, .inl fp)), (n, .inr (8, [.int vleft, .int vmetres, .int vshut, .int 0, .int 0, .int vbagged, .int vwarmed, .ref nwi, .ref nco, .int vmeals, .ref nqu, .ref nmi, .ref nde, .ref nsa, .ref nsm, .int vsights, .ref npa, .int vpadMany, .ref nac, .ref nam, .ref naw, .int vacts, .int vgusty, .int vleakAct, .int vleakMuch, .int vendOfCan, .int vbadAct, .int vbadWhy, .int vburnt, .int vboiled, .ref ncs, .ref nbw, .ref ndc, .ref nmk, .int vhadLeft, .int vhadToday, .int vhadBagged, .int vhadWarmed, .int vleaves, .int vdayThen, .int vcoldThen, .ref npo, .int vportionMany, .ref nta, .ref npl, .int vleakMany, .int vleakActs, .ref nmm, .ref ncu, .ref nke, .ref nik, .int vkeptAt, .int visWriting]))] H ∧ va_D A [(nwi, .inl (cI, 14, .inl (fun _ => 0))), (npl, .inl (cI, 28, .inl fp)), (n, .inr (8, [.int vleft, .int vmetres, .int vshut, .int 0, .int 0, .int vbagged, .int vwarmed, .ref nwi, .ref nco, .int vmeals, .ref nqu, .ref nmi, .ref nde, .ref nsa, .ref nsm, .int vsights, .ref npa, .int vpadMany, .ref nac, .ref nam, .ref naw, .int vacts, .int vgusty, .int vleakAct, .int vleakMuch, .int vendOfCan, .int vbadAct, .int vbadWhy, .int vburnt, .int vboiled, .ref ncs, .ref nbw, .ref ndc, .ref nmk, .int vhadLeft, .int vhadToday, .int vhadBagged, .int vhadWarmed, .int vleaves, .int vdayThen, .int vcoldThen, .ref npo, .int vportionMany, .ref nta, .ref npl, .int vleakMany, .int vleakActs, .ref nmm, .ref ncu, .ref nke, .ref nik, .int vkeptAt, .int visWriting]))] := ⟨0, by omega, hl0, hP0, hD0⟩
        clear hl0 hP0 hD0
        obtain ⟨n20, hn⟩ : ∃ n : Nat, (n : Int) = i0.toInt + 1 - y5.toInt := ⟨(i0.toInt + 1 - y5.toInt).toNat, by omega⟩
        induction n20 generalizing y5  ls H locs with
        | zero =>
          skip
          refine lv_iload hx hb dX8_layPlaces_15 (lv_at hl 0 rfl) ?_
          refine lv_iload_n hx hb dX8_layPlaces_17 rfl (lv_at hl 4 rfl) ?_
          refine lv_icmp_gt (tgt := 61) hx hb dX8_layPlaces_18 (by decide) (fun c22 => ?_) (fun c22 => by exfalso; have t22 : y5.toInt ≤ i0.toInt := (tnlt c22); omega)
          refine lv_iinc (v := 4) (lv' := [(3, .int 4), (4, .int y5), (2, .int y2), (0, .ref n), (1, .int i0)]) hx hb dX8_layPlaces_61 hl (k := 1) rfl (by decide) (by decide) rfl (fun ls hl => ?_)
          refine lv_goto (tgt := 4) hx hb dX8_layPlaces_64 (by decide) ?_
          refine lv_iload_n hx hb dX8_layPlaces_4 rfl (lv_at hl 0 rfl) ?_
          refine lv_iconst (v := 4) hx hb dX8_layPlaces_5 (by decide) ?_
          refine lv_icmp_gt (tgt := 67) hx hb dX8_layPlaces_6 (by decide) (fun c23 => absurd c23 (by decide)) (fun c23 => ?_)
          refine lv_aload_n hx hb dX8_layPlaces_9 rfl (lv_at hl 3 rfl) ?_
          refine va_get (D := (dC, dI)) (ci := 8) (v := .int 0) (C := RX8) (T := TX8) (N := 53) hx hb hts hin8 hown hK hP 2 rfl rfl 4 (by decide) hw0 (fun _ h9 => h9) rfl dX8_layPlaces_10 ?_
          refine lv_istore (lv' := [(4, .int 0), (3, .int 4), (2, .int y2), (0, .ref n), (1, .int i0)]) hx hb dX8_layPlaces_13 hl (by decide) rfl (fun ls hl => ?_)
          have z25 : (0 : Int32).toInt = 0 := rfl
          have hl0 := hl
          clear hl
          have hP0 := hP
          clear hP
          have hD0 := hD
          clear hD
          obtain ⟨y5, ex, hl, hP, hD⟩ : ∃ (y5 : Int32), (0 ≤ y5.toInt ∧ y5.toInt ≤ i0.toInt + 1) ∧ lv_has ls 5 [(4, .int y5), (3, .int 4), (2, .int y2), (0, .ref n), (1, .int i0)] ∧ va_P (dC, dI) vwCl [(nwi, .inl (cI, 14, .inl (fun _ => 0))), (npl, .inl (cI, 28, .inl fp)), (n, .inr (8, [.int vleft, .int vmetres, .int vshut, .int 0, .int 0, .int vbagged, .int vwarmed, .ref nwi, .ref nco, .int vmeals, .ref nqu, .ref nmi, .ref nde, .ref nsa, .ref nsm, .int vsights, .ref npa, .int vpadMany, .ref nac, .ref nam, .ref naw, .int vacts, .int vgusty, .int vleakAct, .int vleakMuch, .int vendOfCan, .int vbadAct, .int vbadWhy, .int vburnt, .int vboiled, .ref ncs, .ref nbw, .ref ndc, .ref nmk, .int vhadLeft, .int vhadToday, .int vhadBagged, .int vhadWarmed, .int vleaves, .int vdayThen, .int vcoldThen, .ref npo, .int vportionMany, .ref nta, .ref npl, .int vleakMany, .int vleakActs, .ref nmm, .ref ncu, .ref nke, .ref nik, .int vkeptAt, .int visWriting]))] H ∧ va_D A [(nwi, .inl (cI, 14, .inl (fun _ => 0))), (npl, .inl (cI, 28, .inl fp)), (n, .inr (8, [.int vleft, .int vmetres, .int vshut, .int 0, .int 0, .int vbagged, .int vwarmed, .ref nwi, .ref nco, .int vmeals, .ref nqu, .ref nmi, .ref nde, .ref nsa, .ref nsm, .int vsights, .ref npa, .int vpadMany, .ref nac, .ref nam, .ref naw, .int vacts, .int vgusty, .int vleakAct, .int vleakMuch, .int vendOfCan, .int vbadAct, .int vbadWhy, .int vburnt, .int vboiled, .ref ncs, .ref nbw, .ref ndc, .ref nmk, .int vhadLeft, .int vhadToday, .int vhadBagged, .int vhadWarmed, .int vleaves, .int vdayThen, .int vcoldThen, .ref npo, .int vportionMany, .ref nta, .ref npl, .int vleakMany, .int vleakActs, .ref nmm, .ref ncu, .ref nke, .ref nik, .int vkeptAt, .int visWriting]))] := ⟨0, by omega, hl0, hP0, hD0⟩
          clear hl0 hP0 hD0
          obtain ⟨n24, hn⟩ : ∃ n : Nat, (n : Int) = i0.toInt + 1 - y5.toInt := ⟨(i0.toInt + 1 - y5.toInt).toNat, by omega⟩
          induction n24 generalizing y5  ls H locs with
          | zero =>
            skip
            refine lv_iload hx hb dX8_layPlaces_15 (lv_at hl 0 rfl) ?_
            refine lv_iload_n hx hb dX8_layPlaces_17 rfl (lv_at hl 4 rfl) ?_
            refine lv_icmp_gt (tgt := 61) hx hb dX8_layPlaces_18 (by decide) (fun c26 => ?_) (fun c26 => by exfalso; have t26 : y5.toInt ≤ i0.toInt := (tnlt c26); omega)
            refine lv_iinc (v := 5) (lv' := [(3, .int 5), (4, .int y5), (2, .int y2), (0, .ref n), (1, .int i0)]) hx hb dX8_layPlaces_61 hl (k := 1) rfl (by decide) (by decide) rfl (fun ls hl => ?_)
            refine lv_goto (tgt := 4) hx hb dX8_layPlaces_64 (by decide) ?_
            refine lv_iload_n hx hb dX8_layPlaces_4 rfl (lv_at hl 0 rfl) ?_
            refine lv_iconst (v := 4) hx hb dX8_layPlaces_5 (by decide) ?_
            refine lv_icmp_gt (tgt := 67) hx hb dX8_layPlaces_6 (by decide) (fun c27 => ?_) (fun c27 => absurd c27 (by decide))
            refine lv_iload_n hx hb dX8_layPlaces_67 rfl (lv_at hl 2 rfl) ?_
            have hP9 := mx_subP (wc := [(n, .inr (8, [.int vleft, .int vmetres, .int vshut, .int 0, .int 0, .int vbagged, .int vwarmed, .ref nwi, .ref nco, .int vmeals, .ref nqu, .ref nmi, .ref nde, .ref nsa, .ref nsm, .int vsights, .ref npa, .int vpadMany, .ref nac, .ref nam, .ref naw, .int vacts, .int vgusty, .int vleakAct, .int vleakMuch, .int vendOfCan, .int vbadAct, .int vbadWhy, .int vburnt, .int vboiled, .ref ncs, .ref nbw, .ref ndc, .ref nmk, .int vhadLeft, .int vhadToday, .int vhadBagged, .int vhadWarmed, .int vleaves, .int vdayThen, .int vcoldThen, .ref npo, .int vportionMany, .ref nta, .ref npl, .int vleakMany, .int vleakActs, .ref nmm, .ref ncu, .ref nke, .ref nik, .int vkeptAt, .int visWriting])), (nwi, .inl (cI, 14, .inl (fun _ => 0)))]) hP [2, 0] rfl
            have hD9 := hD.sub (ws' := [(n, .inr (8, [.int vleft, .int vmetres, .int vshut, .int 0, .int 0, .int vbagged, .int vwarmed, .ref nwi, .ref nco, .int vmeals, .ref nqu, .ref nmi, .ref nde, .ref nsa, .ref nsm, .int vsights, .ref npa, .int vpadMany, .ref nac, .ref nam, .ref naw, .int vacts, .int vgusty, .int vleakAct, .int vleakMuch, .int vendOfCan, .int vbadAct, .int vbadWhy, .int vburnt, .int vboiled, .ref ncs, .ref nbw, .ref ndc, .ref nmk, .int vhadLeft, .int vhadToday, .int vhadBagged, .int vhadWarmed, .int vleaves, .int vdayThen, .int vcoldThen, .ref npo, .int vportionMany, .ref nta, .ref npl, .int vleakMany, .int vleakActs, .ref nmm, .ref ncu, .ref nke, .ref nik, .int vkeptAt, .int visWriting])), (nwi, .inl (cI, 14, .inl (fun _ => 0)))]) [2, 0] (by decide) rfl
            exact W.iret (v := y2) hx hb hr (fun t ht hW => ⟨⟨y2, (), rfl, (by first | exact by omega), by rw [ht]; exact hP9, hD9⟩, hS.F ht⟩) hS.2.2 dX8_layPlaces_68
          | succ n24 ih =>
            skip
            refine lv_iload hx hb dX8_layPlaces_15 (lv_at hl 0 rfl) ?_
            refine lv_iload_n hx hb dX8_layPlaces_17 rfl (lv_at hl 4 rfl) ?_
            refine lv_icmp_gt (tgt := 61) hx hb dX8_layPlaces_18 (by decide) (fun c28 => by exfalso; have t28 : i0.toInt < y5.toInt := (tlt c28); omega) (fun c28 => ?_)
            refine lv_aload_n hx hb dX8_layPlaces_21 rfl (lv_at hl 3 rfl) ?_
            refine lv_aload_n hx hb dX8_layPlaces_22 rfl (lv_at hl 3 rfl) ?_
            refine va_get (D := (dC, dI)) (ci := 8) (v := .ref nwi) (C := RX8) (T := TX8) (N := 53) hx hb hts hin8 hown hK hP 2 rfl rfl 7 (by decide) hw1 (fun _ h9 => h9) rfl dX8_layPlaces_23 ?_
            refine lv_iload hx hb dX8_layPlaces_26 (lv_at hl 0 rfl) ?_
            refine va_iald hx hb hK hP 0 0 rfl rfl (vin (by omega) (by omega)) dX8_layPlaces_28 ?_
            refine lv_topi (fun x29 e29 => ?_)
            obtain rfl : x29 = 0 := e29.trans rfl
            refine mx_i (wr := [(nwi, .inl (cI, 14, .inl (fun _ => 0))), (npl, .inl (cI, 28, .inl fp))]) (va_runV (As := [.int 0]) (rest := []) ⟨hx, hb, hml, hown, hts⟩ (c_X8_blows0 l dC dI cI cZ cK tS aK aV n nwi nco nqu nmi nde nsa nsm npa nac nam naw ncs nbw ndc nmk npo nta npl nmm ncu nke nik vleft vmetres vshut 0 vbagged vwarmed vmeals vsights vpadMany vacts vgusty vleakAct vleakMuch vendOfCan vbadAct vbadWhy vburnt vboiled vhadLeft vhadToday vhadBagged vhadWarmed vleaves vdayThen vcoldThen vportionMany vleakMany vleakActs vkeptAt visWriting H.size) (cwV 1 hts (gw_v (fun _ h9 => List.mem_cons_of_mem _ h9) wm_501 wm_502 wm_503 wm_385 wm_504) rfl rfl rfl (by decide +kernel) ⟨Nat.le_of_ble_eq_true rfl, Nat.le_of_ble_eq_true rfl⟩) (mx_preV (C := RX8) (T := TX8) (N := 53) (ci := 8) hKx hP hD hS hA [2] (by decide) rfl rfl rfl) rfl rfl hl.1 rfl (lv_room (Nat.le_of_ble_eq_true rfl)) dX8_layPlaces_29 ⟨Nat.le_of_ble_eq_true rfl, Nat.le_of_ble_eq_true rfl⟩) hP hD hS hA [2] [0, 1] rfl rfl (by decide) (by decide) (fun r30 u30 H locs hq30 hP hD hS => ?_)
            replace hP : va_P (dC, dI) vwCl [(nwi, .inl (cI, 14, .inl (fun _ => 0))), (npl, .inl (cI, 28, .inl fp)), (n, .inr (8, [.int vleft, .int vmetres, .int vshut, .int 0, .int 0, .int vbagged, .int vwarmed, .ref nwi, .ref nco, .int vmeals, .ref nqu, .ref nmi, .ref nde, .ref nsa, .ref nsm, .int vsights, .ref npa, .int vpadMany, .ref nac, .ref nam, .ref naw, .int vacts, .int vgusty, .int vleakAct, .int vleakMuch, .int vendOfCan, .int vbadAct, .int vbadWhy, .int vburnt, .int vboiled, .ref ncs, .ref nbw, .ref ndc, .ref nmk, .int vhadLeft, .int vhadToday, .int vhadBagged, .int vhadWarmed, .int vleaves, .int vdayThen, .int vcoldThen, .ref npo, .int vportionMany, .ref nta, .ref npl, .int vleakMany, .int vleakActs, .ref nmm, .ref ncu, .ref nke, .ref nik, .int vkeptAt, .int visWriting]))] H := hP
            replace hD : va_D A [(nwi, .inl (cI, 14, .inl (fun _ => 0))), (npl, .inl (cI, 28, .inl fp)), (n, .inr (8, [.int vleft, .int vmetres, .int vshut, .int 0, .int 0, .int vbagged, .int vwarmed, .ref nwi, .ref nco, .int vmeals, .ref nqu, .ref nmi, .ref nde, .ref nsa, .ref nsm, .int vsights, .ref npa, .int vpadMany, .ref nac, .ref nam, .ref naw, .int vacts, .int vgusty, .int vleakAct, .int vleakMuch, .int vendOfCan, .int vbadAct, .int vbadWhy, .int vburnt, .int vboiled, .ref ncs, .ref nbw, .ref ndc, .ref nmk, .int vhadLeft, .int vhadToday, .int vhadBagged, .int vhadWarmed, .int vleaves, .int vdayThen, .int vcoldThen, .ref npo, .int vportionMany, .ref nta, .ref npl, .int vleakMany, .int vleakActs, .ref nmm, .ref ncu, .ref nke, .ref nik, .int vkeptAt, .int visWriting]))] := hD
            obtain rfl : r30 = 0 := hq30
            refine lv_iload_n hx hb dX8_layPlaces_32 rfl (lv_at hl 1 rfl) ?_
            refine lv_icmp_ne (tgt := 55) hx hb dX8_layPlaces_33 (by decide) (fun c31 => ?_) (fun c31 => absurd c31 (by decide))
            obtain ⟨x32, e32⟩ : ∃ y : Int32, y = y5 + Int32.ofInt 1 := ⟨_, rfl⟩
            refine lv_iinc (v := x32) (lv' := [(4, .int x32), (3, .int 4), (2, .int y2), (0, .ref n), (1, .int i0)]) hx hb dX8_layPlaces_55 hl (k := 0) rfl e32.symm (by decide) rfl (fun ls hl => ?_)
            have f32 : x32.toInt = y5.toInt + 1 := by rw [e32]; exact tinc (by decide) (by omega) (by omega)
            refine lv_goto (tgt := 15) hx hb dX8_layPlaces_58 (by decide) ?_
            exact ih (H := H) (locs := locs) (ls := ls) (y5 := x32)  hS (by omega) (show lv_has ls 5 [(4, .int x32), (3, .int 4), (2, .int y2), (0, .ref n), (1, .int i0)] from lv_sub hl [0, 1, 2, 3, 4] rfl) (mx_subP (wc := [(nwi, .inl (cI, 14, .inl (fun _ => 0))), (npl, .inl (cI, 28, .inl fp)), (n, .inr (8, [.int vleft, .int vmetres, .int vshut, .int 0, .int 0, .int vbagged, .int vwarmed, .ref nwi, .ref nco, .int vmeals, .ref nqu, .ref nmi, .ref nde, .ref nsa, .ref nsm, .int vsights, .ref npa, .int vpadMany, .ref nac, .ref nam, .ref naw, .int vacts, .int vgusty, .int vleakAct, .int vleakMuch, .int vendOfCan, .int vbadAct, .int vbadWhy, .int vburnt, .int vboiled, .ref ncs, .ref nbw, .ref ndc, .ref nmk, .int vhadLeft, .int vhadToday, .int vhadBagged, .int vhadWarmed, .int vleaves, .int vdayThen, .int vcoldThen, .ref npo, .int vportionMany, .ref nta, .ref npl, .int vleakMany, .int vleakActs, .ref nmm, .ref ncu, .ref nke, .ref nik, .int vkeptAt, .int visWriting]))]) hP [0, 1, 2] rfl) (by omega)
        | succ n20 ih =>
          skip
          refine lv_iload hx hb dX8_layPlaces_15 (lv_at hl 0 rfl) ?_
          refine lv_iload_n hx hb dX8_layPlaces_17 rfl (lv_at hl 4 rfl) ?_
          refine lv_icmp_gt (tgt := 61) hx hb dX8_layPlaces_18 (by decide) (fun c33 => by exfalso; have t33 : i0.toInt < y5.toInt := (tlt c33); omega) (fun c33 => ?_)
          refine lv_aload_n hx hb dX8_layPlaces_21 rfl (lv_at hl 3 rfl) ?_
          refine lv_aload_n hx hb dX8_layPlaces_22 rfl (lv_at hl 3 rfl) ?_
          refine va_get (D := (dC, dI)) (ci := 8) (v := .ref nwi) (C := RX8) (T := TX8) (N := 53) hx hb hts hin8 hown hK hP 2 rfl rfl 7 (by decide) hw1 (fun _ h9 => h9) rfl dX8_layPlaces_23 ?_
          refine lv_iload hx hb dX8_layPlaces_26 (lv_at hl 0 rfl) ?_
          refine va_iald hx hb hK hP 0 0 rfl rfl (vin (by omega) (by omega)) dX8_layPlaces_28 ?_
          refine lv_topi (fun x34 e34 => ?_)
          obtain rfl : x34 = 0 := e34.trans rfl
          refine mx_i (wr := [(nwi, .inl (cI, 14, .inl (fun _ => 0))), (npl, .inl (cI, 28, .inl fp))]) (va_runV (As := [.int 0]) (rest := []) ⟨hx, hb, hml, hown, hts⟩ (c_X8_blows0 l dC dI cI cZ cK tS aK aV n nwi nco nqu nmi nde nsa nsm npa nac nam naw ncs nbw ndc nmk npo nta npl nmm ncu nke nik vleft vmetres vshut 0 vbagged vwarmed vmeals vsights vpadMany vacts vgusty vleakAct vleakMuch vendOfCan vbadAct vbadWhy vburnt vboiled vhadLeft vhadToday vhadBagged vhadWarmed vleaves vdayThen vcoldThen vportionMany vleakMany vleakActs vkeptAt visWriting H.size) (cwV 1 hts (gw_v (fun _ h9 => List.mem_cons_of_mem _ h9) wm_501 wm_502 wm_503 wm_385 wm_504) rfl rfl rfl (by decide +kernel) ⟨Nat.le_of_ble_eq_true rfl, Nat.le_of_ble_eq_true rfl⟩) (mx_preV (C := RX8) (T := TX8) (N := 53) (ci := 8) hKx hP hD hS hA [2] (by decide) rfl rfl rfl) rfl rfl hl.1 rfl (lv_room (Nat.le_of_ble_eq_true rfl)) dX8_layPlaces_29 ⟨Nat.le_of_ble_eq_true rfl, Nat.le_of_ble_eq_true rfl⟩) hP hD hS hA [2] [0, 1] rfl rfl (by decide) (by decide) (fun r35 u35 H locs hq35 hP hD hS => ?_)
          replace hP : va_P (dC, dI) vwCl [(nwi, .inl (cI, 14, .inl (fun _ => 0))), (npl, .inl (cI, 28, .inl fp)), (n, .inr (8, [.int vleft, .int vmetres, .int vshut, .int 0, .int 0, .int vbagged, .int vwarmed, .ref nwi, .ref nco, .int vmeals, .ref nqu, .ref nmi, .ref nde, .ref nsa, .ref nsm, .int vsights, .ref npa, .int vpadMany, .ref nac, .ref nam, .ref naw, .int vacts, .int vgusty, .int vleakAct, .int vleakMuch, .int vendOfCan, .int vbadAct, .int vbadWhy, .int vburnt, .int vboiled, .ref ncs, .ref nbw, .ref ndc, .ref nmk, .int vhadLeft, .int vhadToday, .int vhadBagged, .int vhadWarmed, .int vleaves, .int vdayThen, .int vcoldThen, .ref npo, .int vportionMany, .ref nta, .ref npl, .int vleakMany, .int vleakActs, .ref nmm, .ref ncu, .ref nke, .ref nik, .int vkeptAt, .int visWriting]))] H := hP
          replace hD : va_D A [(nwi, .inl (cI, 14, .inl (fun _ => 0))), (npl, .inl (cI, 28, .inl fp)), (n, .inr (8, [.int vleft, .int vmetres, .int vshut, .int 0, .int 0, .int vbagged, .int vwarmed, .ref nwi, .ref nco, .int vmeals, .ref nqu, .ref nmi, .ref nde, .ref nsa, .ref nsm, .int vsights, .ref npa, .int vpadMany, .ref nac, .ref nam, .ref naw, .int vacts, .int vgusty, .int vleakAct, .int vleakMuch, .int vendOfCan, .int vbadAct, .int vbadWhy, .int vburnt, .int vboiled, .ref ncs, .ref nbw, .ref ndc, .ref nmk, .int vhadLeft, .int vhadToday, .int vhadBagged, .int vhadWarmed, .int vleaves, .int vdayThen, .int vcoldThen, .ref npo, .int vportionMany, .ref nta, .ref npl, .int vleakMany, .int vleakActs, .ref nmm, .ref ncu, .ref nke, .ref nik, .int vkeptAt, .int visWriting]))] := hD
          obtain rfl : r35 = 0 := hq35
          refine lv_iload_n hx hb dX8_layPlaces_32 rfl (lv_at hl 1 rfl) ?_
          refine lv_icmp_ne (tgt := 55) hx hb dX8_layPlaces_33 (by decide) (fun c36 => ?_) (fun c36 => absurd c36 (by decide))
          obtain ⟨x37, e37⟩ : ∃ y : Int32, y = y5 + Int32.ofInt 1 := ⟨_, rfl⟩
          refine lv_iinc (v := x37) (lv' := [(4, .int x37), (3, .int 3), (2, .int y2), (0, .ref n), (1, .int i0)]) hx hb dX8_layPlaces_55 hl (k := 0) rfl e37.symm (by decide) rfl (fun ls hl => ?_)
          have f37 : x37.toInt = y5.toInt + 1 := by rw [e37]; exact tinc (by decide) (by omega) (by omega)
          refine lv_goto (tgt := 15) hx hb dX8_layPlaces_58 (by decide) ?_
          exact ih (H := H) (locs := locs) (ls := ls) (y5 := x37)  hS (by omega) (show lv_has ls 5 [(4, .int x37), (3, .int 3), (2, .int y2), (0, .ref n), (1, .int i0)] from lv_sub hl [0, 1, 2, 3, 4] rfl) (mx_subP (wc := [(nwi, .inl (cI, 14, .inl (fun _ => 0))), (npl, .inl (cI, 28, .inl fp)), (n, .inr (8, [.int vleft, .int vmetres, .int vshut, .int 0, .int 0, .int vbagged, .int vwarmed, .ref nwi, .ref nco, .int vmeals, .ref nqu, .ref nmi, .ref nde, .ref nsa, .ref nsm, .int vsights, .ref npa, .int vpadMany, .ref nac, .ref nam, .ref naw, .int vacts, .int vgusty, .int vleakAct, .int vleakMuch, .int vendOfCan, .int vbadAct, .int vbadWhy, .int vburnt, .int vboiled, .ref ncs, .ref nbw, .ref ndc, .ref nmk, .int vhadLeft, .int vhadToday, .int vhadBagged, .int vhadWarmed, .int vleaves, .int vdayThen, .int vcoldThen, .ref npo, .int vportionMany, .ref nta, .ref npl, .int vleakMany, .int vleakActs, .ref nmm, .ref ncu, .ref nke, .ref nik, .int vkeptAt, .int visWriting]))]) hP [0, 1, 2] rfl) (by omega)
      | succ n16 ih =>
        skip
        refine lv_iload hx hb dX8_layPlaces_15 (lv_at hl 0 rfl) ?_
        refine lv_iload_n hx hb dX8_layPlaces_17 rfl (lv_at hl 4 rfl) ?_
        refine lv_icmp_gt (tgt := 61) hx hb dX8_layPlaces_18 (by decide) (fun c38 => by exfalso; have t38 : i0.toInt < y5.toInt := (tlt c38); omega) (fun c38 => ?_)
        refine lv_aload_n hx hb dX8_layPlaces_21 rfl (lv_at hl 3 rfl) ?_
        refine lv_aload_n hx hb dX8_layPlaces_22 rfl (lv_at hl 3 rfl) ?_
        refine va_get (D := (dC, dI)) (ci := 8) (v := .ref nwi) (C := RX8) (T := TX8) (N := 53) hx hb hts hin8 hown hK hP 2 rfl rfl 7 (by decide) hw1 (fun _ h9 => h9) rfl dX8_layPlaces_23 ?_
        refine lv_iload hx hb dX8_layPlaces_26 (lv_at hl 0 rfl) ?_
        refine va_iald hx hb hK hP 0 0 rfl rfl (vin (by omega) (by omega)) dX8_layPlaces_28 ?_
        refine lv_topi (fun x39 e39 => ?_)
        obtain rfl : x39 = 0 := e39.trans rfl
        refine mx_i (wr := [(nwi, .inl (cI, 14, .inl (fun _ => 0))), (npl, .inl (cI, 28, .inl fp))]) (va_runV (As := [.int 0]) (rest := []) ⟨hx, hb, hml, hown, hts⟩ (c_X8_blows0 l dC dI cI cZ cK tS aK aV n nwi nco nqu nmi nde nsa nsm npa nac nam naw ncs nbw ndc nmk npo nta npl nmm ncu nke nik vleft vmetres vshut 0 vbagged vwarmed vmeals vsights vpadMany vacts vgusty vleakAct vleakMuch vendOfCan vbadAct vbadWhy vburnt vboiled vhadLeft vhadToday vhadBagged vhadWarmed vleaves vdayThen vcoldThen vportionMany vleakMany vleakActs vkeptAt visWriting H.size) (cwV 1 hts (gw_v (fun _ h9 => List.mem_cons_of_mem _ h9) wm_501 wm_502 wm_503 wm_385 wm_504) rfl rfl rfl (by decide +kernel) ⟨Nat.le_of_ble_eq_true rfl, Nat.le_of_ble_eq_true rfl⟩) (mx_preV (C := RX8) (T := TX8) (N := 53) (ci := 8) hKx hP hD hS hA [2] (by decide) rfl rfl rfl) rfl rfl hl.1 rfl (lv_room (Nat.le_of_ble_eq_true rfl)) dX8_layPlaces_29 ⟨Nat.le_of_ble_eq_true rfl, Nat.le_of_ble_eq_true rfl⟩) hP hD hS hA [2] [0, 1] rfl rfl (by decide) (by decide) (fun r40 u40 H locs hq40 hP hD hS => ?_)
        replace hP : va_P (dC, dI) vwCl [(nwi, .inl (cI, 14, .inl (fun _ => 0))), (npl, .inl (cI, 28, .inl fp)), (n, .inr (8, [.int vleft, .int vmetres, .int vshut, .int 0, .int 0, .int vbagged, .int vwarmed, .ref nwi, .ref nco, .int vmeals, .ref nqu, .ref nmi, .ref nde, .ref nsa, .ref nsm, .int vsights, .ref npa, .int vpadMany, .ref nac, .ref nam, .ref naw, .int vacts, .int vgusty, .int vleakAct, .int vleakMuch, .int vendOfCan, .int vbadAct, .int vbadWhy, .int vburnt, .int vboiled, .ref ncs, .ref nbw, .ref ndc, .ref nmk, .int vhadLeft, .int vhadToday, .int vhadBagged, .int vhadWarmed, .int vleaves, .int vdayThen, .int vcoldThen, .ref npo, .int vportionMany, .ref nta, .ref npl, .int vleakMany, .int vleakActs, .ref nmm, .ref ncu, .ref nke, .ref nik, .int vkeptAt, .int visWriting]))] H := hP
        replace hD : va_D A [(nwi, .inl (cI, 14, .inl (fun _ => 0))), (npl, .inl (cI, 28, .inl fp)), (n, .inr (8, [.int vleft, .int vmetres, .int vshut, .int 0, .int 0, .int vbagged, .int vwarmed, .ref nwi, .ref nco, .int vmeals, .ref nqu, .ref nmi, .ref nde, .ref nsa, .ref nsm, .int vsights, .ref npa, .int vpadMany, .ref nac, .ref nam, .ref naw, .int vacts, .int vgusty, .int vleakAct, .int vleakMuch, .int vendOfCan, .int vbadAct, .int vbadWhy, .int vburnt, .int vboiled, .ref ncs, .ref nbw, .ref ndc, .ref nmk, .int vhadLeft, .int vhadToday, .int vhadBagged, .int vhadWarmed, .int vleaves, .int vdayThen, .int vcoldThen, .ref npo, .int vportionMany, .ref nta, .ref npl, .int vleakMany, .int vleakActs, .ref nmm, .ref ncu, .ref nke, .ref nik, .int vkeptAt, .int visWriting]))] := hD
        obtain rfl : r40 = 0 := hq40
        refine lv_iload_n hx hb dX8_layPlaces_32 rfl (lv_at hl 1 rfl) ?_
        refine lv_icmp_ne (tgt := 55) hx hb dX8_layPlaces_33 (by decide) (fun c41 => ?_) (fun c41 => absurd c41 (by decide))
        obtain ⟨x42, e42⟩ : ∃ y : Int32, y = y5 + Int32.ofInt 1 := ⟨_, rfl⟩
        refine lv_iinc (v := x42) (lv' := [(4, .int x42), (3, .int 2), (2, .int y2), (0, .ref n), (1, .int i0)]) hx hb dX8_layPlaces_55 hl (k := 0) rfl e42.symm (by decide) rfl (fun ls hl => ?_)
        have f42 : x42.toInt = y5.toInt + 1 := by rw [e42]; exact tinc (by decide) (by omega) (by omega)
        refine lv_goto (tgt := 15) hx hb dX8_layPlaces_58 (by decide) ?_
        exact ih (H := H) (locs := locs) (ls := ls) (y5 := x42)  hS (by omega) (show lv_has ls 5 [(4, .int x42), (3, .int 2), (2, .int y2), (0, .ref n), (1, .int i0)] from lv_sub hl [0, 1, 2, 3, 4] rfl) (mx_subP (wc := [(nwi, .inl (cI, 14, .inl (fun _ => 0))), (npl, .inl (cI, 28, .inl fp)), (n, .inr (8, [.int vleft, .int vmetres, .int vshut, .int 0, .int 0, .int vbagged, .int vwarmed, .ref nwi, .ref nco, .int vmeals, .ref nqu, .ref nmi, .ref nde, .ref nsa, .ref nsm, .int vsights, .ref npa, .int vpadMany, .ref nac, .ref nam, .ref naw, .int vacts, .int vgusty, .int vleakAct, .int vleakMuch, .int vendOfCan, .int vbadAct, .int vbadWhy, .int vburnt, .int vboiled, .ref ncs, .ref nbw, .ref ndc, .ref nmk, .int vhadLeft, .int vhadToday, .int vhadBagged, .int vhadWarmed, .int vleaves, .int vdayThen, .int vcoldThen, .ref npo, .int vportionMany, .ref nta, .ref npl, .int vleakMany, .int vleakActs, .ref nmm, .ref ncu, .ref nke, .ref nik, .int vkeptAt, .int visWriting]))]) hP [0, 1, 2] rfl) (by omega)
    | succ n12 ih =>
      skip
      refine lv_iload hx hb dX8_layPlaces_15 (lv_at hl 0 rfl) ?_
      refine lv_iload_n hx hb dX8_layPlaces_17 rfl (lv_at hl 4 rfl) ?_
      refine lv_icmp_gt (tgt := 61) hx hb dX8_layPlaces_18 (by decide) (fun c43 => by exfalso; have t43 : i0.toInt < y5.toInt := (tlt c43); omega) (fun c43 => ?_)
      refine lv_aload_n hx hb dX8_layPlaces_21 rfl (lv_at hl 3 rfl) ?_
      refine lv_aload_n hx hb dX8_layPlaces_22 rfl (lv_at hl 3 rfl) ?_
      refine va_get (D := (dC, dI)) (ci := 8) (v := .ref nwi) (C := RX8) (T := TX8) (N := 53) hx hb hts hin8 hown hK hP 2 rfl rfl 7 (by decide) hw1 (fun _ h9 => h9) rfl dX8_layPlaces_23 ?_
      refine lv_iload hx hb dX8_layPlaces_26 (lv_at hl 0 rfl) ?_
      refine va_iald hx hb hK hP 0 0 rfl rfl (vin (by omega) (by omega)) dX8_layPlaces_28 ?_
      refine lv_topi (fun x44 e44 => ?_)
      obtain rfl : x44 = 0 := e44.trans rfl
      refine mx_i (wr := [(nwi, .inl (cI, 14, .inl (fun _ => 0))), (npl, .inl (cI, 28, .inl fp))]) (va_runV (As := [.int 0]) (rest := []) ⟨hx, hb, hml, hown, hts⟩ (c_X8_blows0 l dC dI cI cZ cK tS aK aV n nwi nco nqu nmi nde nsa nsm npa nac nam naw ncs nbw ndc nmk npo nta npl nmm ncu nke nik vleft vmetres vshut 0 vbagged vwarmed vmeals vsights vpadMany vacts vgusty vleakAct vleakMuch vendOfCan vbadAct vbadWhy vburnt vboiled vhadLeft vhadToday vhadBagged vhadWarmed vleaves vdayThen vcoldThen vportionMany vleakMany vleakActs vkeptAt visWriting H.size) (cwV 1 hts (gw_v (fun _ h9 => List.mem_cons_of_mem _ h9) wm_501 wm_502 wm_503 wm_385 wm_504) rfl rfl rfl (by decide +kernel) ⟨Nat.le_of_ble_eq_true rfl, Nat.le_of_ble_eq_true rfl⟩) (mx_preV (C := RX8) (T := TX8) (N := 53) (ci := 8) hKx hP hD hS hA [2] (by decide) rfl rfl rfl) rfl rfl hl.1 rfl (lv_room (Nat.le_of_ble_eq_true rfl)) dX8_layPlaces_29 ⟨Nat.le_of_ble_eq_true rfl, Nat.le_of_ble_eq_true rfl⟩) hP hD hS hA [2] [0, 1] rfl rfl (by decide) (by decide) (fun r45 u45 H locs hq45 hP hD hS => ?_)
      replace hP : va_P (dC, dI) vwCl [(nwi, .inl (cI, 14, .inl (fun _ => 0))), (npl, .inl (cI, 28, .inl fp)), (n, .inr (8, [.int vleft, .int vmetres, .int vshut, .int 0, .int 0, .int vbagged, .int vwarmed, .ref nwi, .ref nco, .int vmeals, .ref nqu, .ref nmi, .ref nde, .ref nsa, .ref nsm, .int vsights, .ref npa, .int vpadMany, .ref nac, .ref nam, .ref naw, .int vacts, .int vgusty, .int vleakAct, .int vleakMuch, .int vendOfCan, .int vbadAct, .int vbadWhy, .int vburnt, .int vboiled, .ref ncs, .ref nbw, .ref ndc, .ref nmk, .int vhadLeft, .int vhadToday, .int vhadBagged, .int vhadWarmed, .int vleaves, .int vdayThen, .int vcoldThen, .ref npo, .int vportionMany, .ref nta, .ref npl, .int vleakMany, .int vleakActs, .ref nmm, .ref ncu, .ref nke, .ref nik, .int vkeptAt, .int visWriting]))] H := hP
      replace hD : va_D A [(nwi, .inl (cI, 14, .inl (fun _ => 0))), (npl, .inl (cI, 28, .inl fp)), (n, .inr (8, [.int vleft, .int vmetres, .int vshut, .int 0, .int 0, .int vbagged, .int vwarmed, .ref nwi, .ref nco, .int vmeals, .ref nqu, .ref nmi, .ref nde, .ref nsa, .ref nsm, .int vsights, .ref npa, .int vpadMany, .ref nac, .ref nam, .ref naw, .int vacts, .int vgusty, .int vleakAct, .int vleakMuch, .int vendOfCan, .int vbadAct, .int vbadWhy, .int vburnt, .int vboiled, .ref ncs, .ref nbw, .ref ndc, .ref nmk, .int vhadLeft, .int vhadToday, .int vhadBagged, .int vhadWarmed, .int vleaves, .int vdayThen, .int vcoldThen, .ref npo, .int vportionMany, .ref nta, .ref npl, .int vleakMany, .int vleakActs, .ref nmm, .ref ncu, .ref nke, .ref nik, .int vkeptAt, .int visWriting]))] := hD
      obtain rfl : r45 = 0 := hq45
      refine lv_iload_n hx hb dX8_layPlaces_32 rfl (lv_at hl 1 rfl) ?_
      refine lv_icmp_ne (tgt := 55) hx hb dX8_layPlaces_33 (by decide) (fun c46 => ?_) (fun c46 => absurd c46 (by decide))
      obtain ⟨x47, e47⟩ : ∃ y : Int32, y = y5 + Int32.ofInt 1 := ⟨_, rfl⟩
      refine lv_iinc (v := x47) (lv' := [(4, .int x47), (3, .int 1), (2, .int y2), (0, .ref n), (1, .int i0)]) hx hb dX8_layPlaces_55 hl (k := 0) rfl e47.symm (by decide) rfl (fun ls hl => ?_)
      have f47 : x47.toInt = y5.toInt + 1 := by rw [e47]; exact tinc (by decide) (by omega) (by omega)
      refine lv_goto (tgt := 15) hx hb dX8_layPlaces_58 (by decide) ?_
      exact ih (H := H) (locs := locs) (ls := ls) (y5 := x47)  hS (by omega) (show lv_has ls 5 [(4, .int x47), (3, .int 1), (2, .int y2), (0, .ref n), (1, .int i0)] from lv_sub hl [0, 1, 2, 3, 4] rfl) (mx_subP (wc := [(nwi, .inl (cI, 14, .inl (fun _ => 0))), (npl, .inl (cI, 28, .inl fp)), (n, .inr (8, [.int vleft, .int vmetres, .int vshut, .int 0, .int 0, .int vbagged, .int vwarmed, .ref nwi, .ref nco, .int vmeals, .ref nqu, .ref nmi, .ref nde, .ref nsa, .ref nsm, .int vsights, .ref npa, .int vpadMany, .ref nac, .ref nam, .ref naw, .int vacts, .int vgusty, .int vleakAct, .int vleakMuch, .int vendOfCan, .int vbadAct, .int vbadWhy, .int vburnt, .int vboiled, .ref ncs, .ref nbw, .ref ndc, .ref nmk, .int vhadLeft, .int vhadToday, .int vhadBagged, .int vhadWarmed, .int vleaves, .int vdayThen, .int vcoldThen, .ref npo, .int vportionMany, .ref nta, .ref npl, .int vleakMany, .int vleakActs, .ref nmm, .ref ncu, .ref nke, .ref nik, .int vkeptAt, .int visWriting]))]) hP [0, 1, 2] rfl) (by omega)
  | succ n7 ih =>
    skip
    refine lv_iload hx hb dX8_layPlaces_15 (lv_at hl 0 rfl) ?_
    refine lv_iload_n hx hb dX8_layPlaces_17 rfl (lv_at hl 4 rfl) ?_
    refine lv_icmp_gt (tgt := 61) hx hb dX8_layPlaces_18 (by decide) (fun c48 => by exfalso; have t48 : i0.toInt < y4.toInt := (tlt c48); omega) (fun c48 => ?_)
    refine lv_aload_n hx hb dX8_layPlaces_21 rfl (lv_at hl 3 rfl) ?_
    refine lv_aload_n hx hb dX8_layPlaces_22 rfl (lv_at hl 3 rfl) ?_
    refine va_get (D := (dC, dI)) (ci := 8) (v := .ref nwi) (C := RX8) (T := TX8) (N := 53) hx hb hts hin8 hown hK hP 2 rfl rfl 7 (by decide) hw1 (fun _ h9 => h9) rfl dX8_layPlaces_23 ?_
    refine lv_iload hx hb dX8_layPlaces_26 (lv_at hl 0 rfl) ?_
    refine va_iald hx hb hK hP 0 0 rfl rfl (vin (by omega) (by omega)) dX8_layPlaces_28 ?_
    refine lv_topi (fun x49 e49 => ?_)
    obtain rfl : x49 = 0 := e49.trans rfl
    refine mx_i (wr := [(nwi, .inl (cI, 14, .inl (fun _ => 0))), (npl, .inl (cI, 28, .inl fp))]) (va_runV (As := [.int 0]) (rest := []) ⟨hx, hb, hml, hown, hts⟩ (c_X8_blows0 l dC dI cI cZ cK tS aK aV n nwi nco nqu nmi nde nsa nsm npa nac nam naw ncs nbw ndc nmk npo nta npl nmm ncu nke nik vleft vmetres vshut 0 vbagged vwarmed vmeals vsights vpadMany vacts vgusty vleakAct vleakMuch vendOfCan vbadAct vbadWhy vburnt vboiled vhadLeft vhadToday vhadBagged vhadWarmed vleaves vdayThen vcoldThen vportionMany vleakMany vleakActs vkeptAt visWriting H.size) (cwV 1 hts (gw_v (fun _ h9 => List.mem_cons_of_mem _ h9) wm_501 wm_502 wm_503 wm_385 wm_504) rfl rfl rfl (by decide +kernel) ⟨Nat.le_of_ble_eq_true rfl, Nat.le_of_ble_eq_true rfl⟩) (mx_preV (C := RX8) (T := TX8) (N := 53) (ci := 8) hKx hP hD hS hA [2] (by decide) rfl rfl rfl) rfl rfl hl.1 rfl (lv_room (Nat.le_of_ble_eq_true rfl)) dX8_layPlaces_29 ⟨Nat.le_of_ble_eq_true rfl, Nat.le_of_ble_eq_true rfl⟩) hP hD hS hA [2] [0, 1] rfl rfl (by decide) (by decide) (fun r50 u50 H locs hq50 hP hD hS => ?_)
    replace hP : va_P (dC, dI) vwCl [(nwi, .inl (cI, 14, .inl (fun _ => 0))), (npl, .inl (cI, 28, .inl fp)), (n, .inr (8, [.int vleft, .int vmetres, .int vshut, .int 0, .int 0, .int vbagged, .int vwarmed, .ref nwi, .ref nco, .int vmeals, .ref nqu, .ref nmi, .ref nde, .ref nsa, .ref nsm, .int vsights, .ref npa, .int vpadMany, .ref nac, .ref nam, .ref naw, .int vacts, .int vgusty, .int vleakAct, .int vleakMuch, .int vendOfCan, .int vbadAct, .int vbadWhy, .int vburnt, .int vboiled, .ref ncs, .ref nbw, .ref ndc, .ref nmk, .int vhadLeft, .int vhadToday, .int vhadBagged, .int vhadWarmed, .int vleaves, .int vdayThen, .int vcoldThen, .ref npo, .int vportionMany, .ref nta, .ref npl, .int vleakMany, .int vleakActs, .ref nmm, .ref ncu, .ref nke, .ref nik, .int vkeptAt, .int visWriting]))] H := hP
    replace hD : va_D A [(nwi, .inl (cI, 14, .inl (fun _ => 0))), (npl, .inl (cI, 28, .inl fp)), (n, .inr (8, [.int vleft, .int vmetres, .int vshut, .int 0, .int 0, .int vbagged, .int vwarmed, .ref nwi, .ref nco, .int vmeals, .ref nqu, .ref nmi, .ref nde, .ref nsa, .ref nsm, .int vsights, .ref npa, .int vpadMany, .ref nac, .ref nam, .ref naw, .int vacts, .int vgusty, .int vleakAct, .int vleakMuch, .int vendOfCan, .int vbadAct, .int vbadWhy, .int vburnt, .int vboiled, .ref ncs, .ref nbw, .ref ndc, .ref nmk, .int vhadLeft, .int vhadToday, .int vhadBagged, .int vhadWarmed, .int vleaves, .int vdayThen, .int vcoldThen, .ref npo, .int vportionMany, .ref nta, .ref npl, .int vleakMany, .int vleakActs, .ref nmm, .ref ncu, .ref nke, .ref nik, .int vkeptAt, .int visWriting]))] := hD
    obtain rfl : r50 = 0 := hq50
    refine lv_iload_n hx hb dX8_layPlaces_32 rfl (lv_at hl 2 rfl) ?_
    refine lv_icmp_ne (tgt := 55) hx hb dX8_layPlaces_33 (by decide) (fun c51 => absurd c51 (by decide)) (fun c51 => ?_)
    refine lv_aload_n hx hb dX8_layPlaces_36 rfl (lv_at hl 3 rfl) ?_
    refine va_get (D := (dC, dI)) (ci := 8) (v := .ref npl) (C := RX8) (T := TX8) (N := 53) hx hb hts hin8 hown hK hP 2 rfl rfl 44 (by decide) hw2 (fun _ h9 => h9) rfl dX8_layPlaces_37 ?_
    refine lv_iload_n hx hb dX8_layPlaces_40 rfl (lv_at hl 1 rfl) ?_
    refine lv_iload_n hx hb dX8_layPlaces_41 rfl (lv_at hl 2 rfl) ?_
    refine va_iast hx hb hK hP hD hS 1 0 rfl rfl (vin (by omega) (by omega)) dX8_layPlaces_42 (fun H locs hP hD hS => ?_)
    replace hP : va_P (dC, dI) vwCl [(nwi, .inl (cI, 14, .inl (fun _ => 0))), (npl, .inl (cI, 28, .inl (upd fp y2.toNatClampNeg 0))), (n, .inr (8, [.int vleft, .int vmetres, .int vshut, .int 0, .int 0, .int vbagged, .int vwarmed, .ref nwi, .ref nco, .int vmeals, .ref nqu, .ref nmi, .ref nde, .ref nsa, .ref nsm, .int vsights, .ref npa, .int vpadMany, .ref nac, .ref nam, .ref naw, .int vacts, .int vgusty, .int vleakAct, .int vleakMuch, .int vendOfCan, .int vbadAct, .int vbadWhy, .int vburnt, .int vboiled, .ref ncs, .ref nbw, .ref ndc, .ref nmk, .int vhadLeft, .int vhadToday, .int vhadBagged, .int vhadWarmed, .int vleaves, .int vdayThen, .int vcoldThen, .ref npo, .int vportionMany, .ref nta, .ref npl, .int vleakMany, .int vleakActs, .ref nmm, .ref ncu, .ref nke, .ref nik, .int vkeptAt, .int visWriting]))] H := hP
    replace hD : va_D A [(nwi, .inl (cI, 14, .inl (fun _ => 0))), (npl, .inl (cI, 28, .inl (upd fp y2.toNatClampNeg 0))), (n, .inr (8, [.int vleft, .int vmetres, .int vshut, .int 0, .int 0, .int vbagged, .int vwarmed, .ref nwi, .ref nco, .int vmeals, .ref nqu, .ref nmi, .ref nde, .ref nsa, .ref nsm, .int vsights, .ref npa, .int vpadMany, .ref nac, .ref nam, .ref naw, .int vacts, .int vgusty, .int vleakAct, .int vleakMuch, .int vendOfCan, .int vbadAct, .int vbadWhy, .int vburnt, .int vboiled, .ref ncs, .ref nbw, .ref ndc, .ref nmk, .int vhadLeft, .int vhadToday, .int vhadBagged, .int vhadWarmed, .int vleaves, .int vdayThen, .int vcoldThen, .ref npo, .int vportionMany, .ref nta, .ref npl, .int vleakMany, .int vleakActs, .ref nmm, .ref ncu, .ref nke, .ref nik, .int vkeptAt, .int visWriting]))] := hD
    refine lv_aload_n hx hb dX8_layPlaces_43 rfl (lv_at hl 3 rfl) ?_
    refine va_get (D := (dC, dI)) (ci := 8) (v := .ref npl) (C := RX8) (T := TX8) (N := 53) hx hb hts hin8 hown hK hP 2 rfl rfl 44 (by decide) hw2 (fun _ h9 => h9) rfl dX8_layPlaces_44 ?_
    refine lv_iload_n hx hb dX8_layPlaces_47 rfl (lv_at hl 1 rfl) ?_
    refine lv_iconst (v := 1) hx hb dX8_layPlaces_48 (by decide) ?_
    refine lv_iadd hx hb dX8_layPlaces_49 ?_
    refine lv_topi (fun x52 e52 => ?_)
    have f52 : x52.toInt = y2.toInt + (1 : Int) := by rw [e52]; exact tadd (by have z8 : (1 : Int32).toInt = 1 := rfl; omega) (by have z8 : (1 : Int32).toInt = 1 := rfl; omega)
    refine lv_iload_n hx hb dX8_layPlaces_50 rfl (lv_at hl 2 rfl) ?_
    refine va_iast hx hb hK hP hD hS 1 0 rfl rfl (vin (by omega) (by omega)) dX8_layPlaces_51 (fun H locs hP hD hS => ?_)
    replace hP : va_P (dC, dI) vwCl [(nwi, .inl (cI, 14, .inl (fun _ => 0))), (npl, .inl (cI, 28, .inl (upd (upd fp y2.toNatClampNeg 0) x52.toNatClampNeg 0))), (n, .inr (8, [.int vleft, .int vmetres, .int vshut, .int 0, .int 0, .int vbagged, .int vwarmed, .ref nwi, .ref nco, .int vmeals, .ref nqu, .ref nmi, .ref nde, .ref nsa, .ref nsm, .int vsights, .ref npa, .int vpadMany, .ref nac, .ref nam, .ref naw, .int vacts, .int vgusty, .int vleakAct, .int vleakMuch, .int vendOfCan, .int vbadAct, .int vbadWhy, .int vburnt, .int vboiled, .ref ncs, .ref nbw, .ref ndc, .ref nmk, .int vhadLeft, .int vhadToday, .int vhadBagged, .int vhadWarmed, .int vleaves, .int vdayThen, .int vcoldThen, .ref npo, .int vportionMany, .ref nta, .ref npl, .int vleakMany, .int vleakActs, .ref nmm, .ref ncu, .ref nke, .ref nik, .int vkeptAt, .int visWriting]))] H := hP
    replace hD : va_D A [(nwi, .inl (cI, 14, .inl (fun _ => 0))), (npl, .inl (cI, 28, .inl (upd (upd fp y2.toNatClampNeg 0) x52.toNatClampNeg 0))), (n, .inr (8, [.int vleft, .int vmetres, .int vshut, .int 0, .int 0, .int vbagged, .int vwarmed, .ref nwi, .ref nco, .int vmeals, .ref nqu, .ref nmi, .ref nde, .ref nsa, .ref nsm, .int vsights, .ref npa, .int vpadMany, .ref nac, .ref nam, .ref naw, .int vacts, .int vgusty, .int vleakAct, .int vleakMuch, .int vendOfCan, .int vbadAct, .int vbadWhy, .int vburnt, .int vboiled, .ref ncs, .ref nbw, .ref ndc, .ref nmk, .int vhadLeft, .int vhadToday, .int vhadBagged, .int vhadWarmed, .int vleaves, .int vdayThen, .int vcoldThen, .ref npo, .int vportionMany, .ref nta, .ref npl, .int vleakMany, .int vleakActs, .ref nmm, .ref ncu, .ref nke, .ref nik, .int vkeptAt, .int visWriting]))] := hD
    obtain ⟨x53, e53⟩ : ∃ y : Int32, y = y2 + Int32.ofInt 2 := ⟨_, rfl⟩
    refine lv_iinc (v := x53) (lv' := [(2, .int x53), (4, .int y4), (3, .int 0), (0, .ref n), (1, .int i0)]) hx hb dX8_layPlaces_52 hl (k := 1) rfl e53.symm (by decide) rfl (fun ls hl => ?_)
    have f53 : x53.toInt = y2.toInt + 2 := by rw [e53]; exact tinc (by decide) (by omega) (by omega)
    obtain ⟨x54, e54⟩ : ∃ y : Int32, y = y4 + Int32.ofInt 1 := ⟨_, rfl⟩
    refine lv_iinc (v := x54) (lv' := [(4, .int x54), (2, .int x53), (3, .int 0), (0, .ref n), (1, .int i0)]) hx hb dX8_layPlaces_55 hl (k := 1) rfl e54.symm (by decide) rfl (fun ls hl => ?_)
    have f54 : x54.toInt = y4.toInt + 1 := by rw [e54]; exact tinc (by decide) (by omega) (by omega)
    refine lv_goto (tgt := 15) hx hb dX8_layPlaces_58 (by decide) ?_
    exact ih (H := H) (locs := locs) (ls := ls) (y2 := x53) (y4 := x54) (fp := (upd (upd fp y2.toNatClampNeg 0) x52.toNatClampNeg 0)) hS (by omega) (show lv_has ls 5 [(4, .int x54), (2, .int x53), (3, .int 0), (0, .ref n), (1, .int i0)] from lv_sub hl [0, 1, 2, 3, 4] rfl) (mx_subP (wc := [(nwi, .inl (cI, 14, .inl (fun _ => 0))), (npl, .inl (cI, 28, .inl (upd (upd fp y2.toNatClampNeg 0) x52.toNatClampNeg 0))), (n, .inr (8, [.int vleft, .int vmetres, .int vshut, .int 0, .int 0, .int vbagged, .int vwarmed, .ref nwi, .ref nco, .int vmeals, .ref nqu, .ref nmi, .ref nde, .ref nsa, .ref nsm, .int vsights, .ref npa, .int vpadMany, .ref nac, .ref nam, .ref naw, .int vacts, .int vgusty, .int vleakAct, .int vleakMuch, .int vendOfCan, .int vbadAct, .int vbadWhy, .int vburnt, .int vboiled, .ref ncs, .ref nbw, .ref ndc, .ref nmk, .int vhadLeft, .int vhadToday, .int vhadBagged, .int vhadWarmed, .int vleaves, .int vdayThen, .int vcoldThen, .ref npo, .int vportionMany, .ref nta, .ref npl, .int vleakMany, .int vleakActs, .ref nmm, .ref ncu, .ref nke, .ref nik, .int vkeptAt, .int visWriting]))]) hP [0, 1, 2] rfl) (hD.sub (ws' := [(nwi, .inl (cI, 14, .inl (fun _ => 0))), (npl, .inl (cI, 28, .inl (upd (upd fp y2.toNatClampNeg 0) x52.toNatClampNeg 0))), (n, .inr (8, [.int vleft, .int vmetres, .int vshut, .int 0, .int 0, .int vbagged, .int vwarmed, .ref nwi, .ref nco, .int vmeals, .ref nqu, .ref nmi, .ref nde, .ref nsa, .ref nsm, .int vsights, .ref npa, .int vpadMany, .ref nac, .ref nam, .ref naw, .int vacts, .int vgusty, .int vleakAct, .int vleakMuch, .int vendOfCan, .int vbadAct, .int vbadWhy, .int vburnt, .int vboiled, .ref ncs, .ref nbw, .ref ndc, .ref nmk, .int vhadLeft, .int vhadToday, .int vhadBagged, .int vhadWarmed, .int vleaves, .int vdayThen, .int vcoldThen, .ref npo, .int vportionMany, .ref nta, .ref npl, .int vleakMany, .int vleakActs, .ref nmm, .ref ncu, .ref nke, .ref nik, .int vkeptAt, .int visWriting]))]) [0, 1, 2] (by decide) rfl) (by omega)
