set_option maxHeartbeats 4000000 in
set_option maxRecDepth 100000 in
theorem c_X8_least0 (l : Launch) (dC : Nat → ClassId) (dI : Nat → Nat → Nat) (cI cZ cK : ClassId) (tS aK aV : Nat) (n : Nat) (nwi : Nat) (nco : Nat) (nqu : Nat) (nmi : Nat) (nde : Nat) (nsa : Nat) (nsm : Nat) (npa : Nat) (nac : Nat) (nam : Nat) (naw : Nat) (ncs : Nat) (nbw : Nat) (ndc : Nat) (nmk : Nat) (npo : Nat) (nta : Nat) (npl : Nat) (nmm : Nat) (ncu : Nat) (nke : Nat) (nik : Nat) (i1 : Int32) (sz : Nat) : Ci l yX8_least (wq yX8_least cX8_least 8 (some .int)) ({ frames := 2, cells := 0, slots := 0, locals := 46 }) dC dI cI cZ cK tS aK aV [.ref n, .int 0, .int i1] sz [(n, .inr (8, [.int 800, .int 0, .int 0, .int 0, .int 0, .int 0, .int 0, .ref nwi, .ref nco, .int 0, .ref nqu, .ref nmi, .ref nde, .ref nsa, .ref nsm, .int 0, .ref npa, .int 0, .ref nac, .ref nam, .ref naw, .int 0, .int 0, .int 0, .int 0, .int 0, .int 0, .int 0, .int 0, .int 0, .ref ncs, .ref nbw, .ref ndc, .ref nmk, .int 0, .int 0, .int 0, .int 0, .int 0, .int 0, .int 0, .ref npo, .int 0, .ref nta, .ref npl, .int 0, .int 0, .ref nmm, .ref ncu, .ref nke, .ref nik, .int 0, .int 0])), (npo, .inl (cI, 6, .inl (fun _ => 0))), (nwi, .inl (cI, 14, .inl (fun _ => 0))), (npl, .inl (cI, 28, .inl (fun _ => 0)))] (fun (r : Int32) (_ : Unit) => (r = 0 ∧ (0 ≤ i1.toInt ∧ i1.toInt ≤ 13)) ∨ (r = (-1) ∧ (i1.toInt < 0 ∨ 13 < i1.toInt))) (fun _ => []) := by
  refine Met.ofW (cc := cX8_least) (maxL := 8) (ret := (some .int)) (by decide) rfl ?_
  intro p e s m args below meth c s₁ B hml hv
  obtain ⟨rfl, hsz, hP, hKx, hD0⟩ := hv
  have hx := B.exec
  have hb := B.bytes
  have hr := B.returns
  have hts := atoms_spec (ws := wq yX8_least cX8_least 8 (some .int)) B.pre
  have hown : s.vm.findClass RX8 = some m.cls := findClass_of_methodNamed B.named
  have hlocks := B.notSynchronized
  subst hsz
  have hD := hD0.self (sz := s.heap.size)
  generalize hAe : va_A [(n, .inr (8, [.int 800, .int 0, .int 0, .int 0, .int 0, .int 0, .int 0, .ref nwi, .ref nco, .int 0, .ref nqu, .ref nmi, .ref nde, .ref nsa, .ref nsm, .int 0, .ref npa, .int 0, .ref nac, .ref nam, .ref naw, .int 0, .int 0, .int 0, .int 0, .int 0, .int 0, .int 0, .int 0, .int 0, .ref ncs, .ref nbw, .ref ndc, .ref nmk, .int 0, .int 0, .int 0, .int 0, .int 0, .int 0, .int 0, .ref npo, .int 0, .ref nta, .ref npl, .int 0, .int 0, .ref nmm, .ref ncu, .ref nke, .ref nik, .int 0, .int 0])), (npo, .inl (cI, 6, .inl (fun _ => 0))), (nwi, .inl (cI, 14, .inl (fun _ => 0))), (npl, .inl (cI, 28, .inl (fun _ => 0)))] s.heap.size = A at hD hKx ⊢
  have hA : ∀ q : Nat, s.heap.size ≤ q → A q := fun q h => by rw [← hAe]; exact Or.inr h
  have hS : va_S A s.heap s.heap [] := va_S.rf
  have hP : va_P (dC, dI) vwCl [(n, .inr (8, [.int 800, .int 0, .int 0, .int 0, .int 0, .int 0, .int 0, .ref nwi, .ref nco, .int 0, .ref nqu, .ref nmi, .ref nde, .ref nsa, .ref nsm, .int 0, .ref npa, .int 0, .ref nac, .ref nam, .ref naw, .int 0, .int 0, .int 0, .int 0, .int 0, .int 0, .int 0, .int 0, .int 0, .ref ncs, .ref nbw, .ref ndc, .ref nmk, .int 0, .int 0, .int 0, .int 0, .int 0, .int 0, .int 0, .ref npo, .int 0, .ref nta, .ref npl, .int 0, .int 0, .ref nmm, .ref ncu, .ref nke, .ref nik, .int 0, .int 0])), (npo, .inl (cI, 6, .inl (fun _ => 0))), (nwi, .inl (cI, 14, .inl (fun _ => 0))), (npl, .inl (cI, 28, .inl (fun _ => 0)))] s.heap := hP
  have hl := lv_entry ([.ref n, .int 0, .int i1]) (n := 8) (Nat.le_of_ble_eq_true rfl)
  rw [lg_entry_eq]
  generalize (lg_sl ([.ref n, .int 0, .int i1]) ++ List.replicate (8 - (lg_sl ([.ref n, .int 0, .int i1])).length) Slot.unset).toArray = ls at hl ⊢
  have hl : lv_has ls 8 [(0, .ref n), (1, .int 0), (2, .int i1)] := hl
  have hK := hKx.1
  have hin8 := fun w9 h9 => List.mem_cons_of_mem (Cond.code yX8_least cX8_least 8 (some .int)) (inlX8 w9 h9)
  have hw0 := hts (.fieldLink RX8 249 "OneCanModel" "portionMany" "I") (List.mem_cons_of_mem _ wm_479)
  have hw1 := hts (.fieldLink RX8 55 "OneCanModel" "portion" "[I") (List.mem_cons_of_mem _ wm_480)
  refine lv_iload_n hx hb dX8_least_0 rfl (lv_at hl 1 rfl) ?_
  refine mx_i (wr := [(n, .inr (8, [.int 800, .int 0, .int 0, .int 0, .int 0, .int 0, .int 0, .ref nwi, .ref nco, .int 0, .ref nqu, .ref nmi, .ref nde, .ref nsa, .ref nsm, .int 0, .ref npa, .int 0, .ref nac, .ref nam, .ref naw, .int 0, .int 0, .int 0, .int 0, .int 0, .int 0, .int 0, .int 0, .int 0, .ref ncs, .ref nbw, .ref ndc, .ref nmk, .int 0, .int 0, .int 0, .int 0, .int 0, .int 0, .int 0, .ref npo, .int 0, .ref nta, .ref npl, .int 0, .int 0, .ref nmm, .ref ncu, .ref nke, .ref nik, .int 0, .int 0])), (npo, .inl (cI, 6, .inl (fun _ => 0))), (nwi, .inl (cI, 14, .inl (fun _ => 0))), (npl, .inl (cI, 28, .inl (fun _ => 0)))]) (va_runS (As := [.int 0]) (rest := []) ⟨hx, hb, hml, hown, hts⟩ (c_X8_arePortions l dC dI cI cZ cK tS aK aV 0 s.heap.size) (va_cwS 1 hts (gw_s (fun _ h9 => List.mem_cons_of_mem _ h9) wm_481 wm_482 wm_385 wm_483) rfl rfl rfl (by decide +kernel) ⟨Nat.le_of_ble_eq_true rfl, Nat.le_of_ble_eq_true rfl⟩) (mx_preS hKx hP hD hS hA [] (by decide) rfl) rfl rfl hl.1 rfl (lv_room (Nat.le_of_ble_eq_true rfl)) dX8_least_1 ⟨Nat.le_of_ble_eq_true rfl, Nat.le_of_ble_eq_true rfl⟩) hP hD hS hA [] [0, 1, 2, 3] rfl rfl (by decide) (by decide) (fun r1 u1 H locs hq1 hP hD hS => ?_)
  replace hP : va_P (dC, dI) vwCl [(n, .inr (8, [.int 800, .int 0, .int 0, .int 0, .int 0, .int 0, .int 0, .ref nwi, .ref nco, .int 0, .ref nqu, .ref nmi, .ref nde, .ref nsa, .ref nsm, .int 0, .ref npa, .int 0, .ref nac, .ref nam, .ref naw, .int 0, .int 0, .int 0, .int 0, .int 0, .int 0, .int 0, .int 0, .int 0, .ref ncs, .ref nbw, .ref ndc, .ref nmk, .int 0, .int 0, .int 0, .int 0, .int 0, .int 0, .int 0, .ref npo, .int 0, .ref nta, .ref npl, .int 0, .int 0, .ref nmm, .ref ncu, .ref nke, .ref nik, .int 0, .int 0])), (npo, .inl (cI, 6, .inl (fun _ => 0))), (nwi, .inl (cI, 14, .inl (fun _ => 0))), (npl, .inl (cI, 28, .inl (fun _ => 0)))] H := hP
  replace hD : va_D A [(n, .inr (8, [.int 800, .int 0, .int 0, .int 0, .int 0, .int 0, .int 0, .ref nwi, .ref nco, .int 0, .ref nqu, .ref nmi, .ref nde, .ref nsa, .ref nsm, .int 0, .ref npa, .int 0, .ref nac, .ref nam, .ref naw, .int 0, .int 0, .int 0, .int 0, .int 0, .int 0, .int 0, .int 0, .int 0, .ref ncs, .ref nbw, .ref ndc, .ref nmk, .int 0, .int 0, .int 0, .int 0, .int 0, .int 0, .int 0, .ref npo, .int 0, .ref nta, .ref npl, .int 0, .int 0, .ref nmm, .ref ncu, .ref nke, .ref nik, .int 0, .int 0])), (npo, .inl (cI, 6, .inl (fun _ => 0))), (nwi, .inl (cI, 14, .inl (fun _ => 0))), (npl, .inl (cI, 28, .inl (fun _ => 0)))] := hD
  rcases hq1 with ⟨rfl, hf1⟩ | ⟨rfl, hf1⟩
  · have hf1 : 0 ≤ (0 : Int) ∧ (0 : Int) ≤ 999999 := hf1
    refine lv_if_ne (tgt := 10) hx hb dX8_least_4 (by decide) (fun c2 => ?_) (fun c2 => absurd c2 (by decide))
    refine lv_aload_n hx hb dX8_least_10 rfl (lv_at hl 0 rfl) ?_
    refine lv_iload_n hx hb dX8_least_11 rfl (lv_at hl 2 rfl) ?_
    refine mx_i (wr := [(npo, .inl (cI, 6, .inl (fun _ => 0))), (nwi, .inl (cI, 14, .inl (fun _ => 0))), (npl, .inl (cI, 28, .inl (fun _ => 0)))]) (va_runV (As := [.int i1]) (rest := []) ⟨hx, hb, hml, hown, hts⟩ (c_X8_isDayOn l dC dI cI cZ cK tS aK aV n nwi nco nqu nmi nde nsa nsm npa nac nam naw ncs nbw ndc nmk npo nta npl nmm ncu nke nik 800 0 0 0 0 0 0 0 0 0 0 0 0 0 0 0 0 0 0 0 0 0 0 0 0 0 0 0 0 0 i1 H.size) (cwV 1 hts (gw_v (fun _ h9 => List.mem_cons_of_mem _ h9) wm_489 wm_490 wm_491 wm_385 wm_492) rfl rfl rfl (by decide +kernel) ⟨Nat.le_of_ble_eq_true rfl, Nat.le_of_ble_eq_true rfl⟩) (mx_preV (C := RX8) (T := TX8) (N := 53) (ci := 8) hKx hP hD hS hA [0] (by decide) rfl rfl rfl) rfl rfl hl.1 rfl (lv_room (Nat.le_of_ble_eq_true rfl)) dX8_least_12 ⟨Nat.le_of_ble_eq_true rfl, Nat.le_of_ble_eq_true rfl⟩) hP hD hS hA [0] [1, 2, 3] rfl rfl (by decide) (by decide) (fun r3 u3 H locs hq3 hP hD hS => ?_)
    replace hP : va_P (dC, dI) vwCl [(npo, .inl (cI, 6, .inl (fun _ => 0))), (nwi, .inl (cI, 14, .inl (fun _ => 0))), (npl, .inl (cI, 28, .inl (fun _ => 0))), (n, .inr (8, [.int 800, .int 0, .int 0, .int 0, .int 0, .int 0, .int 0, .ref nwi, .ref nco, .int 0, .ref nqu, .ref nmi, .ref nde, .ref nsa, .ref nsm, .int 0, .ref npa, .int 0, .ref nac, .ref nam, .ref naw, .int 0, .int 0, .int 0, .int 0, .int 0, .int 0, .int 0, .int 0, .int 0, .ref ncs, .ref nbw, .ref ndc, .ref nmk, .int 0, .int 0, .int 0, .int 0, .int 0, .int 0, .int 0, .ref npo, .int 0, .ref nta, .ref npl, .int 0, .int 0, .ref nmm, .ref ncu, .ref nke, .ref nik, .int 0, .int 0]))] H := hP
    replace hD : va_D A [(npo, .inl (cI, 6, .inl (fun _ => 0))), (nwi, .inl (cI, 14, .inl (fun _ => 0))), (npl, .inl (cI, 28, .inl (fun _ => 0))), (n, .inr (8, [.int 800, .int 0, .int 0, .int 0, .int 0, .int 0, .int 0, .ref nwi, .ref nco, .int 0, .ref nqu, .ref nmi, .ref nde, .ref nsa, .ref nsm, .int 0, .ref npa, .int 0, .ref nac, .ref nam, .ref naw, .int 0, .int 0, .int 0, .int 0, .int 0, .int 0, .int 0, .int 0, .int 0, .ref ncs, .ref nbw, .ref ndc, .ref nmk, .int 0, .int 0, .int 0, .int 0, .int 0, .int 0, .int 0, .ref npo, .int 0, .ref nta, .ref npl, .int 0, .int 0, .ref nmm, .ref ncu, .ref nke, .ref nik, .int 0, .int 0]))] := hD
    rcases hq3 with ⟨rfl, hf3⟩ | ⟨rfl, hf3⟩
    · have hf3 : 0 ≤ i1.toInt ∧ i1.toInt ≤ 13 := hf3
      refine lv_if_eq (tgt := 26) hx hb dX8_least_15 (by decide) (fun c4 => absurd c4 (by decide)) (fun c4 => ?_)
      refine lv_aload_n hx hb dX8_least_18 rfl (lv_at hl 0 rfl) ?_
      refine lv_iload_n hx hb dX8_least_19 rfl (lv_at hl 1 rfl) ?_
      refine mx_i (wr := [(nwi, .inl (cI, 14, .inl (fun _ => 0))), (npl, .inl (cI, 28, .inl (fun _ => 0)))]) (va_runV (As := [.int 0]) (rest := []) ⟨hx, hb, hml, hown, hts⟩ (c_X8_layPortions0 l dC dI cI cZ cK tS aK aV n nwi nco nqu nmi nde nsa nsm npa nac nam naw ncs nbw ndc nmk npo nta npl nmm ncu nke nik H.size) (cwV 1 hts (gw_v (fun _ h9 => List.mem_cons_of_mem _ h9) wm_484 wm_485 wm_486 wm_385 wm_487) rfl rfl rfl (by decide +kernel) ⟨Nat.le_of_ble_eq_true rfl, Nat.le_of_ble_eq_true rfl⟩) (mx_preV (C := RX8) (T := TX8) (N := 53) (ci := 8) hKx hP hD hS hA [3, 0] (by decide) rfl rfl rfl) rfl rfl hl.1 rfl (lv_room (Nat.le_of_ble_eq_true rfl)) dX8_least_20 ⟨Nat.le_of_ble_eq_true rfl, Nat.le_of_ble_eq_true rfl⟩) hP hD hS hA [3, 0] [1, 2] rfl rfl (by decide) (by decide) (fun r5 u5 H locs hq5 hP hD hS => ?_)
      replace hP : va_P (dC, dI) vwCl [(nwi, .inl (cI, 14, .inl (fun _ => 0))), (npl, .inl (cI, 28, .inl (fun _ => 0))), (n, .inr (8, [.int 800, .int 0, .int 0, .int 0, .int 0, .int 0, .int 0, .ref nwi, .ref nco, .int 0, .ref nqu, .ref nmi, .ref nde, .ref nsa, .ref nsm, .int 0, .ref npa, .int 0, .ref nac, .ref nam, .ref naw, .int 0, .int 0, .int 0, .int 0, .int 0, .int 0, .int 0, .int 0, .int 0, .ref ncs, .ref nbw, .ref ndc, .ref nmk, .int 0, .int 0, .int 0, .int 0, .int 0, .int 0, .int 0, .ref npo, .int 0, .ref nta, .ref npl, .int 0, .int 0, .ref nmm, .ref ncu, .ref nke, .ref nik, .int 0, .int 0])), (npo, .inl (cI, 6, .inl (upd (upd (upd (upd (upd (upd (fun _ => 0) 5 0) 4 0) 3 0) 2 0) 1 0) 0 0)))] H := hP
      replace hD : va_D A [(nwi, .inl (cI, 14, .inl (fun _ => 0))), (npl, .inl (cI, 28, .inl (fun _ => 0))), (n, .inr (8, [.int 800, .int 0, .int 0, .int 0, .int 0, .int 0, .int 0, .ref nwi, .ref nco, .int 0, .ref nqu, .ref nmi, .ref nde, .ref nsa, .ref nsm, .int 0, .ref npa, .int 0, .ref nac, .ref nam, .ref naw, .int 0, .int 0, .int 0, .int 0, .int 0, .int 0, .int 0, .int 0, .int 0, .ref ncs, .ref nbw, .ref ndc, .ref nmk, .int 0, .int 0, .int 0, .int 0, .int 0, .int 0, .int 0, .ref npo, .int 0, .ref nta, .ref npl, .int 0, .int 0, .ref nmm, .ref ncu, .ref nke, .ref nik, .int 0, .int 0])), (npo, .inl (cI, 6, .inl (upd (upd (upd (upd (upd (upd (fun _ => 0) 5 0) 4 0) 3 0) 2 0) 1 0) 0 0)))] := hD
      obtain rfl : r5 = 1 := hq5
      refine lv_if_ne (tgt := 28) hx hb dX8_least_23 (by decide) (fun c6 => ?_) (fun c6 => absurd c6 (by decide))
      refine lv_aload_n hx hb dX8_least_28 rfl (lv_at hl 0 rfl) ?_
      refine va_get (D := (dC, dI)) (ci := 8) (v := .int 0) (C := RX8) (T := TX8) (N := 53) hx hb hts hin8 hown hK hP 2 rfl rfl 42 (by decide) hw0 (fun _ h9 => h9) rfl dX8_least_29 ?_
      refine lv_bipush (v := 12) hx hb dX8_least_32 (by decide) ?_
      refine lv_icmp_le (tgt := 40) hx hb dX8_least_34 (by decide) (fun c7 => ?_) (fun c7 => absurd c7 (by decide))
      refine lv_aload_n hx hb dX8_least_40 rfl (lv_at hl 0 rfl) ?_
      refine lv_iload_n hx hb dX8_least_41 rfl (lv_at hl 2 rfl) ?_
      refine mx_i (wr := [(npo, .inl (cI, 6, .inl (upd (upd (upd (upd (upd (upd (fun _ => 0) 5 0) 4 0) 3 0) 2 0) 1 0) 0 0)))]) (va_runV (As := [.int i1]) (rest := []) ⟨hx, hb, hml, hown, hts⟩ (c_X8_layPlaces l dC dI cI cZ cK tS aK aV n nwi nco nqu nmi nde nsa nsm npa nac nam naw ncs nbw ndc nmk npo nta npl nmm ncu nke nik 800 0 0 0 0 0 0 0 0 0 0 0 0 0 0 0 0 0 0 0 0 0 0 0 0 0 0 0 0 i1 H.size (by have z8 : (0 : Int32).toInt = 0 := rfl; have z8 : (800 : Int32).toInt = 800 := rfl; first | omega | decide | assumption | trivial)) (cwV 1 hts (gw_v (fun _ h9 => List.mem_cons_of_mem _ h9) wm_506 wm_507 wm_508 wm_385 wm_509) rfl rfl rfl (by decide +kernel) ⟨Nat.le_of_ble_eq_true rfl, Nat.le_of_ble_eq_true rfl⟩) (mx_preV (C := RX8) (T := TX8) (N := 53) (ci := 8) hKx hP hD hS hA [2, 0, 1] (by decide) rfl rfl rfl) rfl rfl hl.1 rfl (lv_room (Nat.le_of_ble_eq_true rfl)) dX8_least_42 ⟨Nat.le_of_ble_eq_true rfl, Nat.le_of_ble_eq_true rfl⟩) hP hD hS hA [2, 0, 1] [3] rfl rfl (by decide) (by decide) (fun r8 u8 H locs hq8 hP hD hS => ?_)
      replace hP : va_P (dC, dI) vwCl [(npo, .inl (cI, 6, .inl (upd (upd (upd (upd (upd (upd (fun _ => 0) 5 0) 4 0) 3 0) 2 0) 1 0) 0 0))), (n, .inr (8, [.int 800, .int 0, .int 0, .int 0, .int 0, .int 0, .int 0, .ref nwi, .ref nco, .int 0, .ref nqu, .ref nmi, .ref nde, .ref nsa, .ref nsm, .int 0, .ref npa, .int 0, .ref nac, .ref nam, .ref naw, .int 0, .int 0, .int 0, .int 0, .int 0, .int 0, .int 0, .int 0, .int 0, .ref ncs, .ref nbw, .ref ndc, .ref nmk, .int 0, .int 0, .int 0, .int 0, .int 0, .int 0, .int 0, .ref npo, .int 0, .ref nta, .ref npl, .int 0, .int 0, .ref nmm, .ref ncu, .ref nke, .ref nik, .int 0, .int 0])), (nwi, .inl (cI, 14, .inl (fun _ => 0)))] H := hP
      replace hD : va_D A [(npo, .inl (cI, 6, .inl (upd (upd (upd (upd (upd (upd (fun _ => 0) 5 0) 4 0) 3 0) 2 0) 1 0) 0 0))), (n, .inr (8, [.int 800, .int 0, .int 0, .int 0, .int 0, .int 0, .int 0, .ref nwi, .ref nco, .int 0, .ref nqu, .ref nmi, .ref nde, .ref nsa, .ref nsm, .int 0, .ref npa, .int 0, .ref nac, .ref nam, .ref naw, .int 0, .int 0, .int 0, .int 0, .int 0, .int 0, .int 0, .int 0, .int 0, .ref ncs, .ref nbw, .ref ndc, .ref nmk, .int 0, .int 0, .int 0, .int 0, .int 0, .int 0, .int 0, .ref npo, .int 0, .ref nta, .ref npl, .int 0, .int 0, .ref nmm, .ref ncu, .ref nke, .ref nik, .int 0, .int 0])), (nwi, .inl (cI, 14, .inl (fun _ => 0)))] := hD
      have hf8 := hq8
      · have hf8 : 0 ≤ r8.toInt ∧ r8.toInt ≤ 28 := hf8
        refine lv_aload_n hx hb dX8_least_45 rfl (lv_at hl 0 rfl) ?_
        refine va_get (D := (dC, dI)) (ci := 8) (v := .int 0) (C := RX8) (T := TX8) (N := 53) hx hb hts hin8 hown hK hP 1 rfl rfl 42 (by decide) hw0 (fun _ h9 => h9) rfl dX8_least_46 ?_
        refine lv_icmp_ge (tgt := 55) hx hb dX8_least_49 (by decide) (fun c9 => ?_) (fun c9 => by exfalso; have t9 : r8.toInt < (0 : Int) := (tnle c9); omega)
        refine lv_iconst (v := 0) hx hb dX8_least_55 (by decide) ?_
        refine lv_istore_n (lv' := [(3, .int 0), (0, .ref n), (1, .int 0), (2, .int i1)]) hx hb dX8_least_56 rfl hl (by decide) rfl (fun ls hl => ?_)
        refine lv_iconst (v := 0) hx hb dX8_least_57 (by decide) ?_
        refine lv_istore (lv' := [(4, .int 0), (3, .int 0), (0, .ref n), (1, .int 0), (2, .int i1)]) hx hb dX8_least_58 hl (by decide) rfl (fun ls hl => ?_)
        refine lv_iconst (v := 4) hx hb dX8_least_60 (by decide) ?_
        refine lv_istore (lv' := [(5, .int 4), (4, .int 0), (3, .int 0), (0, .ref n), (1, .int 0), (2, .int i1)]) hx hb dX8_least_61 hl (by decide) rfl (fun ls hl => ?_)
        refine lv_iload hx hb dX8_least_63 (lv_at hl 0 rfl) ?_
        refine lv_if_le (tgt := 152) hx hb dX8_least_65 (by decide) (fun c10 => absurd c10 (by decide)) (fun c10 => ?_)
        refine lv_iconst (v := 0) hx hb dX8_least_68 (by decide) ?_
        refine lv_istore (lv' := [(6, .int 0), (5, .int 4), (4, .int 0), (3, .int 0), (0, .ref n), (1, .int 0), (2, .int i1)]) hx hb dX8_least_69 hl (by decide) rfl (fun ls hl => ?_)
        refine lv_iload hx hb dX8_least_71 (lv_at hl 0 rfl) ?_
        refine lv_bipush (v := 6) hx hb dX8_least_73 (by decide) ?_
        refine lv_icmp_ge (tgt := 146) hx hb dX8_least_75 (by decide) (fun c11 => absurd c11 (by decide)) (fun c11 => ?_)
        refine lv_iconst (v := 0) hx hb dX8_least_78 (by decide) ?_
        refine lv_istore (lv' := [(7, .int 0), (6, .int 0), (5, .int 4), (4, .int 0), (3, .int 0), (0, .ref n), (1, .int 0), (2, .int i1)]) hx hb dX8_least_79 hl (by decide) rfl (fun ls hl => ?_)
        refine lv_iload hx hb dX8_least_81 (lv_at hl 0 rfl) ?_
        refine lv_aload_n hx hb dX8_least_83 rfl (lv_at hl 5 rfl) ?_
        refine va_get (D := (dC, dI)) (ci := 8) (v := .ref npo) (C := RX8) (T := TX8) (N := 53) hx hb hts hin8 hown hK hP 1 rfl rfl 41 (by decide) hw1 (fun _ h9 => h9) rfl dX8_least_84 ?_
        refine lv_iload hx hb dX8_least_87 (lv_at hl 1 rfl) ?_
        refine va_iald hx hb hK hP 0 0 rfl rfl (vin (by decide) (by decide)) dX8_least_89 ?_
        refine lv_topi (fun x12 e12 => ?_)
        obtain rfl : x12 = 0 := e12.trans (by first | rfl | decide)
        refine lv_icmp_ge (tgt := 140) hx hb dX8_least_90 (by decide) (fun c13 => ?_) (fun c13 => absurd c13 (by decide))
        refine lv_iinc (v := 1) (lv' := [(6, .int 1), (7, .int 0), (5, .int 4), (4, .int 0), (3, .int 0), (0, .ref n), (1, .int 0), (2, .int i1)]) hx hb dX8_least_140 hl (k := 1) rfl (by decide) (by decide) rfl (fun ls hl => ?_)
        refine lv_goto (tgt := 71) hx hb dX8_least_143 (by decide) ?_
        refine lv_iload hx hb dX8_least_71 (lv_at hl 0 rfl) ?_
        refine lv_bipush (v := 6) hx hb dX8_least_73 (by decide) ?_
        refine lv_icmp_ge (tgt := 146) hx hb dX8_least_75 (by decide) (fun c14 => absurd c14 (by decide)) (fun c14 => ?_)
        refine lv_iconst (v := 0) hx hb dX8_least_78 (by decide) ?_
        refine lv_istore (lv' := [(7, .int 0), (6, .int 1), (5, .int 4), (4, .int 0), (3, .int 0), (0, .ref n), (1, .int 0), (2, .int i1)]) hx hb dX8_least_79 hl (by decide) rfl (fun ls hl => ?_)
        refine lv_iload hx hb dX8_least_81 (lv_at hl 0 rfl) ?_
        refine lv_aload_n hx hb dX8_least_83 rfl (lv_at hl 5 rfl) ?_
        refine va_get (D := (dC, dI)) (ci := 8) (v := .ref npo) (C := RX8) (T := TX8) (N := 53) hx hb hts hin8 hown hK hP 1 rfl rfl 41 (by decide) hw1 (fun _ h9 => h9) rfl dX8_least_84 ?_
        refine lv_iload hx hb dX8_least_87 (lv_at hl 1 rfl) ?_
        refine va_iald hx hb hK hP 0 0 rfl rfl (vin (by decide) (by decide)) dX8_least_89 ?_
        refine lv_topi (fun x15 e15 => ?_)
        obtain rfl : x15 = 0 := e15.trans (by first | rfl | decide)
        refine lv_icmp_ge (tgt := 140) hx hb dX8_least_90 (by decide) (fun c16 => ?_) (fun c16 => absurd c16 (by decide))
        refine lv_iinc (v := 2) (lv' := [(6, .int 2), (7, .int 0), (5, .int 4), (4, .int 0), (3, .int 0), (0, .ref n), (1, .int 0), (2, .int i1)]) hx hb dX8_least_140 hl (k := 1) rfl (by decide) (by decide) rfl (fun ls hl => ?_)
        refine lv_goto (tgt := 71) hx hb dX8_least_143 (by decide) ?_
        refine lv_iload hx hb dX8_least_71 (lv_at hl 0 rfl) ?_
        refine lv_bipush (v := 6) hx hb dX8_least_73 (by decide) ?_
        refine lv_icmp_ge (tgt := 146) hx hb dX8_least_75 (by decide) (fun c17 => absurd c17 (by decide)) (fun c17 => ?_)
        refine lv_iconst (v := 0) hx hb dX8_least_78 (by decide) ?_
        refine lv_istore (lv' := [(7, .int 0), (6, .int 2), (5, .int 4), (4, .int 0), (3, .int 0), (0, .ref n), (1, .int 0), (2, .int i1)]) hx hb dX8_least_79 hl (by decide) rfl (fun ls hl => ?_)
        refine lv_iload hx hb dX8_least_81 (lv_at hl 0 rfl) ?_
        refine lv_aload_n hx hb dX8_least_83 rfl (lv_at hl 5 rfl) ?_
        refine va_get (D := (dC, dI)) (ci := 8) (v := .ref npo) (C := RX8) (T := TX8) (N := 53) hx hb hts hin8 hown hK hP 1 rfl rfl 41 (by decide) hw1 (fun _ h9 => h9) rfl dX8_least_84 ?_
        refine lv_iload hx hb dX8_least_87 (lv_at hl 1 rfl) ?_
        refine va_iald hx hb hK hP 0 0 rfl rfl (vin (by decide) (by decide)) dX8_least_89 ?_
        refine lv_topi (fun x18 e18 => ?_)
        obtain rfl : x18 = 0 := e18.trans (by first | rfl | decide)
        refine lv_icmp_ge (tgt := 140) hx hb dX8_least_90 (by decide) (fun c19 => ?_) (fun c19 => absurd c19 (by decide))
        refine lv_iinc (v := 3) (lv' := [(6, .int 3), (7, .int 0), (5, .int 4), (4, .int 0), (3, .int 0), (0, .ref n), (1, .int 0), (2, .int i1)]) hx hb dX8_least_140 hl (k := 1) rfl (by decide) (by decide) rfl (fun ls hl => ?_)
        refine lv_goto (tgt := 71) hx hb dX8_least_143 (by decide) ?_
        refine lv_iload hx hb dX8_least_71 (lv_at hl 0 rfl) ?_
        refine lv_bipush (v := 6) hx hb dX8_least_73 (by decide) ?_
        refine lv_icmp_ge (tgt := 146) hx hb dX8_least_75 (by decide) (fun c20 => absurd c20 (by decide)) (fun c20 => ?_)
        refine lv_iconst (v := 0) hx hb dX8_least_78 (by decide) ?_
        refine lv_istore (lv' := [(7, .int 0), (6, .int 3), (5, .int 4), (4, .int 0), (3, .int 0), (0, .ref n), (1, .int 0), (2, .int i1)]) hx hb dX8_least_79 hl (by decide) rfl (fun ls hl => ?_)
        refine lv_iload hx hb dX8_least_81 (lv_at hl 0 rfl) ?_
        refine lv_aload_n hx hb dX8_least_83 rfl (lv_at hl 5 rfl) ?_
        refine va_get (D := (dC, dI)) (ci := 8) (v := .ref npo) (C := RX8) (T := TX8) (N := 53) hx hb hts hin8 hown hK hP 1 rfl rfl 41 (by decide) hw1 (fun _ h9 => h9) rfl dX8_least_84 ?_
        refine lv_iload hx hb dX8_least_87 (lv_at hl 1 rfl) ?_
        refine va_iald hx hb hK hP 0 0 rfl rfl (vin (by decide) (by decide)) dX8_least_89 ?_
        refine lv_topi (fun x21 e21 => ?_)
        obtain rfl : x21 = 0 := e21.trans (by first | rfl | decide)
        refine lv_icmp_ge (tgt := 140) hx hb dX8_least_90 (by decide) (fun c22 => ?_) (fun c22 => absurd c22 (by decide))
        refine lv_iinc (v := 4) (lv' := [(6, .int 4), (7, .int 0), (5, .int 4), (4, .int 0), (3, .int 0), (0, .ref n), (1, .int 0), (2, .int i1)]) hx hb dX8_least_140 hl (k := 1) rfl (by decide) (by decide) rfl (fun ls hl => ?_)
        refine lv_goto (tgt := 71) hx hb dX8_least_143 (by decide) ?_
        refine lv_iload hx hb dX8_least_71 (lv_at hl 0 rfl) ?_
        refine lv_bipush (v := 6) hx hb dX8_least_73 (by decide) ?_
        refine lv_icmp_ge (tgt := 146) hx hb dX8_least_75 (by decide) (fun c23 => absurd c23 (by decide)) (fun c23 => ?_)
        refine lv_iconst (v := 0) hx hb dX8_least_78 (by decide) ?_
        refine lv_istore (lv' := [(7, .int 0), (6, .int 4), (5, .int 4), (4, .int 0), (3, .int 0), (0, .ref n), (1, .int 0), (2, .int i1)]) hx hb dX8_least_79 hl (by decide) rfl (fun ls hl => ?_)
        refine lv_iload hx hb dX8_least_81 (lv_at hl 0 rfl) ?_
        refine lv_aload_n hx hb dX8_least_83 rfl (lv_at hl 5 rfl) ?_
        refine va_get (D := (dC, dI)) (ci := 8) (v := .ref npo) (C := RX8) (T := TX8) (N := 53) hx hb hts hin8 hown hK hP 1 rfl rfl 41 (by decide) hw1 (fun _ h9 => h9) rfl dX8_least_84 ?_
        refine lv_iload hx hb dX8_least_87 (lv_at hl 1 rfl) ?_
        refine va_iald hx hb hK hP 0 0 rfl rfl (vin (by decide) (by decide)) dX8_least_89 ?_
        refine lv_topi (fun x24 e24 => ?_)
        obtain rfl : x24 = 0 := e24.trans (by first | rfl | decide)
        refine lv_icmp_ge (tgt := 140) hx hb dX8_least_90 (by decide) (fun c25 => ?_) (fun c25 => absurd c25 (by decide))
        refine lv_iinc (v := 5) (lv' := [(6, .int 5), (7, .int 0), (5, .int 4), (4, .int 0), (3, .int 0), (0, .ref n), (1, .int 0), (2, .int i1)]) hx hb dX8_least_140 hl (k := 1) rfl (by decide) (by decide) rfl (fun ls hl => ?_)
        refine lv_goto (tgt := 71) hx hb dX8_least_143 (by decide) ?_
        refine lv_iload hx hb dX8_least_71 (lv_at hl 0 rfl) ?_
        refine lv_bipush (v := 6) hx hb dX8_least_73 (by decide) ?_
        refine lv_icmp_ge (tgt := 146) hx hb dX8_least_75 (by decide) (fun c26 => absurd c26 (by decide)) (fun c26 => ?_)
        refine lv_iconst (v := 0) hx hb dX8_least_78 (by decide) ?_
        refine lv_istore (lv' := [(7, .int 0), (6, .int 5), (5, .int 4), (4, .int 0), (3, .int 0), (0, .ref n), (1, .int 0), (2, .int i1)]) hx hb dX8_least_79 hl (by decide) rfl (fun ls hl => ?_)
        refine lv_iload hx hb dX8_least_81 (lv_at hl 0 rfl) ?_
        refine lv_aload_n hx hb dX8_least_83 rfl (lv_at hl 5 rfl) ?_
        refine va_get (D := (dC, dI)) (ci := 8) (v := .ref npo) (C := RX8) (T := TX8) (N := 53) hx hb hts hin8 hown hK hP 1 rfl rfl 41 (by decide) hw1 (fun _ h9 => h9) rfl dX8_least_84 ?_
        refine lv_iload hx hb dX8_least_87 (lv_at hl 1 rfl) ?_
        refine va_iald hx hb hK hP 0 0 rfl rfl (vin (by decide) (by decide)) dX8_least_89 ?_
        refine lv_topi (fun x27 e27 => ?_)
        obtain rfl : x27 = 0 := e27.trans (by first | rfl | decide)
        refine lv_icmp_ge (tgt := 140) hx hb dX8_least_90 (by decide) (fun c28 => ?_) (fun c28 => absurd c28 (by decide))
        refine lv_iinc (v := 6) (lv' := [(6, .int 6), (7, .int 0), (5, .int 4), (4, .int 0), (3, .int 0), (0, .ref n), (1, .int 0), (2, .int i1)]) hx hb dX8_least_140 hl (k := 1) rfl (by decide) (by decide) rfl (fun ls hl => ?_)
        refine lv_goto (tgt := 71) hx hb dX8_least_143 (by decide) ?_
        refine lv_iload hx hb dX8_least_71 (lv_at hl 0 rfl) ?_
        refine lv_bipush (v := 6) hx hb dX8_least_73 (by decide) ?_
        refine lv_icmp_ge (tgt := 146) hx hb dX8_least_75 (by decide) (fun c29 => ?_) (fun c29 => absurd c29 (by decide))
        refine lv_iinc (v := 3) (lv' := [(5, .int 3), (6, .int 6), (7, .int 0), (4, .int 0), (3, .int 0), (0, .ref n), (1, .int 0), (2, .int i1)]) hx hb dX8_least_146 hl (k := 2) rfl (by decide) (by decide) rfl (fun ls hl => ?_)
        refine lv_goto (tgt := 63) hx hb dX8_least_149 (by decide) ?_
        refine lv_iload hx hb dX8_least_63 (lv_at hl 0 rfl) ?_
        refine lv_if_le (tgt := 152) hx hb dX8_least_65 (by decide) (fun c30 => absurd c30 (by decide)) (fun c30 => ?_)
        refine lv_iconst (v := 0) hx hb dX8_least_68 (by decide) ?_
        refine lv_istore (lv' := [(6, .int 0), (5, .int 3), (7, .int 0), (4, .int 0), (3, .int 0), (0, .ref n), (1, .int 0), (2, .int i1)]) hx hb dX8_least_69 hl (by decide) rfl (fun ls hl => ?_)
        refine lv_iload hx hb dX8_least_71 (lv_at hl 0 rfl) ?_
        refine lv_bipush (v := 6) hx hb dX8_least_73 (by decide) ?_
        refine lv_icmp_ge (tgt := 146) hx hb dX8_least_75 (by decide) (fun c31 => absurd c31 (by decide)) (fun c31 => ?_)
        refine lv_iconst (v := 0) hx hb dX8_least_78 (by decide) ?_
        refine lv_istore (lv' := [(7, .int 0), (6, .int 0), (5, .int 3), (4, .int 0), (3, .int 0), (0, .ref n), (1, .int 0), (2, .int i1)]) hx hb dX8_least_79 hl (by decide) rfl (fun ls hl => ?_)
        refine lv_iload hx hb dX8_least_81 (lv_at hl 0 rfl) ?_
        refine lv_aload_n hx hb dX8_least_83 rfl (lv_at hl 5 rfl) ?_
        refine va_get (D := (dC, dI)) (ci := 8) (v := .ref npo) (C := RX8) (T := TX8) (N := 53) hx hb hts hin8 hown hK hP 1 rfl rfl 41 (by decide) hw1 (fun _ h9 => h9) rfl dX8_least_84 ?_
        refine lv_iload hx hb dX8_least_87 (lv_at hl 1 rfl) ?_
        refine va_iald hx hb hK hP 0 0 rfl rfl (vin (by decide) (by decide)) dX8_least_89 ?_
        refine lv_topi (fun x32 e32 => ?_)
        obtain rfl : x32 = 0 := e32.trans (by first | rfl | decide)
        refine lv_icmp_ge (tgt := 140) hx hb dX8_least_90 (by decide) (fun c33 => ?_) (fun c33 => absurd c33 (by decide))
        refine lv_iinc (v := 1) (lv' := [(6, .int 1), (7, .int 0), (5, .int 3), (4, .int 0), (3, .int 0), (0, .ref n), (1, .int 0), (2, .int i1)]) hx hb dX8_least_140 hl (k := 1) rfl (by decide) (by decide) rfl (fun ls hl => ?_)
        refine lv_goto (tgt := 71) hx hb dX8_least_143 (by decide) ?_
        refine lv_iload hx hb dX8_least_71 (lv_at hl 0 rfl) ?_
        refine lv_bipush (v := 6) hx hb dX8_least_73 (by decide) ?_
        refine lv_icmp_ge (tgt := 146) hx hb dX8_least_75 (by decide) (fun c34 => absurd c34 (by decide)) (fun c34 => ?_)
        refine lv_iconst (v := 0) hx hb dX8_least_78 (by decide) ?_
        refine lv_istore (lv' := [(7, .int 0), (6, .int 1), (5, .int 3), (4, .int 0), (3, .int 0), (0, .ref n), (1, .int 0), (2, .int i1)]) hx hb dX8_least_79 hl (by decide) rfl (fun ls hl => ?_)
        refine lv_iload hx hb dX8_least_81 (lv_at hl 0 rfl) ?_
        refine lv_aload_n hx hb dX8_least_83 rfl (lv_at hl 5 rfl) ?_
        refine va_get (D := (dC, dI)) (ci := 8) (v := .ref npo) (C := RX8) (T := TX8) (N := 53) hx hb hts hin8 hown hK hP 1 rfl rfl 41 (by decide) hw1 (fun _ h9 => h9) rfl dX8_least_84 ?_
        refine lv_iload hx hb dX8_least_87 (lv_at hl 1 rfl) ?_
        refine va_iald hx hb hK hP 0 0 rfl rfl (vin (by decide) (by decide)) dX8_least_89 ?_
        refine lv_topi (fun x35 e35 => ?_)
        obtain rfl : x35 = 0 := e35.trans (by first | rfl | decide)
        refine lv_icmp_ge (tgt := 140) hx hb dX8_least_90 (by decide) (fun c36 => ?_) (fun c36 => absurd c36 (by decide))
        refine lv_iinc (v := 2) (lv' := [(6, .int 2), (7, .int 0), (5, .int 3), (4, .int 0), (3, .int 0), (0, .ref n), (1, .int 0), (2, .int i1)]) hx hb dX8_least_140 hl (k := 1) rfl (by decide) (by decide) rfl (fun ls hl => ?_)
        refine lv_goto (tgt := 71) hx hb dX8_least_143 (by decide) ?_
        refine lv_iload hx hb dX8_least_71 (lv_at hl 0 rfl) ?_
        refine lv_bipush (v := 6) hx hb dX8_least_73 (by decide) ?_
        refine lv_icmp_ge (tgt := 146) hx hb dX8_least_75 (by decide) (fun c37 => absurd c37 (by decide)) (fun c37 => ?_)
        refine lv_iconst (v := 0) hx hb dX8_least_78 (by decide) ?_
        refine lv_istore (lv' := [(7, .int 0), (6, .int 2), (5, .int 3), (4, .int 0), (3, .int 0), (0, .ref n), (1, .int 0), (2, .int i1)]) hx hb dX8_least_79 hl (by decide) rfl (fun ls hl => ?_)
        refine lv_iload hx hb dX8_least_81 (lv_at hl 0 rfl) ?_
        refine lv_aload_n hx hb dX8_least_83 rfl (lv_at hl 5 rfl) ?_
        refine va_get (D := (dC, dI)) (ci := 8) (v := .ref npo) (C := RX8) (T := TX8) (N := 53) hx hb hts hin8 hown hK hP 1 rfl rfl 41 (by decide) hw1 (fun _ h9 => h9) rfl dX8_least_84 ?_
        refine lv_iload hx hb dX8_least_87 (lv_at hl 1 rfl) ?_
        refine va_iald hx hb hK hP 0 0 rfl rfl (vin (by decide) (by decide)) dX8_least_89 ?_
        refine lv_topi (fun x38 e38 => ?_)
        obtain rfl : x38 = 0 := e38.trans (by first | rfl | decide)
        refine lv_icmp_ge (tgt := 140) hx hb dX8_least_90 (by decide) (fun c39 => ?_) (fun c39 => absurd c39 (by decide))
        refine lv_iinc (v := 3) (lv' := [(6, .int 3), (7, .int 0), (5, .int 3), (4, .int 0), (3, .int 0), (0, .ref n), (1, .int 0), (2, .int i1)]) hx hb dX8_least_140 hl (k := 1) rfl (by decide) (by decide) rfl (fun ls hl => ?_)
        refine lv_goto (tgt := 71) hx hb dX8_least_143 (by decide) ?_
        refine lv_iload hx hb dX8_least_71 (lv_at hl 0 rfl) ?_
        refine lv_bipush (v := 6) hx hb dX8_least_73 (by decide) ?_
        refine lv_icmp_ge (tgt := 146) hx hb dX8_least_75 (by decide) (fun c40 => absurd c40 (by decide)) (fun c40 => ?_)
        refine lv_iconst (v := 0) hx hb dX8_least_78 (by decide) ?_
        refine lv_istore (lv' := [(7, .int 0), (6, .int 3), (5, .int 3), (4, .int 0), (3, .int 0), (0, .ref n), (1, .int 0), (2, .int i1)]) hx hb dX8_least_79 hl (by decide) rfl (fun ls hl => ?_)
        refine lv_iload hx hb dX8_least_81 (lv_at hl 0 rfl) ?_
        refine lv_aload_n hx hb dX8_least_83 rfl (lv_at hl 5 rfl) ?_
        refine va_get (D := (dC, dI)) (ci := 8) (v := .ref npo) (C := RX8) (T := TX8) (N := 53) hx hb hts hin8 hown hK hP 1 rfl rfl 41 (by decide) hw1 (fun _ h9 => h9) rfl dX8_least_84 ?_
        refine lv_iload hx hb dX8_least_87 (lv_at hl 1 rfl) ?_
        refine va_iald hx hb hK hP 0 0 rfl rfl (vin (by decide) (by decide)) dX8_least_89 ?_
        refine lv_topi (fun x41 e41 => ?_)
        obtain rfl : x41 = 0 := e41.trans (by first | rfl | decide)
        refine lv_icmp_ge (tgt := 140) hx hb dX8_least_90 (by decide) (fun c42 => ?_) (fun c42 => absurd c42 (by decide))
        refine lv_iinc (v := 4) (lv' := [(6, .int 4), (7, .int 0), (5, .int 3), (4, .int 0), (3, .int 0), (0, .ref n), (1, .int 0), (2, .int i1)]) hx hb dX8_least_140 hl (k := 1) rfl (by decide) (by decide) rfl (fun ls hl => ?_)
        refine lv_goto (tgt := 71) hx hb dX8_least_143 (by decide) ?_
        refine lv_iload hx hb dX8_least_71 (lv_at hl 0 rfl) ?_
        refine lv_bipush (v := 6) hx hb dX8_least_73 (by decide) ?_
        refine lv_icmp_ge (tgt := 146) hx hb dX8_least_75 (by decide) (fun c43 => absurd c43 (by decide)) (fun c43 => ?_)
        refine lv_iconst (v := 0) hx hb dX8_least_78 (by decide) ?_
        refine lv_istore (lv' := [(7, .int 0), (6, .int 4), (5, .int 3), (4, .int 0), (3, .int 0), (0, .ref n), (1, .int 0), (2, .int i1)]) hx hb dX8_least_79 hl (by decide) rfl (fun ls hl => ?_)
        refine lv_iload hx hb dX8_least_81 (lv_at hl 0 rfl) ?_
        refine lv_aload_n hx hb dX8_least_83 rfl (lv_at hl 5 rfl) ?_
        refine va_get (D := (dC, dI)) (ci := 8) (v := .ref npo) (C := RX8) (T := TX8) (N := 53) hx hb hts hin8 hown hK hP 1 rfl rfl 41 (by decide) hw1 (fun _ h9 => h9) rfl dX8_least_84 ?_
        refine lv_iload hx hb dX8_least_87 (lv_at hl 1 rfl) ?_
        refine va_iald hx hb hK hP 0 0 rfl rfl (vin (by decide) (by decide)) dX8_least_89 ?_
        refine lv_topi (fun x44 e44 => ?_)
        obtain rfl : x44 = 0 := e44.trans (by first | rfl | decide)
        refine lv_icmp_ge (tgt := 140) hx hb dX8_least_90 (by decide) (fun c45 => ?_) (fun c45 => absurd c45 (by decide))
        refine lv_iinc (v := 5) (lv' := [(6, .int 5), (7, .int 0), (5, .int 3), (4, .int 0), (3, .int 0), (0, .ref n), (1, .int 0), (2, .int i1)]) hx hb dX8_least_140 hl (k := 1) rfl (by decide) (by decide) rfl (fun ls hl => ?_)
        refine lv_goto (tgt := 71) hx hb dX8_least_143 (by decide) ?_
        refine lv_iload hx hb dX8_least_71 (lv_at hl 0 rfl) ?_
        refine lv_bipush (v := 6) hx hb dX8_least_73 (by decide) ?_
        refine lv_icmp_ge (tgt := 146) hx hb dX8_least_75 (by decide) (fun c46 => absurd c46 (by decide)) (fun c46 => ?_)
        refine lv_iconst (v := 0) hx hb dX8_least_78 (by decide) ?_
        refine lv_istore (lv' := [(7, .int 0), (6, .int 5), (5, .int 3), (4, .int 0), (3, .int 0), (0, .ref n), (1, .int 0), (2, .int i1)]) hx hb dX8_least_79 hl (by decide) rfl (fun ls hl => ?_)
        refine lv_iload hx hb dX8_least_81 (lv_at hl 0 rfl) ?_
        refine lv_aload_n hx hb dX8_least_83 rfl (lv_at hl 5 rfl) ?_
        refine va_get (D := (dC, dI)) (ci := 8) (v := .ref npo) (C := RX8) (T := TX8) (N := 53) hx hb hts hin8 hown hK hP 1 rfl rfl 41 (by decide) hw1 (fun _ h9 => h9) rfl dX8_least_84 ?_
        refine lv_iload hx hb dX8_least_87 (lv_at hl 1 rfl) ?_
        refine va_iald hx hb hK hP 0 0 rfl rfl (vin (by decide) (by decide)) dX8_least_89 ?_
        refine lv_topi (fun x47 e47 => ?_)
        obtain rfl : x47 = 0 := e47.trans (by first | rfl | decide)
        refine lv_icmp_ge (tgt := 140) hx hb dX8_least_90 (by decide) (fun c48 => ?_) (fun c48 => absurd c48 (by decide))
        refine lv_iinc (v := 6) (lv' := [(6, .int 6), (7, .int 0), (5, .int 3), (4, .int 0), (3, .int 0), (0, .ref n), (1, .int 0), (2, .int i1)]) hx hb dX8_least_140 hl (k := 1) rfl (by decide) (by decide) rfl (fun ls hl => ?_)
        refine lv_goto (tgt := 71) hx hb dX8_least_143 (by decide) ?_
        refine lv_iload hx hb dX8_least_71 (lv_at hl 0 rfl) ?_
        refine lv_bipush (v := 6) hx hb dX8_least_73 (by decide) ?_
        refine lv_icmp_ge (tgt := 146) hx hb dX8_least_75 (by decide) (fun c49 => ?_) (fun c49 => absurd c49 (by decide))
        refine lv_iinc (v := 2) (lv' := [(5, .int 2), (6, .int 6), (7, .int 0), (4, .int 0), (3, .int 0), (0, .ref n), (1, .int 0), (2, .int i1)]) hx hb dX8_least_146 hl (k := 2) rfl (by decide) (by decide) rfl (fun ls hl => ?_)
        refine lv_goto (tgt := 63) hx hb dX8_least_149 (by decide) ?_
        refine lv_iload hx hb dX8_least_63 (lv_at hl 0 rfl) ?_
        refine lv_if_le (tgt := 152) hx hb dX8_least_65 (by decide) (fun c50 => absurd c50 (by decide)) (fun c50 => ?_)
        refine lv_iconst (v := 0) hx hb dX8_least_68 (by decide) ?_
        refine lv_istore (lv' := [(6, .int 0), (5, .int 2), (7, .int 0), (4, .int 0), (3, .int 0), (0, .ref n), (1, .int 0), (2, .int i1)]) hx hb dX8_least_69 hl (by decide) rfl (fun ls hl => ?_)
        refine lv_iload hx hb dX8_least_71 (lv_at hl 0 rfl) ?_
        refine lv_bipush (v := 6) hx hb dX8_least_73 (by decide) ?_
        refine lv_icmp_ge (tgt := 146) hx hb dX8_least_75 (by decide) (fun c51 => absurd c51 (by decide)) (fun c51 => ?_)
        refine lv_iconst (v := 0) hx hb dX8_least_78 (by decide) ?_
        refine lv_istore (lv' := [(7, .int 0), (6, .int 0), (5, .int 2), (4, .int 0), (3, .int 0), (0, .ref n), (1, .int 0), (2, .int i1)]) hx hb dX8_least_79 hl (by decide) rfl (fun ls hl => ?_)
        refine lv_iload hx hb dX8_least_81 (lv_at hl 0 rfl) ?_
        refine lv_aload_n hx hb dX8_least_83 rfl (lv_at hl 5 rfl) ?_
        refine va_get (D := (dC, dI)) (ci := 8) (v := .ref npo) (C := RX8) (T := TX8) (N := 53) hx hb hts hin8 hown hK hP 1 rfl rfl 41 (by decide) hw1 (fun _ h9 => h9) rfl dX8_least_84 ?_
        refine lv_iload hx hb dX8_least_87 (lv_at hl 1 rfl) ?_
        refine va_iald hx hb hK hP 0 0 rfl rfl (vin (by decide) (by decide)) dX8_least_89 ?_
        refine lv_topi (fun x52 e52 => ?_)
        obtain rfl : x52 = 0 := e52.trans (by first | rfl | decide)
        refine lv_icmp_ge (tgt := 140) hx hb dX8_least_90 (by decide) (fun c53 => ?_) (fun c53 => absurd c53 (by decide))
        refine lv_iinc (v := 1) (lv' := [(6, .int 1), (7, .int 0), (5, .int 2), (4, .int 0), (3, .int 0), (0, .ref n), (1, .int 0), (2, .int i1)]) hx hb dX8_least_140 hl (k := 1) rfl (by decide) (by decide) rfl (fun ls hl => ?_)
        refine lv_goto (tgt := 71) hx hb dX8_least_143 (by decide) ?_
        refine lv_iload hx hb dX8_least_71 (lv_at hl 0 rfl) ?_
        refine lv_bipush (v := 6) hx hb dX8_least_73 (by decide) ?_
        refine lv_icmp_ge (tgt := 146) hx hb dX8_least_75 (by decide) (fun c54 => absurd c54 (by decide)) (fun c54 => ?_)
        refine lv_iconst (v := 0) hx hb dX8_least_78 (by decide) ?_
        refine lv_istore (lv' := [(7, .int 0), (6, .int 1), (5, .int 2), (4, .int 0), (3, .int 0), (0, .ref n), (1, .int 0), (2, .int i1)]) hx hb dX8_least_79 hl (by decide) rfl (fun ls hl => ?_)
        refine lv_iload hx hb dX8_least_81 (lv_at hl 0 rfl) ?_
        refine lv_aload_n hx hb dX8_least_83 rfl (lv_at hl 5 rfl) ?_
        refine va_get (D := (dC, dI)) (ci := 8) (v := .ref npo) (C := RX8) (T := TX8) (N := 53) hx hb hts hin8 hown hK hP 1 rfl rfl 41 (by decide) hw1 (fun _ h9 => h9) rfl dX8_least_84 ?_
        refine lv_iload hx hb dX8_least_87 (lv_at hl 1 rfl) ?_
        refine va_iald hx hb hK hP 0 0 rfl rfl (vin (by decide) (by decide)) dX8_least_89 ?_
        refine lv_topi (fun x55 e55 => ?_)
        obtain rfl : x55 = 0 := e55.trans (by first | rfl | decide)
        refine lv_icmp_ge (tgt := 140) hx hb dX8_least_90 (by decide) (fun c56 => ?_) (fun c56 => absurd c56 (by decide))
        refine lv_iinc (v := 2) (lv' := [(6, .int 2), (7, .int 0), (5, .int 2), (4, .int 0), (3, .int 0), (0, .ref n), (1, .int 0), (2, .int i1)]) hx hb dX8_least_140 hl (k := 1) rfl (by decide) (by decide) rfl (fun ls hl => ?_)
        refine lv_goto (tgt := 71) hx hb dX8_least_143 (by decide) ?_
        refine lv_iload hx hb dX8_least_71 (lv_at hl 0 rfl) ?_
        refine lv_bipush (v := 6) hx hb dX8_least_73 (by decide) ?_
        refine lv_icmp_ge (tgt := 146) hx hb dX8_least_75 (by decide) (fun c57 => absurd c57 (by decide)) (fun c57 => ?_)
        refine lv_iconst (v := 0) hx hb dX8_least_78 (by decide) ?_
        refine lv_istore (lv' := [(7, .int 0), (6, .int 2), (5, .int 2), (4, .int 0), (3, .int 0), (0, .ref n), (1, .int 0), (2, .int i1)]) hx hb dX8_least_79 hl (by decide) rfl (fun ls hl => ?_)
        refine lv_iload hx hb dX8_least_81 (lv_at hl 0 rfl) ?_
        refine lv_aload_n hx hb dX8_least_83 rfl (lv_at hl 5 rfl) ?_
        refine va_get (D := (dC, dI)) (ci := 8) (v := .ref npo) (C := RX8) (T := TX8) (N := 53) hx hb hts hin8 hown hK hP 1 rfl rfl 41 (by decide) hw1 (fun _ h9 => h9) rfl dX8_least_84 ?_
        refine lv_iload hx hb dX8_least_87 (lv_at hl 1 rfl) ?_
        refine va_iald hx hb hK hP 0 0 rfl rfl (vin (by decide) (by decide)) dX8_least_89 ?_
        refine lv_topi (fun x58 e58 => ?_)
        obtain rfl : x58 = 0 := e58.trans (by first | rfl | decide)
        refine lv_icmp_ge (tgt := 140) hx hb dX8_least_90 (by decide) (fun c59 => ?_) (fun c59 => absurd c59 (by decide))
        refine lv_iinc (v := 3) (lv' := [(6, .int 3), (7, .int 0), (5, .int 2), (4, .int 0), (3, .int 0), (0, .ref n), (1, .int 0), (2, .int i1)]) hx hb dX8_least_140 hl (k := 1) rfl (by decide) (by decide) rfl (fun ls hl => ?_)
        refine lv_goto (tgt := 71) hx hb dX8_least_143 (by decide) ?_
        refine lv_iload hx hb dX8_least_71 (lv_at hl 0 rfl) ?_
        refine lv_bipush (v := 6) hx hb dX8_least_73 (by decide) ?_
        refine lv_icmp_ge (tgt := 146) hx hb dX8_least_75 (by decide) (fun c60 => absurd c60 (by decide)) (fun c60 => ?_)
        refine lv_iconst (v := 0) hx hb dX8_least_78 (by decide) ?_
        refine lv_istore (lv' := [(7, .int 0), (6, .int 3), (5, .int 2), (4, .int 0), (3, .int 0), (0, .ref n), (1, .int 0), (2, .int i1)]) hx hb dX8_least_79 hl (by decide) rfl (fun ls hl => ?_)
        refine lv_iload hx hb dX8_least_81 (lv_at hl 0 rfl) ?_
        refine lv_aload_n hx hb dX8_least_83 rfl (lv_at hl 5 rfl) ?_
        refine va_get (D := (dC, dI)) (ci := 8) (v := .ref npo) (C := RX8) (T := TX8) (N := 53) hx hb hts hin8 hown hK hP 1 rfl rfl 41 (by decide) hw1 (fun _ h9 => h9) rfl dX8_least_84 ?_
        refine lv_iload hx hb dX8_least_87 (lv_at hl 1 rfl) ?_
        refine va_iald hx hb hK hP 0 0 rfl rfl (vin (by decide) (by decide)) dX8_least_89 ?_
        refine lv_topi (fun x61 e61 => ?_)
        obtain rfl : x61 = 0 := e61.trans (by first | rfl | decide)
        refine lv_icmp_ge (tgt := 140) hx hb dX8_least_90 (by decide) (fun c62 => ?_) (fun c62 => absurd c62 (by decide))
        refine lv_iinc (v := 4) (lv' := [(6, .int 4), (7, .int 0), (5, .int 2), (4, .int 0), (3, .int 0), (0, .ref n), (1, .int 0), (2, .int i1)]) hx hb dX8_least_140 hl (k := 1) rfl (by decide) (by decide) rfl (fun ls hl => ?_)
        refine lv_goto (tgt := 71) hx hb dX8_least_143 (by decide) ?_
        refine lv_iload hx hb dX8_least_71 (lv_at hl 0 rfl) ?_
        refine lv_bipush (v := 6) hx hb dX8_least_73 (by decide) ?_
        refine lv_icmp_ge (tgt := 146) hx hb dX8_least_75 (by decide) (fun c63 => absurd c63 (by decide)) (fun c63 => ?_)
        refine lv_iconst (v := 0) hx hb dX8_least_78 (by decide) ?_
        refine lv_istore (lv' := [(7, .int 0), (6, .int 4), (5, .int 2), (4, .int 0), (3, .int 0), (0, .ref n), (1, .int 0), (2, .int i1)]) hx hb dX8_least_79 hl (by decide) rfl (fun ls hl => ?_)
        refine lv_iload hx hb dX8_least_81 (lv_at hl 0 rfl) ?_
        refine lv_aload_n hx hb dX8_least_83 rfl (lv_at hl 5 rfl) ?_
        refine va_get (D := (dC, dI)) (ci := 8) (v := .ref npo) (C := RX8) (T := TX8) (N := 53) hx hb hts hin8 hown hK hP 1 rfl rfl 41 (by decide) hw1 (fun _ h9 => h9) rfl dX8_least_84 ?_
        refine lv_iload hx hb dX8_least_87 (lv_at hl 1 rfl) ?_
        refine va_iald hx hb hK hP 0 0 rfl rfl (vin (by decide) (by decide)) dX8_least_89 ?_
        refine lv_topi (fun x64 e64 => ?_)
        obtain rfl : x64 = 0 := e64.trans (by first | rfl | decide)
        refine lv_icmp_ge (tgt := 140) hx hb dX8_least_90 (by decide) (fun c65 => ?_) (fun c65 => absurd c65 (by decide))
        refine lv_iinc (v := 5) (lv' := [(6, .int 5), (7, .int 0), (5, .int 2), (4, .int 0), (3, .int 0), (0, .ref n), (1, .int 0), (2, .int i1)]) hx hb dX8_least_140 hl (k := 1) rfl (by decide) (by decide) rfl (fun ls hl => ?_)
        refine lv_goto (tgt := 71) hx hb dX8_least_143 (by decide) ?_
        refine lv_iload hx hb dX8_least_71 (lv_at hl 0 rfl) ?_
        refine lv_bipush (v := 6) hx hb dX8_least_73 (by decide) ?_
        refine lv_icmp_ge (tgt := 146) hx hb dX8_least_75 (by decide) (fun c66 => absurd c66 (by decide)) (fun c66 => ?_)
        refine lv_iconst (v := 0) hx hb dX8_least_78 (by decide) ?_
        refine lv_istore (lv' := [(7, .int 0), (6, .int 5), (5, .int 2), (4, .int 0), (3, .int 0), (0, .ref n), (1, .int 0), (2, .int i1)]) hx hb dX8_least_79 hl (by decide) rfl (fun ls hl => ?_)
        refine lv_iload hx hb dX8_least_81 (lv_at hl 0 rfl) ?_
        refine lv_aload_n hx hb dX8_least_83 rfl (lv_at hl 5 rfl) ?_
        refine va_get (D := (dC, dI)) (ci := 8) (v := .ref npo) (C := RX8) (T := TX8) (N := 53) hx hb hts hin8 hown hK hP 1 rfl rfl 41 (by decide) hw1 (fun _ h9 => h9) rfl dX8_least_84 ?_
        refine lv_iload hx hb dX8_least_87 (lv_at hl 1 rfl) ?_
        refine va_iald hx hb hK hP 0 0 rfl rfl (vin (by decide) (by decide)) dX8_least_89 ?_
        refine lv_topi (fun x67 e67 => ?_)
        obtain rfl : x67 = 0 := e67.trans (by first | rfl | decide)
        refine lv_icmp_ge (tgt := 140) hx hb dX8_least_90 (by decide) (fun c68 => ?_) (fun c68 => absurd c68 (by decide))
        refine lv_iinc (v := 6) (lv' := [(6, .int 6), (7, .int 0), (5, .int 2), (4, .int 0), (3, .int 0), (0, .ref n), (1, .int 0), (2, .int i1)]) hx hb dX8_least_140 hl (k := 1) rfl (by decide) (by decide) rfl (fun ls hl => ?_)
        refine lv_goto (tgt := 71) hx hb dX8_least_143 (by decide) ?_
        refine lv_iload hx hb dX8_least_71 (lv_at hl 0 rfl) ?_
        refine lv_bipush (v := 6) hx hb dX8_least_73 (by decide) ?_
        refine lv_icmp_ge (tgt := 146) hx hb dX8_least_75 (by decide) (fun c69 => ?_) (fun c69 => absurd c69 (by decide))
        refine lv_iinc (v := 1) (lv' := [(5, .int 1), (6, .int 6), (7, .int 0), (4, .int 0), (3, .int 0), (0, .ref n), (1, .int 0), (2, .int i1)]) hx hb dX8_least_146 hl (k := 2) rfl (by decide) (by decide) rfl (fun ls hl => ?_)
        refine lv_goto (tgt := 63) hx hb dX8_least_149 (by decide) ?_
        refine lv_iload hx hb dX8_least_63 (lv_at hl 0 rfl) ?_
        refine lv_if_le (tgt := 152) hx hb dX8_least_65 (by decide) (fun c70 => absurd c70 (by decide)) (fun c70 => ?_)
        refine lv_iconst (v := 0) hx hb dX8_least_68 (by decide) ?_
        refine lv_istore (lv' := [(6, .int 0), (5, .int 1), (7, .int 0), (4, .int 0), (3, .int 0), (0, .ref n), (1, .int 0), (2, .int i1)]) hx hb dX8_least_69 hl (by decide) rfl (fun ls hl => ?_)
        refine lv_iload hx hb dX8_least_71 (lv_at hl 0 rfl) ?_
        refine lv_bipush (v := 6) hx hb dX8_least_73 (by decide) ?_
        refine lv_icmp_ge (tgt := 146) hx hb dX8_least_75 (by decide) (fun c71 => absurd c71 (by decide)) (fun c71 => ?_)
        refine lv_iconst (v := 0) hx hb dX8_least_78 (by decide) ?_
        refine lv_istore (lv' := [(7, .int 0), (6, .int 0), (5, .int 1), (4, .int 0), (3, .int 0), (0, .ref n), (1, .int 0), (2, .int i1)]) hx hb dX8_least_79 hl (by decide) rfl (fun ls hl => ?_)
        refine lv_iload hx hb dX8_least_81 (lv_at hl 0 rfl) ?_
        refine lv_aload_n hx hb dX8_least_83 rfl (lv_at hl 5 rfl) ?_
        refine va_get (D := (dC, dI)) (ci := 8) (v := .ref npo) (C := RX8) (T := TX8) (N := 53) hx hb hts hin8 hown hK hP 1 rfl rfl 41 (by decide) hw1 (fun _ h9 => h9) rfl dX8_least_84 ?_
        refine lv_iload hx hb dX8_least_87 (lv_at hl 1 rfl) ?_
        refine va_iald hx hb hK hP 0 0 rfl rfl (vin (by decide) (by decide)) dX8_least_89 ?_
        refine lv_topi (fun x72 e72 => ?_)
        obtain rfl : x72 = 0 := e72.trans (by first | rfl | decide)
        refine lv_icmp_ge (tgt := 140) hx hb dX8_least_90 (by decide) (fun c73 => ?_) (fun c73 => absurd c73 (by decide))
        refine lv_iinc (v := 1) (lv' := [(6, .int 1), (7, .int 0), (5, .int 1), (4, .int 0), (3, .int 0), (0, .ref n), (1, .int 0), (2, .int i1)]) hx hb dX8_least_140 hl (k := 1) rfl (by decide) (by decide) rfl (fun ls hl => ?_)
        refine lv_goto (tgt := 71) hx hb dX8_least_143 (by decide) ?_
        refine lv_iload hx hb dX8_least_71 (lv_at hl 0 rfl) ?_
        refine lv_bipush (v := 6) hx hb dX8_least_73 (by decide) ?_
        refine lv_icmp_ge (tgt := 146) hx hb dX8_least_75 (by decide) (fun c74 => absurd c74 (by decide)) (fun c74 => ?_)
        refine lv_iconst (v := 0) hx hb dX8_least_78 (by decide) ?_
        refine lv_istore (lv' := [(7, .int 0), (6, .int 1), (5, .int 1), (4, .int 0), (3, .int 0), (0, .ref n), (1, .int 0), (2, .int i1)]) hx hb dX8_least_79 hl (by decide) rfl (fun ls hl => ?_)
        refine lv_iload hx hb dX8_least_81 (lv_at hl 0 rfl) ?_
        refine lv_aload_n hx hb dX8_least_83 rfl (lv_at hl 5 rfl) ?_
        refine va_get (D := (dC, dI)) (ci := 8) (v := .ref npo) (C := RX8) (T := TX8) (N := 53) hx hb hts hin8 hown hK hP 1 rfl rfl 41 (by decide) hw1 (fun _ h9 => h9) rfl dX8_least_84 ?_
        refine lv_iload hx hb dX8_least_87 (lv_at hl 1 rfl) ?_
        refine va_iald hx hb hK hP 0 0 rfl rfl (vin (by decide) (by decide)) dX8_least_89 ?_
        refine lv_topi (fun x75 e75 => ?_)
        obtain rfl : x75 = 0 := e75.trans (by first | rfl | decide)
        refine lv_icmp_ge (tgt := 140) hx hb dX8_least_90 (by decide) (fun c76 => ?_) (fun c76 => absurd c76 (by decide))
        refine lv_iinc (v := 2) (lv' := [(6, .int 2), (7, .int 0), (5, .int 1), (4, .int 0), (3, .int 0), (0, .ref n), (1, .int 0), (2, .int i1)]) hx hb dX8_least_140 hl (k := 1) rfl (by decide) (by decide) rfl (fun ls hl => ?_)
        refine lv_goto (tgt := 71) hx hb dX8_least_143 (by decide) ?_
        refine lv_iload hx hb dX8_least_71 (lv_at hl 0 rfl) ?_
        refine lv_bipush (v := 6) hx hb dX8_least_73 (by decide) ?_
        refine lv_icmp_ge (tgt := 146) hx hb dX8_least_75 (by decide) (fun c77 => absurd c77 (by decide)) (fun c77 => ?_)
        refine lv_iconst (v := 0) hx hb dX8_least_78 (by decide) ?_
        refine lv_istore (lv' := [(7, .int 0), (6, .int 2), (5, .int 1), (4, .int 0), (3, .int 0), (0, .ref n), (1, .int 0), (2, .int i1)]) hx hb dX8_least_79 hl (by decide) rfl (fun ls hl => ?_)
        refine lv_iload hx hb dX8_least_81 (lv_at hl 0 rfl) ?_
        refine lv_aload_n hx hb dX8_least_83 rfl (lv_at hl 5 rfl) ?_
        refine va_get (D := (dC, dI)) (ci := 8) (v := .ref npo) (C := RX8) (T := TX8) (N := 53) hx hb hts hin8 hown hK hP 1 rfl rfl 41 (by decide) hw1 (fun _ h9 => h9) rfl dX8_least_84 ?_
        refine lv_iload hx hb dX8_least_87 (lv_at hl 1 rfl) ?_
        refine va_iald hx hb hK hP 0 0 rfl rfl (vin (by decide) (by decide)) dX8_least_89 ?_
        refine lv_topi (fun x78 e78 => ?_)
        obtain rfl : x78 = 0 := e78.trans (by first | rfl | decide)
        refine lv_icmp_ge (tgt := 140) hx hb dX8_least_90 (by decide) (fun c79 => ?_) (fun c79 => absurd c79 (by decide))
        refine lv_iinc (v := 3) (lv' := [(6, .int 3), (7, .int 0), (5, .int 1), (4, .int 0), (3, .int 0), (0, .ref n), (1, .int 0), (2, .int i1)]) hx hb dX8_least_140 hl (k := 1) rfl (by decide) (by decide) rfl (fun ls hl => ?_)
        refine lv_goto (tgt := 71) hx hb dX8_least_143 (by decide) ?_
        refine lv_iload hx hb dX8_least_71 (lv_at hl 0 rfl) ?_
        refine lv_bipush (v := 6) hx hb dX8_least_73 (by decide) ?_
        refine lv_icmp_ge (tgt := 146) hx hb dX8_least_75 (by decide) (fun c80 => absurd c80 (by decide)) (fun c80 => ?_)
        refine lv_iconst (v := 0) hx hb dX8_least_78 (by decide) ?_
        refine lv_istore (lv' := [(7, .int 0), (6, .int 3), (5, .int 1), (4, .int 0), (3, .int 0), (0, .ref n), (1, .int 0), (2, .int i1)]) hx hb dX8_least_79 hl (by decide) rfl (fun ls hl => ?_)
        refine lv_iload hx hb dX8_least_81 (lv_at hl 0 rfl) ?_
        refine lv_aload_n hx hb dX8_least_83 rfl (lv_at hl 5 rfl) ?_
        refine va_get (D := (dC, dI)) (ci := 8) (v := .ref npo) (C := RX8) (T := TX8) (N := 53) hx hb hts hin8 hown hK hP 1 rfl rfl 41 (by decide) hw1 (fun _ h9 => h9) rfl dX8_least_84 ?_
        refine lv_iload hx hb dX8_least_87 (lv_at hl 1 rfl) ?_
        refine va_iald hx hb hK hP 0 0 rfl rfl (vin (by decide) (by decide)) dX8_least_89 ?_
        refine lv_topi (fun x81 e81 => ?_)
        obtain rfl : x81 = 0 := e81.trans (by first | rfl | decide)
        refine lv_icmp_ge (tgt := 140) hx hb dX8_least_90 (by decide) (fun c82 => ?_) (fun c82 => absurd c82 (by decide))
        refine lv_iinc (v := 4) (lv' := [(6, .int 4), (7, .int 0), (5, .int 1), (4, .int 0), (3, .int 0), (0, .ref n), (1, .int 0), (2, .int i1)]) hx hb dX8_least_140 hl (k := 1) rfl (by decide) (by decide) rfl (fun ls hl => ?_)
        refine lv_goto (tgt := 71) hx hb dX8_least_143 (by decide) ?_
        refine lv_iload hx hb dX8_least_71 (lv_at hl 0 rfl) ?_
        refine lv_bipush (v := 6) hx hb dX8_least_73 (by decide) ?_
        refine lv_icmp_ge (tgt := 146) hx hb dX8_least_75 (by decide) (fun c83 => absurd c83 (by decide)) (fun c83 => ?_)
        refine lv_iconst (v := 0) hx hb dX8_least_78 (by decide) ?_
        refine lv_istore (lv' := [(7, .int 0), (6, .int 4), (5, .int 1), (4, .int 0), (3, .int 0), (0, .ref n), (1, .int 0), (2, .int i1)]) hx hb dX8_least_79 hl (by decide) rfl (fun ls hl => ?_)
        refine lv_iload hx hb dX8_least_81 (lv_at hl 0 rfl) ?_
        refine lv_aload_n hx hb dX8_least_83 rfl (lv_at hl 5 rfl) ?_
        refine va_get (D := (dC, dI)) (ci := 8) (v := .ref npo) (C := RX8) (T := TX8) (N := 53) hx hb hts hin8 hown hK hP 1 rfl rfl 41 (by decide) hw1 (fun _ h9 => h9) rfl dX8_least_84 ?_
        refine lv_iload hx hb dX8_least_87 (lv_at hl 1 rfl) ?_
        refine va_iald hx hb hK hP 0 0 rfl rfl (vin (by decide) (by decide)) dX8_least_89 ?_
        refine lv_topi (fun x84 e84 => ?_)
        obtain rfl : x84 = 0 := e84.trans (by first | rfl | decide)
        refine lv_icmp_ge (tgt := 140) hx hb dX8_least_90 (by decide) (fun c85 => ?_) (fun c85 => absurd c85 (by decide))
        refine lv_iinc (v := 5) (lv' := [(6, .int 5), (7, .int 0), (5, .int 1), (4, .int 0), (3, .int 0), (0, .ref n), (1, .int 0), (2, .int i1)]) hx hb dX8_least_140 hl (k := 1) rfl (by decide) (by decide) rfl (fun ls hl => ?_)
        refine lv_goto (tgt := 71) hx hb dX8_least_143 (by decide) ?_
        refine lv_iload hx hb dX8_least_71 (lv_at hl 0 rfl) ?_
        refine lv_bipush (v := 6) hx hb dX8_least_73 (by decide) ?_
        refine lv_icmp_ge (tgt := 146) hx hb dX8_least_75 (by decide) (fun c86 => absurd c86 (by decide)) (fun c86 => ?_)
        refine lv_iconst (v := 0) hx hb dX8_least_78 (by decide) ?_
        refine lv_istore (lv' := [(7, .int 0), (6, .int 5), (5, .int 1), (4, .int 0), (3, .int 0), (0, .ref n), (1, .int 0), (2, .int i1)]) hx hb dX8_least_79 hl (by decide) rfl (fun ls hl => ?_)
        refine lv_iload hx hb dX8_least_81 (lv_at hl 0 rfl) ?_
        refine lv_aload_n hx hb dX8_least_83 rfl (lv_at hl 5 rfl) ?_
        refine va_get (D := (dC, dI)) (ci := 8) (v := .ref npo) (C := RX8) (T := TX8) (N := 53) hx hb hts hin8 hown hK hP 1 rfl rfl 41 (by decide) hw1 (fun _ h9 => h9) rfl dX8_least_84 ?_
        refine lv_iload hx hb dX8_least_87 (lv_at hl 1 rfl) ?_
        refine va_iald hx hb hK hP 0 0 rfl rfl (vin (by decide) (by decide)) dX8_least_89 ?_
        refine lv_topi (fun x87 e87 => ?_)
        obtain rfl : x87 = 0 := e87.trans (by first | rfl | decide)
        refine lv_icmp_ge (tgt := 140) hx hb dX8_least_90 (by decide) (fun c88 => ?_) (fun c88 => absurd c88 (by decide))
        refine lv_iinc (v := 6) (lv' := [(6, .int 6), (7, .int 0), (5, .int 1), (4, .int 0), (3, .int 0), (0, .ref n), (1, .int 0), (2, .int i1)]) hx hb dX8_least_140 hl (k := 1) rfl (by decide) (by decide) rfl (fun ls hl => ?_)
        refine lv_goto (tgt := 71) hx hb dX8_least_143 (by decide) ?_
        refine lv_iload hx hb dX8_least_71 (lv_at hl 0 rfl) ?_
        refine lv_bipush (v := 6) hx hb dX8_least_73 (by decide) ?_
        refine lv_icmp_ge (tgt := 146) hx hb dX8_least_75 (by decide) (fun c89 => ?_) (fun c89 => absurd c89 (by decide))
        refine lv_iinc (v := 0) (lv' := [(5, .int 0), (6, .int 6), (7, .int 0), (4, .int 0), (3, .int 0), (0, .ref n), (1, .int 0), (2, .int i1)]) hx hb dX8_least_146 hl (k := 2) rfl (by decide) (by decide) rfl (fun ls hl => ?_)
        refine lv_goto (tgt := 63) hx hb dX8_least_149 (by decide) ?_
        refine lv_iload hx hb dX8_least_63 (lv_at hl 0 rfl) ?_
        refine lv_if_le (tgt := 152) hx hb dX8_least_65 (by decide) (fun c90 => ?_) (fun c90 => absurd c90 (by decide))
        refine lv_iconst (v := 1) hx hb dX8_least_152 (by decide) ?_
        refine lv_istore (lv' := [(5, .int 1), (6, .int 6), (7, .int 0), (4, .int 0), (3, .int 0), (0, .ref n), (1, .int 0), (2, .int i1)]) hx hb dX8_least_153 hl (by decide) rfl (fun ls hl => ?_)
        refine lv_iconst (v := 0) hx hb dX8_least_155 (by decide) ?_
        refine lv_istore (lv' := [(6, .int 0), (5, .int 1), (7, .int 0), (4, .int 0), (3, .int 0), (0, .ref n), (1, .int 0), (2, .int i1)]) hx hb dX8_least_156 hl (by decide) rfl (fun ls hl => ?_)
        refine lv_iload hx hb dX8_least_158 (lv_at hl 0 rfl) ?_
        refine lv_bipush (v := 6) hx hb dX8_least_160 (by decide) ?_
        refine lv_icmp_ge (tgt := 202) hx hb dX8_least_162 (by decide) (fun c91 => absurd c91 (by decide)) (fun c91 => ?_)
        refine lv_iload hx hb dX8_least_165 (lv_at hl 1 rfl) ?_
        refine lv_if_eq (tgt := 193) hx hb dX8_least_167 (by decide) (fun c92 => absurd c92 (by decide)) (fun c92 => ?_)
        refine lv_aload_n hx hb dX8_least_170 rfl (lv_at hl 5 rfl) ?_
        refine va_get (D := (dC, dI)) (ci := 8) (v := .ref npo) (C := RX8) (T := TX8) (N := 53) hx hb hts hin8 hown hK hP 1 rfl rfl 41 (by decide) hw1 (fun _ h9 => h9) rfl dX8_least_171 ?_
        refine lv_iload hx hb dX8_least_174 (lv_at hl 0 rfl) ?_
        refine va_iald hx hb hK hP 0 0 rfl rfl (vin (by decide) (by decide)) dX8_least_176 ?_
        refine lv_topi (fun x93 e93 => ?_)
        obtain rfl : x93 = 0 := e93.trans (by first | rfl | decide)
        refine lv_if_eq (tgt := 189) hx hb dX8_least_177 (by decide) (fun c94 => ?_) (fun c94 => absurd c94 (by decide))
        refine lv_iconst (v := 1) hx hb dX8_least_189 (by decide) ?_
        refine lv_goto (tgt := 194) hx hb dX8_least_190 (by decide) ?_
        refine lv_istore (lv' := [(5, .int 1), (6, .int 0), (7, .int 0), (4, .int 0), (3, .int 0), (0, .ref n), (1, .int 0), (2, .int i1)]) hx hb dX8_least_194 hl (by decide) rfl (fun ls hl => ?_)
        refine lv_iinc (v := 1) (lv' := [(6, .int 1), (5, .int 1), (7, .int 0), (4, .int 0), (3, .int 0), (0, .ref n), (1, .int 0), (2, .int i1)]) hx hb dX8_least_196 hl (k := 1) rfl (by decide) (by decide) rfl (fun ls hl => ?_)
        refine lv_goto (tgt := 158) hx hb dX8_least_199 (by decide) ?_
        refine lv_iload hx hb dX8_least_158 (lv_at hl 0 rfl) ?_
        refine lv_bipush (v := 6) hx hb dX8_least_160 (by decide) ?_
        refine lv_icmp_ge (tgt := 202) hx hb dX8_least_162 (by decide) (fun c95 => absurd c95 (by decide)) (fun c95 => ?_)
        refine lv_iload hx hb dX8_least_165 (lv_at hl 1 rfl) ?_
        refine lv_if_eq (tgt := 193) hx hb dX8_least_167 (by decide) (fun c96 => absurd c96 (by decide)) (fun c96 => ?_)
        refine lv_aload_n hx hb dX8_least_170 rfl (lv_at hl 5 rfl) ?_
        refine va_get (D := (dC, dI)) (ci := 8) (v := .ref npo) (C := RX8) (T := TX8) (N := 53) hx hb hts hin8 hown hK hP 1 rfl rfl 41 (by decide) hw1 (fun _ h9 => h9) rfl dX8_least_171 ?_
        refine lv_iload hx hb dX8_least_174 (lv_at hl 0 rfl) ?_
        refine va_iald hx hb hK hP 0 0 rfl rfl (vin (by decide) (by decide)) dX8_least_176 ?_
        refine lv_topi (fun x97 e97 => ?_)
        obtain rfl : x97 = 0 := e97.trans (by first | rfl | decide)
        refine lv_if_eq (tgt := 189) hx hb dX8_least_177 (by decide) (fun c98 => ?_) (fun c98 => absurd c98 (by decide))
        refine lv_iconst (v := 1) hx hb dX8_least_189 (by decide) ?_
        refine lv_goto (tgt := 194) hx hb dX8_least_190 (by decide) ?_
        refine lv_istore (lv' := [(5, .int 1), (6, .int 1), (7, .int 0), (4, .int 0), (3, .int 0), (0, .ref n), (1, .int 0), (2, .int i1)]) hx hb dX8_least_194 hl (by decide) rfl (fun ls hl => ?_)
        refine lv_iinc (v := 2) (lv' := [(6, .int 2), (5, .int 1), (7, .int 0), (4, .int 0), (3, .int 0), (0, .ref n), (1, .int 0), (2, .int i1)]) hx hb dX8_least_196 hl (k := 1) rfl (by decide) (by decide) rfl (fun ls hl => ?_)
        refine lv_goto (tgt := 158) hx hb dX8_least_199 (by decide) ?_
        refine lv_iload hx hb dX8_least_158 (lv_at hl 0 rfl) ?_
        refine lv_bipush (v := 6) hx hb dX8_least_160 (by decide) ?_
        refine lv_icmp_ge (tgt := 202) hx hb dX8_least_162 (by decide) (fun c99 => absurd c99 (by decide)) (fun c99 => ?_)
        refine lv_iload hx hb dX8_least_165 (lv_at hl 1 rfl) ?_
        refine lv_if_eq (tgt := 193) hx hb dX8_least_167 (by decide) (fun c100 => absurd c100 (by decide)) (fun c100 => ?_)
        refine lv_aload_n hx hb dX8_least_170 rfl (lv_at hl 5 rfl) ?_
        refine va_get (D := (dC, dI)) (ci := 8) (v := .ref npo) (C := RX8) (T := TX8) (N := 53) hx hb hts hin8 hown hK hP 1 rfl rfl 41 (by decide) hw1 (fun _ h9 => h9) rfl dX8_least_171 ?_
        refine lv_iload hx hb dX8_least_174 (lv_at hl 0 rfl) ?_
        refine va_iald hx hb hK hP 0 0 rfl rfl (vin (by decide) (by decide)) dX8_least_176 ?_
        refine lv_topi (fun x101 e101 => ?_)
        obtain rfl : x101 = 0 := e101.trans (by first | rfl | decide)
        refine lv_if_eq (tgt := 189) hx hb dX8_least_177 (by decide) (fun c102 => ?_) (fun c102 => absurd c102 (by decide))
        refine lv_iconst (v := 1) hx hb dX8_least_189 (by decide) ?_
        refine lv_goto (tgt := 194) hx hb dX8_least_190 (by decide) ?_
        refine lv_istore (lv' := [(5, .int 1), (6, .int 2), (7, .int 0), (4, .int 0), (3, .int 0), (0, .ref n), (1, .int 0), (2, .int i1)]) hx hb dX8_least_194 hl (by decide) rfl (fun ls hl => ?_)
        refine lv_iinc (v := 3) (lv' := [(6, .int 3), (5, .int 1), (7, .int 0), (4, .int 0), (3, .int 0), (0, .ref n), (1, .int 0), (2, .int i1)]) hx hb dX8_least_196 hl (k := 1) rfl (by decide) (by decide) rfl (fun ls hl => ?_)
        refine lv_goto (tgt := 158) hx hb dX8_least_199 (by decide) ?_
        refine lv_iload hx hb dX8_least_158 (lv_at hl 0 rfl) ?_
        refine lv_bipush (v := 6) hx hb dX8_least_160 (by decide) ?_
        refine lv_icmp_ge (tgt := 202) hx hb dX8_least_162 (by decide) (fun c103 => absurd c103 (by decide)) (fun c103 => ?_)
        refine lv_iload hx hb dX8_least_165 (lv_at hl 1 rfl) ?_
        refine lv_if_eq (tgt := 193) hx hb dX8_least_167 (by decide) (fun c104 => absurd c104 (by decide)) (fun c104 => ?_)
        refine lv_aload_n hx hb dX8_least_170 rfl (lv_at hl 5 rfl) ?_
        refine va_get (D := (dC, dI)) (ci := 8) (v := .ref npo) (C := RX8) (T := TX8) (N := 53) hx hb hts hin8 hown hK hP 1 rfl rfl 41 (by decide) hw1 (fun _ h9 => h9) rfl dX8_least_171 ?_
        refine lv_iload hx hb dX8_least_174 (lv_at hl 0 rfl) ?_
        refine va_iald hx hb hK hP 0 0 rfl rfl (vin (by decide) (by decide)) dX8_least_176 ?_
        refine lv_topi (fun x105 e105 => ?_)
        obtain rfl : x105 = 0 := e105.trans (by first | rfl | decide)
        refine lv_if_eq (tgt := 189) hx hb dX8_least_177 (by decide) (fun c106 => ?_) (fun c106 => absurd c106 (by decide))
        refine lv_iconst (v := 1) hx hb dX8_least_189 (by decide) ?_
        refine lv_goto (tgt := 194) hx hb dX8_least_190 (by decide) ?_
        refine lv_istore (lv' := [(5, .int 1), (6, .int 3), (7, .int 0), (4, .int 0), (3, .int 0), (0, .ref n), (1, .int 0), (2, .int i1)]) hx hb dX8_least_194 hl (by decide) rfl (fun ls hl => ?_)
        refine lv_iinc (v := 4) (lv' := [(6, .int 4), (5, .int 1), (7, .int 0), (4, .int 0), (3, .int 0), (0, .ref n), (1, .int 0), (2, .int i1)]) hx hb dX8_least_196 hl (k := 1) rfl (by decide) (by decide) rfl (fun ls hl => ?_)
        refine lv_goto (tgt := 158) hx hb dX8_least_199 (by decide) ?_
        refine lv_iload hx hb dX8_least_158 (lv_at hl 0 rfl) ?_
        refine lv_bipush (v := 6) hx hb dX8_least_160 (by decide) ?_
        refine lv_icmp_ge (tgt := 202) hx hb dX8_least_162 (by decide) (fun c107 => absurd c107 (by decide)) (fun c107 => ?_)
        refine lv_iload hx hb dX8_least_165 (lv_at hl 1 rfl) ?_
        refine lv_if_eq (tgt := 193) hx hb dX8_least_167 (by decide) (fun c108 => absurd c108 (by decide)) (fun c108 => ?_)
        refine lv_aload_n hx hb dX8_least_170 rfl (lv_at hl 5 rfl) ?_
        refine va_get (D := (dC, dI)) (ci := 8) (v := .ref npo) (C := RX8) (T := TX8) (N := 53) hx hb hts hin8 hown hK hP 1 rfl rfl 41 (by decide) hw1 (fun _ h9 => h9) rfl dX8_least_171 ?_
        refine lv_iload hx hb dX8_least_174 (lv_at hl 0 rfl) ?_
        refine va_iald hx hb hK hP 0 0 rfl rfl (vin (by decide) (by decide)) dX8_least_176 ?_
        refine lv_topi (fun x109 e109 => ?_)
        obtain rfl : x109 = 0 := e109.trans (by first | rfl | decide)
        refine lv_if_eq (tgt := 189) hx hb dX8_least_177 (by decide) (fun c110 => ?_) (fun c110 => absurd c110 (by decide))
        refine lv_iconst (v := 1) hx hb dX8_least_189 (by decide) ?_
        refine lv_goto (tgt := 194) hx hb dX8_least_190 (by decide) ?_
        refine lv_istore (lv' := [(5, .int 1), (6, .int 4), (7, .int 0), (4, .int 0), (3, .int 0), (0, .ref n), (1, .int 0), (2, .int i1)]) hx hb dX8_least_194 hl (by decide) rfl (fun ls hl => ?_)
        refine lv_iinc (v := 5) (lv' := [(6, .int 5), (5, .int 1), (7, .int 0), (4, .int 0), (3, .int 0), (0, .ref n), (1, .int 0), (2, .int i1)]) hx hb dX8_least_196 hl (k := 1) rfl (by decide) (by decide) rfl (fun ls hl => ?_)
        refine lv_goto (tgt := 158) hx hb dX8_least_199 (by decide) ?_
        refine lv_iload hx hb dX8_least_158 (lv_at hl 0 rfl) ?_
        refine lv_bipush (v := 6) hx hb dX8_least_160 (by decide) ?_
        refine lv_icmp_ge (tgt := 202) hx hb dX8_least_162 (by decide) (fun c111 => absurd c111 (by decide)) (fun c111 => ?_)
        refine lv_iload hx hb dX8_least_165 (lv_at hl 1 rfl) ?_
        refine lv_if_eq (tgt := 193) hx hb dX8_least_167 (by decide) (fun c112 => absurd c112 (by decide)) (fun c112 => ?_)
        refine lv_aload_n hx hb dX8_least_170 rfl (lv_at hl 5 rfl) ?_
        refine va_get (D := (dC, dI)) (ci := 8) (v := .ref npo) (C := RX8) (T := TX8) (N := 53) hx hb hts hin8 hown hK hP 1 rfl rfl 41 (by decide) hw1 (fun _ h9 => h9) rfl dX8_least_171 ?_
        refine lv_iload hx hb dX8_least_174 (lv_at hl 0 rfl) ?_
        refine va_iald hx hb hK hP 0 0 rfl rfl (vin (by decide) (by decide)) dX8_least_176 ?_
        refine lv_topi (fun x113 e113 => ?_)
        obtain rfl : x113 = 0 := e113.trans (by first | rfl | decide)
        refine lv_if_eq (tgt := 189) hx hb dX8_least_177 (by decide) (fun c114 => ?_) (fun c114 => absurd c114 (by decide))
        refine lv_iconst (v := 1) hx hb dX8_least_189 (by decide) ?_
        refine lv_goto (tgt := 194) hx hb dX8_least_190 (by decide) ?_
        refine lv_istore (lv' := [(5, .int 1), (6, .int 5), (7, .int 0), (4, .int 0), (3, .int 0), (0, .ref n), (1, .int 0), (2, .int i1)]) hx hb dX8_least_194 hl (by decide) rfl (fun ls hl => ?_)
        refine lv_iinc (v := 6) (lv' := [(6, .int 6), (5, .int 1), (7, .int 0), (4, .int 0), (3, .int 0), (0, .ref n), (1, .int 0), (2, .int i1)]) hx hb dX8_least_196 hl (k := 1) rfl (by decide) (by decide) rfl (fun ls hl => ?_)
        refine lv_goto (tgt := 158) hx hb dX8_least_199 (by decide) ?_
        refine lv_iload hx hb dX8_least_158 (lv_at hl 0 rfl) ?_
        refine lv_bipush (v := 6) hx hb dX8_least_160 (by decide) ?_
        refine lv_icmp_ge (tgt := 202) hx hb dX8_least_162 (by decide) (fun c115 => ?_) (fun c115 => absurd c115 (by decide))
        refine lv_iload hx hb dX8_least_202 (lv_at hl 1 rfl) ?_
        refine lv_if_eq (tgt := 211) hx hb dX8_least_204 (by decide) (fun c116 => absurd c116 (by decide)) (fun c116 => ?_)
        refine lv_iload_n hx hb dX8_least_207 rfl (lv_at hl 4 rfl) ?_
        refine lv_goto (tgt := 213) hx hb dX8_least_208 (by decide) ?_
        have hP9 := mx_subP (wc := []) hP [] rfl
        have hD9 := hD.sub (ws' := []) [] (by decide) rfl
        exact W.iret (v := 0) hx hb hr (fun t ht hW => ⟨⟨0, (), rfl, (by first | exact Or.inl (⟨rfl, by omega⟩) | exact Or.inr (⟨rfl, by omega⟩)), by rw [ht]; exact hP9, hD9⟩, hS.F ht⟩) hS.2.2 dX8_least_213
    · have hf3 : i1.toInt < 0 ∨ 13 < i1.toInt := hf3
      refine lv_if_eq (tgt := 26) hx hb dX8_least_15 (by decide) (fun c117 => ?_) (fun c117 => absurd c117 (by decide))
      refine lv_iconst (v := (-1)) hx hb dX8_least_26 (by decide) ?_
      have hP9 := mx_subP (wc := []) hP [] rfl
      have hD9 := hD.sub (ws' := []) [] (by decide) rfl
      exact W.iret (v := (-1)) hx hb hr (fun t ht hW => ⟨⟨(-1), (), rfl, (by first | exact Or.inl (⟨rfl, by omega⟩) | exact Or.inr (⟨rfl, by omega⟩)), by rw [ht]; exact hP9, hD9⟩, hS.F ht⟩) hS.2.2 dX8_least_27
  · exfalso; have hf1 : (0 : Int) < 0 ∨ 999999 < (0 : Int) := hf1; omega
set_option maxHeartbeats 4000000 in
set_option maxRecDepth 100000 in
theorem c_X8_leastN (l : Launch) (dC : Nat → ClassId) (dI : Nat → Nat → Nat) (cI cZ cK : ClassId) (tS aK aV : Nat) (n : Nat) (nwi : Nat) (nco : Nat) (nqu : Nat) (nmi : Nat) (nde : Nat) (nsa : Nat) (nsm : Nat) (npa : Nat) (nac : Nat) (nam : Nat) (naw : Nat) (ncs : Nat) (nbw : Nat) (ndc : Nat) (nmk : Nat) (npo : Nat) (nta : Nat) (npl : Nat) (nmm : Nat) (ncu : Nat) (nke : Nat) (nik : Nat) (i0 : Int32) (i1 : Int32) (sz : Nat) (hi0 : i0.toInt ≠ 0) : Ci l yX8_least (wq yX8_least cX8_least 8 (some .int)) ({ frames := 3, cells := 0, slots := 0, locals := 70 }) dC dI cI cZ cK tS aK aV [.ref n, .int i0, .int i1] sz [(n, .inr (8, [.int 800, .int 0, .int 0, .int 0, .int 0, .int 0, .int 0, .ref nwi, .ref nco, .int 0, .ref nqu, .ref nmi, .ref nde, .ref nsa, .ref nsm, .int 0, .ref npa, .int 0, .ref nac, .ref nam, .ref naw, .int 0, .int 0, .int 0, .int 0, .int 0, .int 0, .int 0, .int 0, .int 0, .ref ncs, .ref nbw, .ref ndc, .ref nmk, .int 0, .int 0, .int 0, .int 0, .int 0, .int 0, .int 0, .ref npo, .int 0, .ref nta, .ref npl, .int 0, .int 0, .ref nmm, .ref ncu, .ref nke, .ref nik, .int 0, .int 0])), (npo, .inl (cI, 6, .inl (fun _ => 0)))] (fun (r : Int32) (_ : Unit) => (r = (-1) ∧ (0 ≤ i0.toInt ∧ i0.toInt ≤ 999999)) ∨ (r = (-2) ∧ (i0.toInt < 0 ∨ 999999 < i0.toInt))) (fun _ => []) := by
  refine Met.ofW (cc := cX8_least) (maxL := 8) (ret := (some .int)) (by decide) rfl ?_
  intro p e s m args below meth c s₁ B hml hv
  obtain ⟨rfl, hsz, hP, hKx, hD0⟩ := hv
  have hx := B.exec
  have hb := B.bytes
  have hr := B.returns
  have hts := atoms_spec (ws := wq yX8_least cX8_least 8 (some .int)) B.pre
  have hown : s.vm.findClass RX8 = some m.cls := findClass_of_methodNamed B.named
  have hlocks := B.notSynchronized
  subst hsz
  have hD := hD0.self (sz := s.heap.size)
  generalize hAe : va_A [(n, .inr (8, [.int 800, .int 0, .int 0, .int 0, .int 0, .int 0, .int 0, .ref nwi, .ref nco, .int 0, .ref nqu, .ref nmi, .ref nde, .ref nsa, .ref nsm, .int 0, .ref npa, .int 0, .ref nac, .ref nam, .ref naw, .int 0, .int 0, .int 0, .int 0, .int 0, .int 0, .int 0, .int 0, .int 0, .ref ncs, .ref nbw, .ref ndc, .ref nmk, .int 0, .int 0, .int 0, .int 0, .int 0, .int 0, .int 0, .ref npo, .int 0, .ref nta, .ref npl, .int 0, .int 0, .ref nmm, .ref ncu, .ref nke, .ref nik, .int 0, .int 0])), (npo, .inl (cI, 6, .inl (fun _ => 0)))] s.heap.size = A at hD hKx ⊢
  have hA : ∀ q : Nat, s.heap.size ≤ q → A q := fun q h => by rw [← hAe]; exact Or.inr h
  have hS : va_S A s.heap s.heap [] := va_S.rf
  have hP : va_P (dC, dI) vwCl [(n, .inr (8, [.int 800, .int 0, .int 0, .int 0, .int 0, .int 0, .int 0, .ref nwi, .ref nco, .int 0, .ref nqu, .ref nmi, .ref nde, .ref nsa, .ref nsm, .int 0, .ref npa, .int 0, .ref nac, .ref nam, .ref naw, .int 0, .int 0, .int 0, .int 0, .int 0, .int 0, .int 0, .int 0, .int 0, .ref ncs, .ref nbw, .ref ndc, .ref nmk, .int 0, .int 0, .int 0, .int 0, .int 0, .int 0, .int 0, .ref npo, .int 0, .ref nta, .ref npl, .int 0, .int 0, .ref nmm, .ref ncu, .ref nke, .ref nik, .int 0, .int 0])), (npo, .inl (cI, 6, .inl (fun _ => 0)))] s.heap := hP
  have hl := lv_entry ([.ref n, .int i0, .int i1]) (n := 8) (Nat.le_of_ble_eq_true rfl)
  rw [lg_entry_eq]
  generalize (lg_sl ([.ref n, .int i0, .int i1]) ++ List.replicate (8 - (lg_sl ([.ref n, .int i0, .int i1])).length) Slot.unset).toArray = ls at hl ⊢
  have hl : lv_has ls 8 [(0, .ref n), (1, .int i0), (2, .int i1)] := hl
  have hK := hKx.1
  refine lv_iload_n hx hb dX8_least_0 rfl (lv_at hl 1 rfl) ?_
  refine mx_i (wr := [(n, .inr (8, [.int 800, .int 0, .int 0, .int 0, .int 0, .int 0, .int 0, .ref nwi, .ref nco, .int 0, .ref nqu, .ref nmi, .ref nde, .ref nsa, .ref nsm, .int 0, .ref npa, .int 0, .ref nac, .ref nam, .ref naw, .int 0, .int 0, .int 0, .int 0, .int 0, .int 0, .int 0, .int 0, .int 0, .ref ncs, .ref nbw, .ref ndc, .ref nmk, .int 0, .int 0, .int 0, .int 0, .int 0, .int 0, .int 0, .ref npo, .int 0, .ref nta, .ref npl, .int 0, .int 0, .ref nmm, .ref ncu, .ref nke, .ref nik, .int 0, .int 0])), (npo, .inl (cI, 6, .inl (fun _ => 0)))]) (va_runS (As := [.int i0]) (rest := []) ⟨hx, hb, hml, hown, hts⟩ (c_X8_arePortions l dC dI cI cZ cK tS aK aV i0 s.heap.size) (va_cwS 1 hts (gw_s (fun _ h9 => List.mem_cons_of_mem _ h9) wm_481 wm_482 wm_385 wm_483) rfl rfl rfl (by decide +kernel) ⟨Nat.le_of_ble_eq_true rfl, Nat.le_of_ble_eq_true rfl⟩) (mx_preS hKx hP hD hS hA [] (by decide) rfl) rfl rfl hl.1 rfl (lv_room (Nat.le_of_ble_eq_true rfl)) dX8_least_1 ⟨Nat.le_of_ble_eq_true rfl, Nat.le_of_ble_eq_true rfl⟩) hP hD hS hA [] [0, 1] rfl rfl (by decide) (by decide) (fun r1 u1 H locs hq1 hP hD hS => ?_)
  replace hP : va_P (dC, dI) vwCl [(n, .inr (8, [.int 800, .int 0, .int 0, .int 0, .int 0, .int 0, .int 0, .ref nwi, .ref nco, .int 0, .ref nqu, .ref nmi, .ref nde, .ref nsa, .ref nsm, .int 0, .ref npa, .int 0, .ref nac, .ref nam, .ref naw, .int 0, .int 0, .int 0, .int 0, .int 0, .int 0, .int 0, .int 0, .int 0, .ref ncs, .ref nbw, .ref ndc, .ref nmk, .int 0, .int 0, .int 0, .int 0, .int 0, .int 0, .int 0, .ref npo, .int 0, .ref nta, .ref npl, .int 0, .int 0, .ref nmm, .ref ncu, .ref nke, .ref nik, .int 0, .int 0])), (npo, .inl (cI, 6, .inl (fun _ => 0)))] H := hP
  replace hD : va_D A [(n, .inr (8, [.int 800, .int 0, .int 0, .int 0, .int 0, .int 0, .int 0, .ref nwi, .ref nco, .int 0, .ref nqu, .ref nmi, .ref nde, .ref nsa, .ref nsm, .int 0, .ref npa, .int 0, .ref nac, .ref nam, .ref naw, .int 0, .int 0, .int 0, .int 0, .int 0, .int 0, .int 0, .int 0, .int 0, .ref ncs, .ref nbw, .ref ndc, .ref nmk, .int 0, .int 0, .int 0, .int 0, .int 0, .int 0, .int 0, .ref npo, .int 0, .ref nta, .ref npl, .int 0, .int 0, .ref nmm, .ref ncu, .ref nke, .ref nik, .int 0, .int 0])), (npo, .inl (cI, 6, .inl (fun _ => 0)))] := hD
  rcases hq1 with ⟨rfl, hf1⟩ | ⟨rfl, hf1⟩
  · have hf1 : 0 ≤ i0.toInt ∧ i0.toInt ≤ 999999 := hf1
    refine lv_if_ne (tgt := 10) hx hb dX8_least_4 (by decide) (fun c2 => ?_) (fun c2 => absurd c2 (by decide))
    refine lv_aload_n hx hb dX8_least_10 rfl (lv_at hl 0 rfl) ?_
    refine lv_iload_n hx hb dX8_least_11 rfl (lv_at hl 2 rfl) ?_
    refine mx_i (wr := [(npo, .inl (cI, 6, .inl (fun _ => 0)))]) (va_runV (As := [.int i1]) (rest := []) ⟨hx, hb, hml, hown, hts⟩ (c_X8_isDayOn l dC dI cI cZ cK tS aK aV n nwi nco nqu nmi nde nsa nsm npa nac nam naw ncs nbw ndc nmk npo nta npl nmm ncu nke nik 800 0 0 0 0 0 0 0 0 0 0 0 0 0 0 0 0 0 0 0 0 0 0 0 0 0 0 0 0 0 i1 H.size) (cwV 1 hts (gw_v (fun _ h9 => List.mem_cons_of_mem _ h9) wm_489 wm_490 wm_491 wm_385 wm_492) rfl rfl rfl (by decide +kernel) ⟨Nat.le_of_ble_eq_true rfl, Nat.le_of_ble_eq_true rfl⟩) (mx_preV (C := RX8) (T := TX8) (N := 53) (ci := 8) hKx hP hD hS hA [0] (by decide) rfl rfl rfl) rfl rfl hl.1 rfl (lv_room (Nat.le_of_ble_eq_true rfl)) dX8_least_12 ⟨Nat.le_of_ble_eq_true rfl, Nat.le_of_ble_eq_true rfl⟩) hP hD hS hA [0] [1] rfl rfl (by decide) (by decide) (fun r3 u3 H locs hq3 hP hD hS => ?_)
    replace hP : va_P (dC, dI) vwCl [(npo, .inl (cI, 6, .inl (fun _ => 0))), (n, .inr (8, [.int 800, .int 0, .int 0, .int 0, .int 0, .int 0, .int 0, .ref nwi, .ref nco, .int 0, .ref nqu, .ref nmi, .ref nde, .ref nsa, .ref nsm, .int 0, .ref npa, .int 0, .ref nac, .ref nam, .ref naw, .int 0, .int 0, .int 0, .int 0, .int 0, .int 0, .int 0, .int 0, .int 0, .ref ncs, .ref nbw, .ref ndc, .ref nmk, .int 0, .int 0, .int 0, .int 0, .int 0, .int 0, .int 0, .ref npo, .int 0, .ref nta, .ref npl, .int 0, .int 0, .ref nmm, .ref ncu, .ref nke, .ref nik, .int 0, .int 0]))] H := hP
    replace hD : va_D A [(npo, .inl (cI, 6, .inl (fun _ => 0))), (n, .inr (8, [.int 800, .int 0, .int 0, .int 0, .int 0, .int 0, .int 0, .ref nwi, .ref nco, .int 0, .ref nqu, .ref nmi, .ref nde, .ref nsa, .ref nsm, .int 0, .ref npa, .int 0, .ref nac, .ref nam, .ref naw, .int 0, .int 0, .int 0, .int 0, .int 0, .int 0, .int 0, .int 0, .int 0, .ref ncs, .ref nbw, .ref ndc, .ref nmk, .int 0, .int 0, .int 0, .int 0, .int 0, .int 0, .int 0, .ref npo, .int 0, .ref nta, .ref npl, .int 0, .int 0, .ref nmm, .ref ncu, .ref nke, .ref nik, .int 0, .int 0]))] := hD
    rcases hq3 with ⟨rfl, hf3⟩ | ⟨rfl, hf3⟩
    · have hf3 : 0 ≤ i1.toInt ∧ i1.toInt ≤ 13 := hf3
      refine lv_if_eq (tgt := 26) hx hb dX8_least_15 (by decide) (fun c4 => absurd c4 (by decide)) (fun c4 => ?_)
      refine lv_aload_n hx hb dX8_least_18 rfl (lv_at hl 0 rfl) ?_
      refine lv_iload_n hx hb dX8_least_19 rfl (lv_at hl 1 rfl) ?_
      refine mx_i (wr := []) (va_runV (As := [.int i0]) (rest := []) ⟨hx, hb, hml, hown, hts⟩ (c_X8_layPortionsN l dC dI cI cZ cK tS aK aV n nwi nco nqu nmi nde nsa nsm npa nac nam naw ncs nbw ndc nmk npo nta npl nmm ncu nke nik i0 H.size (by first | omega | decide | assumption | trivial)) (cwV 1 hts (gw_v (fun _ h9 => List.mem_cons_of_mem _ h9) wm_484 wm_485 wm_486 wm_385 wm_487) rfl rfl rfl (by decide +kernel) ⟨Nat.le_of_ble_eq_true rfl, Nat.le_of_ble_eq_true rfl⟩) (mx_preV (C := RX8) (T := TX8) (N := 53) (ci := 8) hKx hP hD hS hA [1, 0] (by decide) rfl rfl rfl) rfl rfl hl.1 rfl (lv_room (Nat.le_of_ble_eq_true rfl)) dX8_least_20 ⟨Nat.le_of_ble_eq_true rfl, Nat.le_of_ble_eq_true rfl⟩) hP hD hS hA [1, 0] [] rfl rfl (by decide) (by decide) (fun r5 u5 H locs hq5 hP hD hS => ?_)
      replace hP : va_P (dC, dI) vwCl [] H := hP
      replace hD : va_D A [] := hD
      obtain rfl : r5 = 0 := hq5
      refine lv_if_ne (tgt := 28) hx hb dX8_least_23 (by decide) (fun c6 => absurd c6 (by decide)) (fun c6 => ?_)
      refine lv_iconst (v := (-1)) hx hb dX8_least_26 (by decide) ?_
      have hP9 := mx_subP (wc := []) hP [] rfl
      have hD9 := hD.sub (ws' := []) [] (by decide) rfl
      exact W.iret (v := (-1)) hx hb hr (fun t ht hW => ⟨⟨(-1), (), rfl, (by first | exact Or.inl (⟨rfl, by omega⟩) | exact Or.inr (⟨rfl, by omega⟩)), by rw [ht]; exact hP9, hD9⟩, hS.F ht⟩) hS.2.2 dX8_least_27
    · have hf3 : i1.toInt < 0 ∨ 13 < i1.toInt := hf3
      refine lv_if_eq (tgt := 26) hx hb dX8_least_15 (by decide) (fun c7 => ?_) (fun c7 => absurd c7 (by decide))
      refine lv_iconst (v := (-1)) hx hb dX8_least_26 (by decide) ?_
      have hP9 := mx_subP (wc := []) hP [] rfl
      have hD9 := hD.sub (ws' := []) [] (by decide) rfl
      exact W.iret (v := (-1)) hx hb hr (fun t ht hW => ⟨⟨(-1), (), rfl, (by first | exact Or.inl (⟨rfl, by omega⟩) | exact Or.inr (⟨rfl, by omega⟩)), by rw [ht]; exact hP9, hD9⟩, hS.F ht⟩) hS.2.2 dX8_least_27
  · have hf1 : i0.toInt < 0 ∨ 999999 < i0.toInt := hf1
    refine lv_if_ne (tgt := 10) hx hb dX8_least_4 (by decide) (fun c8 => absurd c8 (by decide)) (fun c8 => ?_)
    refine lv_bipush (v := (-2)) hx hb dX8_least_7 (by decide) ?_
    have hP9 := mx_subP (wc := []) hP [] rfl
    have hD9 := hD.sub (ws' := []) [] (by decide) rfl
    exact W.iret (v := (-2)) hx hb hr (fun t ht hW => ⟨⟨(-2), (), rfl, (by first | exact Or.inl (⟨rfl, by omega⟩) | exact Or.inr (⟨rfl, by omega⟩)), by rw [ht]; exact hP9, hD9⟩, hS.F ht⟩) hS.2.2 dX8_least_9
set_option maxHeartbeats 4000000 in
set_option maxRecDepth 100000 in
theorem c_X8_goLeaks (l : Launch) (dC : Nat → ClassId) (dI : Nat → Nat → Nat) (cI cZ cK : ClassId) (tS aK aV : Nat) (n : Nat) (nwi : Nat) (nco : Nat) (nqu : Nat) (nmi : Nat) (nde : Nat) (nsa : Nat) (nsm : Nat) (npa : Nat) (nac : Nat) (nam : Nat) (naw : Nat) (ncs : Nat) (nbw : Nat) (ndc : Nat) (nmk : Nat) (npo : Nat) (nta : Nat) (npl : Nat) (nmm : Nat) (ncu : Nat) (nke : Nat) (nik : Nat) (vleft : Int32) (vmetres : Int32) (vshut : Int32) (vshield : Int32) (vtoday : Int32) (vbagged : Int32) (vwarmed : Int32) (vmeals : Int32) (vsights : Int32) (vpadMany : Int32) (vgusty : Int32) (vleakAct : Int32) (vleakMuch : Int32) (vendOfCan : Int32) (vbadAct : Int32) (vbadWhy : Int32) (vburnt : Int32) (vboiled : Int32) (vhadLeft : Int32) (vhadToday : Int32) (vhadBagged : Int32) (vhadWarmed : Int32) (vleaves : Int32) (vdayThen : Int32) (vcoldThen : Int32) (vportionMany : Int32) (vleakMany : Int32) (vleakActs : Int32) (vkeptAt : Int32) (visWriting : Int32) (fk : Nat → Int32) (i0 : Int32) (sz : Nat) : Ci l yX8_goLeaks (wq yX8_goLeaks cX8_goLeaks 5 (some .int)) ({ frames := 1, cells := 0, slots := 0, locals := 20 }) dC dI cI cZ cK tS aK aV [.ref n, .int i0] sz [(n, .inr (8, [.int vleft, .int vmetres, .int vshut, .int vshield, .int vtoday, .int vbagged, .int vwarmed, .ref nwi, .ref nco, .int vmeals, .ref nqu, .ref nmi, .ref nde, .ref nsa, .ref nsm, .int vsights, .ref npa, .int vpadMany, .ref nac, .ref nam, .ref naw, .int 0, .int vgusty, .int vleakAct, .int vleakMuch, .int vendOfCan, .int vbadAct, .int vbadWhy, .int vburnt, .int vboiled, .ref ncs, .ref nbw, .ref ndc, .ref nmk, .int vhadLeft, .int vhadToday, .int vhadBagged, .int vhadWarmed, .int vleaves, .int vdayThen, .int vcoldThen, .ref npo, .int vportionMany, .ref nta, .ref npl, .int vleakMany, .int vleakActs, .ref nmm, .ref ncu, .ref nke, .ref nik, .int vkeptAt, .int visWriting])), (nmm, .inl (cI, 1260, .inl fk))] (fun (r : Int32) (_ : Nat → Int32) => r = (-6)) (fun u => [(n, .inr (8, [.int vleft, .int vmetres, .int vshut, .int vshield, .int vtoday, .int vbagged, .int vwarmed, .ref nwi, .ref nco, .int vmeals, .ref nqu, .ref nmi, .ref nde, .ref nsa, .ref nsm, .int vsights, .ref npa, .int vpadMany, .ref nac, .ref nam, .ref naw, .int 0, .int 0, .int (-6), .int 0, .int 4000, .int vbadAct, .int vbadWhy, .int vburnt, .int vboiled, .ref ncs, .ref nbw, .ref ndc, .ref nmk, .int vleft, .int vtoday, .int vbagged, .int vwarmed, .int vleaves, .int vdayThen, .int vcoldThen, .ref npo, .int vportionMany, .ref nta, .ref npl, .int 0, .int 0, .ref nmm, .ref ncu, .ref nke, .ref nik, .int vkeptAt, .int visWriting])), (nmm, .inl (cI, 1260, .inl u))]) := by
  refine Met.ofW (cc := cX8_goLeaks) (maxL := 5) (ret := (some .int)) (by decide) rfl ?_
  intro p e s m args below meth c s₁ B hml hv
  obtain ⟨rfl, hsz, hP, hKx, hD0⟩ := hv
  have hx := B.exec
  have hb := B.bytes
  have hr := B.returns
  have hts := atoms_spec (ws := wq yX8_goLeaks cX8_goLeaks 5 (some .int)) B.pre
  have hown : s.vm.findClass RX8 = some m.cls := findClass_of_methodNamed B.named
  have hlocks := B.notSynchronized
  subst hsz
  have hD := hD0.self (sz := s.heap.size)
  generalize hAe : va_A [(n, .inr (8, [.int vleft, .int vmetres, .int vshut, .int vshield, .int vtoday, .int vbagged, .int vwarmed, .ref nwi, .ref nco, .int vmeals, .ref nqu, .ref nmi, .ref nde, .ref nsa, .ref nsm, .int vsights, .ref npa, .int vpadMany, .ref nac, .ref nam, .ref naw, .int 0, .int vgusty, .int vleakAct, .int vleakMuch, .int vendOfCan, .int vbadAct, .int vbadWhy, .int vburnt, .int vboiled, .ref ncs, .ref nbw, .ref ndc, .ref nmk, .int vhadLeft, .int vhadToday, .int vhadBagged, .int vhadWarmed, .int vleaves, .int vdayThen, .int vcoldThen, .ref npo, .int vportionMany, .ref nta, .ref npl, .int vleakMany, .int vleakActs, .ref nmm, .ref ncu, .ref nke, .ref nik, .int vkeptAt, .int visWriting])), (nmm, .inl (cI, 1260, .inl fk))] s.heap.size = A at hD hKx ⊢
  have hA : ∀ q : Nat, s.heap.size ≤ q → A q := fun q h => by rw [← hAe]; exact Or.inr h
  have hS : va_S A s.heap s.heap [] := va_S.rf
  have hP : va_P (dC, dI) vwCl [(n, .inr (8, [.int vleft, .int vmetres, .int vshut, .int vshield, .int vtoday, .int vbagged, .int vwarmed, .ref nwi, .ref nco, .int vmeals, .ref nqu, .ref nmi, .ref nde, .ref nsa, .ref nsm, .int vsights, .ref npa, .int vpadMany, .ref nac, .ref nam, .ref naw, .int 0, .int vgusty, .int vleakAct, .int vleakMuch, .int vendOfCan, .int vbadAct, .int vbadWhy, .int vburnt, .int vboiled, .ref ncs, .ref nbw, .ref ndc, .ref nmk, .int vhadLeft, .int vhadToday, .int vhadBagged, .int vhadWarmed, .int vleaves, .int vdayThen, .int vcoldThen, .ref npo, .int vportionMany, .ref nta, .ref npl, .int vleakMany, .int vleakActs, .ref nmm, .ref ncu, .ref nke, .ref nik, .int vkeptAt, .int visWriting])), (nmm, .inl (cI, 1260, .inl fk))] s.heap := hP
  have hl := lv_entry ([.ref n, .int i0]) (n := 5) (Nat.le_of_ble_eq_true rfl)
  rw [lg_entry_eq]
  generalize (lg_sl ([.ref n, .int i0]) ++ List.replicate (5 - (lg_sl ([.ref n, .int i0])).length) Slot.unset).toArray = ls at hl ⊢
  have hl : lv_has ls 5 [(0, .ref n), (1, .int i0)] := hl
  have hK := hKx.1
  have hin8 := fun w9 h9 => List.mem_cons_of_mem (Cond.code yX8_goLeaks cX8_goLeaks 5 (some .int)) (inlX8 w9 h9)
  have hw0 := hts (.fieldLink RX8 281 "OneCanModel" "leakMany" "I") (List.mem_cons_of_mem _ wm_510)
  have hw1 := hts (.fieldLink RX8 284 "OneCanModel" "leakActs" "I") (List.mem_cons_of_mem _ wm_511)
  have hw2 := hts (.fieldLink RX8 137 "OneCanModel" "acts" "I") (List.mem_cons_of_mem _ wm_438)
  have hw3 := hts (.fieldLink RX8 201 "OneCanModel" "leakAct" "I") (List.mem_cons_of_mem _ wm_444)
  have hw4 := hts (.fieldLink RX8 64 "OneCanModel" "markMany" "[I") (List.mem_cons_of_mem _ wm_512)
  refine lv_aload_n hx hb dX8_goLeaks_0 rfl (lv_at hl 0 rfl) ?_
  refine mx_v (wr := [(nmm, .inl (cI, 1260, .inl fk))]) (va_runV (As := []) (rest := []) ⟨hx, hb, hml, hown, hts⟩ (c_X8_keepNow l dC dI cI cZ cK tS aK aV n nwi nco nqu nmi nde nsa nsm npa nac nam naw ncs nbw ndc nmk npo nta npl nmm ncu nke nik vleft vmetres vshut vshield vtoday vbagged vwarmed vmeals vsights vpadMany 0 vgusty vleakAct vleakMuch vendOfCan vbadAct vbadWhy vburnt vboiled vhadLeft vhadToday vhadBagged vhadWarmed vleaves vdayThen vcoldThen vportionMany vleakMany vleakActs vkeptAt visWriting s.heap.size) (cwV 0 hts (gw_v (fun _ h9 => List.mem_cons_of_mem _ h9) wm_457 wm_458 wm_459 wm_385 wm_460) rfl rfl rfl (by decide +kernel) ⟨Nat.le_of_ble_eq_true rfl, Nat.le_of_ble_eq_true rfl⟩) (mx_preV (C := RX8) (T := TX8) (N := 53) (ci := 8) hKx hP hD hS hA [0] (by decide) rfl rfl rfl) rfl rfl hl.1 rfl (lv_room (Nat.le_of_ble_eq_true rfl)) dX8_goLeaks_1 ⟨Nat.le_of_ble_eq_true rfl, Nat.le_of_ble_eq_true rfl⟩) hP hD hS hA [0] [1] rfl rfl (by decide) (by decide) (fun u1 H locs hq1 hP hD hS => ?_)
  replace hP : va_P (dC, dI) vwCl [(nmm, .inl (cI, 1260, .inl fk)), (n, .inr (8, [.int vleft, .int vmetres, .int vshut, .int vshield, .int vtoday, .int vbagged, .int vwarmed, .ref nwi, .ref nco, .int vmeals, .ref nqu, .ref nmi, .ref nde, .ref nsa, .ref nsm, .int vsights, .ref npa, .int vpadMany, .ref nac, .ref nam, .ref naw, .int 0, .int 0, .int (-6), .int 0, .int 4000, .int vbadAct, .int vbadWhy, .int vburnt, .int vboiled, .ref ncs, .ref nbw, .ref ndc, .ref nmk, .int vleft, .int vtoday, .int vbagged, .int vwarmed, .int vleaves, .int vdayThen, .int vcoldThen, .ref npo, .int vportionMany, .ref nta, .ref npl, .int vleakMany, .int vleakActs, .ref nmm, .ref ncu, .ref nke, .ref nik, .int vkeptAt, .int visWriting]))] H := hP
  replace hD : va_D A [(nmm, .inl (cI, 1260, .inl fk)), (n, .inr (8, [.int vleft, .int vmetres, .int vshut, .int vshield, .int vtoday, .int vbagged, .int vwarmed, .ref nwi, .ref nco, .int vmeals, .ref nqu, .ref nmi, .ref nde, .ref nsa, .ref nsm, .int vsights, .ref npa, .int vpadMany, .ref nac, .ref nam, .ref naw, .int 0, .int 0, .int (-6), .int 0, .int 4000, .int vbadAct, .int vbadWhy, .int vburnt, .int vboiled, .ref ncs, .ref nbw, .ref ndc, .ref nmk, .int vleft, .int vtoday, .int vbagged, .int vwarmed, .int vleaves, .int vdayThen, .int vcoldThen, .ref npo, .int vportionMany, .ref nta, .ref npl, .int vleakMany, .int vleakActs, .ref nmm, .ref ncu, .ref nke, .ref nik, .int vkeptAt, .int visWriting]))] := hD
  refine lv_aload_n hx hb dX8_goLeaks_4 rfl (lv_at hl 0 rfl) ?_
  refine lv_iconst (v := 0) hx hb dX8_goLeaks_5 (by decide) ?_
  refine va_put (D := (dC, dI)) (ci := 8) (v := .int 0) (ty := .int) (C := RX8) (T := TX8) (N := 53) hx hb hts hin8 tyX8 tyX8_ok nmX8 hown hK hP hD hS 1 rfl rfl 45 (by decide) hw0 (fun _ h9 => h9) rfl (by decide +kernel) rfl rfl (Nat.le_of_ble_eq_true rfl) dX8_goLeaks_6 (fun H locs hP hD hS => ?_)
  replace hP : va_P (dC, dI) vwCl [(nmm, .inl (cI, 1260, .inl fk)), (n, .inr (8, [.int vleft, .int vmetres, .int vshut, .int vshield, .int vtoday, .int vbagged, .int vwarmed, .ref nwi, .ref nco, .int vmeals, .ref nqu, .ref nmi, .ref nde, .ref nsa, .ref nsm, .int vsights, .ref npa, .int vpadMany, .ref nac, .ref nam, .ref naw, .int 0, .int 0, .int (-6), .int 0, .int 4000, .int vbadAct, .int vbadWhy, .int vburnt, .int vboiled, .ref ncs, .ref nbw, .ref ndc, .ref nmk, .int vleft, .int vtoday, .int vbagged, .int vwarmed, .int vleaves, .int vdayThen, .int vcoldThen, .ref npo, .int vportionMany, .ref nta, .ref npl, .int 0, .int vleakActs, .ref nmm, .ref ncu, .ref nke, .ref nik, .int vkeptAt, .int visWriting]))] H := hP
  replace hD : va_D A [(nmm, .inl (cI, 1260, .inl fk)), (n, .inr (8, [.int vleft, .int vmetres, .int vshut, .int vshield, .int vtoday, .int vbagged, .int vwarmed, .ref nwi, .ref nco, .int vmeals, .ref nqu, .ref nmi, .ref nde, .ref nsa, .ref nsm, .int vsights, .ref npa, .int vpadMany, .ref nac, .ref nam, .ref naw, .int 0, .int 0, .int (-6), .int 0, .int 4000, .int vbadAct, .int vbadWhy, .int vburnt, .int vboiled, .ref ncs, .ref nbw, .ref ndc, .ref nmk, .int vleft, .int vtoday, .int vbagged, .int vwarmed, .int vleaves, .int vdayThen, .int vcoldThen, .ref npo, .int vportionMany, .ref nta, .ref npl, .int 0, .int vleakActs, .ref nmm, .ref ncu, .ref nke, .ref nik, .int vkeptAt, .int visWriting]))] := hD
  refine lv_aload_n hx hb dX8_goLeaks_9 rfl (lv_at hl 0 rfl) ?_
  refine lv_iconst (v := 0) hx hb dX8_goLeaks_10 (by decide) ?_
  refine va_put (D := (dC, dI)) (ci := 8) (v := .int 0) (ty := .int) (C := RX8) (T := TX8) (N := 53) hx hb hts hin8 tyX8 tyX8_ok nmX8 hown hK hP hD hS 1 rfl rfl 46 (by decide) hw1 (fun _ h9 => h9) rfl (by decide +kernel) rfl rfl (Nat.le_of_ble_eq_true rfl) dX8_goLeaks_11 (fun H locs hP hD hS => ?_)
  replace hP : va_P (dC, dI) vwCl [(nmm, .inl (cI, 1260, .inl fk)), (n, .inr (8, [.int vleft, .int vmetres, .int vshut, .int vshield, .int vtoday, .int vbagged, .int vwarmed, .ref nwi, .ref nco, .int vmeals, .ref nqu, .ref nmi, .ref nde, .ref nsa, .ref nsm, .int vsights, .ref npa, .int vpadMany, .ref nac, .ref nam, .ref naw, .int 0, .int 0, .int (-6), .int 0, .int 4000, .int vbadAct, .int vbadWhy, .int vburnt, .int vboiled, .ref ncs, .ref nbw, .ref ndc, .ref nmk, .int vleft, .int vtoday, .int vbagged, .int vwarmed, .int vleaves, .int vdayThen, .int vcoldThen, .ref npo, .int vportionMany, .ref nta, .ref npl, .int 0, .int 0, .ref nmm, .ref ncu, .ref nke, .ref nik, .int vkeptAt, .int visWriting]))] H := hP
  replace hD : va_D A [(nmm, .inl (cI, 1260, .inl fk)), (n, .inr (8, [.int vleft, .int vmetres, .int vshut, .int vshield, .int vtoday, .int vbagged, .int vwarmed, .ref nwi, .ref nco, .int vmeals, .ref nqu, .ref nmi, .ref nde, .ref nsa, .ref nsm, .int vsights, .ref npa, .int vpadMany, .ref nac, .ref nam, .ref naw, .int 0, .int 0, .int (-6), .int 0, .int 4000, .int vbadAct, .int vbadWhy, .int vburnt, .int vboiled, .ref ncs, .ref nbw, .ref ndc, .ref nmk, .int vleft, .int vtoday, .int vbagged, .int vwarmed, .int vleaves, .int vdayThen, .int vcoldThen, .ref npo, .int vportionMany, .ref nta, .ref npl, .int 0, .int 0, .ref nmm, .ref ncu, .ref nke, .ref nik, .int vkeptAt, .int visWriting]))] := hD
  refine lv_iconst (v := 0) hx hb dX8_goLeaks_14 (by decide) ?_
  refine lv_istore_n (lv' := [(2, .int 0), (0, .ref n), (1, .int i0)]) hx hb dX8_goLeaks_15 rfl hl (by decide) rfl (fun ls hl => ?_)
  have z3 : (0 : Int32).toInt = 0 := rfl
  have hl0 := hl
  clear hl
  have hP0 := hP
  clear hP
  have hD0 := hD
  clear hD
  obtain ⟨y2, fz, ex, hl, hP, hD⟩ : ∃ (y2 : Int32) (fz : Nat → Int32), (0 ≤ y2.toInt ∧ y2.toInt ≤ 1260) ∧ lv_has ls 5 [(2, .int y2), (0, .ref n), (1, .int i0)] ∧ va_P (dC, dI) vwCl [(nmm, .inl (cI, 1260, .inl fz)), (n, .inr (8, [.int vleft, .int vmetres, .int vshut, .int vshield, .int vtoday, .int vbagged, .int vwarmed, .ref nwi, .ref nco, .int vmeals, .ref nqu, .ref nmi, .ref nde, .ref nsa, .ref nsm, .int vsights, .ref npa, .int vpadMany, .ref nac, .ref nam, .ref naw, .int 0, .int 0, .int (-6), .int 0, .int 4000, .int vbadAct, .int vbadWhy, .int vburnt, .int vboiled, .ref ncs, .ref nbw, .ref ndc, .ref nmk, .int vleft, .int vtoday, .int vbagged, .int vwarmed, .int vleaves, .int vdayThen, .int vcoldThen, .ref npo, .int vportionMany, .ref nta, .ref npl, .int 0, .int 0, .ref nmm, .ref ncu, .ref nke, .ref nik, .int vkeptAt, .int visWriting]))] H ∧ va_D A [(nmm, .inl (cI, 1260, .inl fz)), (n, .inr (8, [.int vleft, .int vmetres, .int vshut, .int vshield, .int vtoday, .int vbagged, .int vwarmed, .ref nwi, .ref nco, .int vmeals, .ref nqu, .ref nmi, .ref nde, .ref nsa, .ref nsm, .int vsights, .ref npa, .int vpadMany, .ref nac, .ref nam, .ref naw, .int 0, .int 0, .int (-6), .int 0, .int 4000, .int vbadAct, .int vbadWhy, .int vburnt, .int vboiled, .ref ncs, .ref nbw, .ref ndc, .ref nmk, .int vleft, .int vtoday, .int vbagged, .int vwarmed, .int vleaves, .int vdayThen, .int vcoldThen, .ref npo, .int vportionMany, .ref nta, .ref npl, .int 0, .int 0, .ref nmm, .ref ncu, .ref nke, .ref nik, .int vkeptAt, .int visWriting]))] := ⟨0, _, by omega, hl0, hP0, hD0⟩
  clear hl0 hP0 hD0
  obtain ⟨n2, hn⟩ : ∃ n : Nat, (n : Int) = 1260 - y2.toInt := ⟨(1260 - y2.toInt).toNat, by omega⟩
  induction n2 generalizing y2 fz ls H locs with
  | zero =>
    skip
    refine lv_iload_n hx hb dX8_goLeaks_16 rfl (lv_at hl 0 rfl) ?_
    refine lv_sipush (v := 1260) hx hb dX8_goLeaks_17 (by decide) ?_
    refine lv_icmp_ge (tgt := 36) hx hb dX8_goLeaks_20 (by decide) (fun c4 => ?_) (fun c4 => by exfalso; have t4 : y2.toInt < (1260 : Int) := (tnle c4); omega)
    refine lv_bipush (v := (-6)) hx hb dX8_goLeaks_36 (by decide) ?_
    refine lv_istore_n (lv' := [(2, .int (-6)), (0, .ref n), (1, .int i0)]) hx hb dX8_goLeaks_38 rfl hl (by decide) rfl (fun ls hl => ?_)
    refine lv_iconst (v := 0) hx hb dX8_goLeaks_39 (by decide) ?_
    refine lv_istore_n (lv' := [(3, .int 0), (2, .int (-6)), (0, .ref n), (1, .int i0)]) hx hb dX8_goLeaks_40 rfl hl (by decide) rfl (fun ls hl => ?_)
    refine lv_iload_n hx hb dX8_goLeaks_41 rfl (lv_at hl 0 rfl) ?_
    refine lv_aload_n hx hb dX8_goLeaks_42 rfl (lv_at hl 2 rfl) ?_
    refine va_get (D := (dC, dI)) (ci := 8) (v := .int 0) (C := RX8) (T := TX8) (N := 53) hx hb hts hin8 hown hK hP 1 rfl rfl 21 (by decide) hw2 (fun _ h9 => h9) rfl dX8_goLeaks_43 ?_
    refine lv_icmp_ge (tgt := 108) hx hb dX8_goLeaks_46 (by decide) (fun c5 => ?_) (fun c5 => absurd c5 (by decide))
    refine lv_aload_n hx hb dX8_goLeaks_108 rfl (lv_at hl 2 rfl) ?_
    refine lv_bipush (v := (-6)) hx hb dX8_goLeaks_109 (by decide) ?_
    refine va_put (D := (dC, dI)) (ci := 8) (v := .int (-6)) (ty := .int) (C := RX8) (T := TX8) (N := 53) hx hb hts hin8 tyX8 tyX8_ok nmX8 hown hK hP hD hS 1 rfl rfl 23 (by decide) hw3 (fun _ h9 => h9) rfl (by decide +kernel) rfl rfl (Nat.le_of_ble_eq_true rfl) dX8_goLeaks_111 (fun H locs hP hD hS => ?_)
    replace hP : va_P (dC, dI) vwCl [(nmm, .inl (cI, 1260, .inl fz)), (n, .inr (8, [.int vleft, .int vmetres, .int vshut, .int vshield, .int vtoday, .int vbagged, .int vwarmed, .ref nwi, .ref nco, .int vmeals, .ref nqu, .ref nmi, .ref nde, .ref nsa, .ref nsm, .int vsights, .ref npa, .int vpadMany, .ref nac, .ref nam, .ref naw, .int 0, .int 0, .int (-6), .int 0, .int 4000, .int vbadAct, .int vbadWhy, .int vburnt, .int vboiled, .ref ncs, .ref nbw, .ref ndc, .ref nmk, .int vleft, .int vtoday, .int vbagged, .int vwarmed, .int vleaves, .int vdayThen, .int vcoldThen, .ref npo, .int vportionMany, .ref nta, .ref npl, .int 0, .int 0, .ref nmm, .ref ncu, .ref nke, .ref nik, .int vkeptAt, .int visWriting]))] H := hP
    replace hD : va_D A [(nmm, .inl (cI, 1260, .inl fz)), (n, .inr (8, [.int vleft, .int vmetres, .int vshut, .int vshield, .int vtoday, .int vbagged, .int vwarmed, .ref nwi, .ref nco, .int vmeals, .ref nqu, .ref nmi, .ref nde, .ref nsa, .ref nsm, .int vsights, .ref npa, .int vpadMany, .ref nac, .ref nam, .ref naw, .int 0, .int 0, .int (-6), .int 0, .int 4000, .int vbadAct, .int vbadWhy, .int vburnt, .int vboiled, .ref ncs, .ref nbw, .ref ndc, .ref nmk, .int vleft, .int vtoday, .int vbagged, .int vwarmed, .int vleaves, .int vdayThen, .int vcoldThen, .ref npo, .int vportionMany, .ref nta, .ref npl, .int 0, .int 0, .ref nmm, .ref ncu, .ref nke, .ref nik, .int vkeptAt, .int visWriting]))] := hD
    refine lv_iload_n hx hb dX8_goLeaks_114 rfl (lv_at hl 1 rfl) ?_
    have hP9 := mx_subP (wc := [(n, .inr (8, [.int vleft, .int vmetres, .int vshut, .int vshield, .int vtoday, .int vbagged, .int vwarmed, .ref nwi, .ref nco, .int vmeals, .ref nqu, .ref nmi, .ref nde, .ref nsa, .ref nsm, .int vsights, .ref npa, .int vpadMany, .ref nac, .ref nam, .ref naw, .int 0, .int 0, .int (-6), .int 0, .int 4000, .int vbadAct, .int vbadWhy, .int vburnt, .int vboiled, .ref ncs, .ref nbw, .ref ndc, .ref nmk, .int vleft, .int vtoday, .int vbagged, .int vwarmed, .int vleaves, .int vdayThen, .int vcoldThen, .ref npo, .int vportionMany, .ref nta, .ref npl, .int 0, .int 0, .ref nmm, .ref ncu, .ref nke, .ref nik, .int vkeptAt, .int visWriting])), (nmm, .inl (cI, 1260, .inl fz))]) hP [1, 0] rfl
    have hD9 := hD.sub (ws' := [(n, .inr (8, [.int vleft, .int vmetres, .int vshut, .int vshield, .int vtoday, .int vbagged, .int vwarmed, .ref nwi, .ref nco, .int vmeals, .ref nqu, .ref nmi, .ref nde, .ref nsa, .ref nsm, .int vsights, .ref npa, .int vpadMany, .ref nac, .ref nam, .ref naw, .int 0, .int 0, .int (-6), .int 0, .int 4000, .int vbadAct, .int vbadWhy, .int vburnt, .int vboiled, .ref ncs, .ref nbw, .ref ndc, .ref nmk, .int vleft, .int vtoday, .int vbagged, .int vwarmed, .int vleaves, .int vdayThen, .int vcoldThen, .ref npo, .int vportionMany, .ref nta, .ref npl, .int 0, .int 0, .ref nmm, .ref ncu, .ref nke, .ref nik, .int vkeptAt, .int visWriting])), (nmm, .inl (cI, 1260, .inl fz))]) [1, 0] (by decide) rfl
    exact W.iret (v := (-6)) hx hb hr (fun t ht hW => ⟨⟨(-6), (fz), rfl, rfl, by rw [ht]; exact hP9, hD9⟩, hS.F ht⟩) hS.2.2 dX8_goLeaks_115
  | succ n2 ih =>
    skip
    refine lv_iload_n hx hb dX8_goLeaks_16 rfl (lv_at hl 0 rfl) ?_
    refine lv_sipush (v := 1260) hx hb dX8_goLeaks_17 (by decide) ?_
    refine lv_icmp_ge (tgt := 36) hx hb dX8_goLeaks_20 (by decide) (fun c6 => by exfalso; have t6 : (1260 : Int) ≤ y2.toInt := (tle c6); omega) (fun c6 => ?_)
    refine lv_aload_n hx hb dX8_goLeaks_23 rfl (lv_at hl 1 rfl) ?_
    refine va_get (D := (dC, dI)) (ci := 8) (v := .ref nmm) (C := RX8) (T := TX8) (N := 53) hx hb hts hin8 hown hK hP 1 rfl rfl 47 (by decide) hw4 (fun _ h9 => h9) rfl dX8_goLeaks_24 ?_
    refine lv_iload_n hx hb dX8_goLeaks_27 rfl (lv_at hl 0 rfl) ?_
    refine lv_iconst (v := 0) hx hb dX8_goLeaks_28 (by decide) ?_
    refine va_iast hx hb hK hP hD hS 0 0 rfl rfl (vin (by omega) (by omega)) dX8_goLeaks_29 (fun H locs hP hD hS => ?_)
    replace hP : va_P (dC, dI) vwCl [(nmm, .inl (cI, 1260, .inl (upd fz y2.toNatClampNeg 0))), (n, .inr (8, [.int vleft, .int vmetres, .int vshut, .int vshield, .int vtoday, .int vbagged, .int vwarmed, .ref nwi, .ref nco, .int vmeals, .ref nqu, .ref nmi, .ref nde, .ref nsa, .ref nsm, .int vsights, .ref npa, .int vpadMany, .ref nac, .ref nam, .ref naw, .int 0, .int 0, .int (-6), .int 0, .int 4000, .int vbadAct, .int vbadWhy, .int vburnt, .int vboiled, .ref ncs, .ref nbw, .ref ndc, .ref nmk, .int vleft, .int vtoday, .int vbagged, .int vwarmed, .int vleaves, .int vdayThen, .int vcoldThen, .ref npo, .int vportionMany, .ref nta, .ref npl, .int 0, .int 0, .ref nmm, .ref ncu, .ref nke, .ref nik, .int vkeptAt, .int visWriting]))] H := hP
    replace hD : va_D A [(nmm, .inl (cI, 1260, .inl (upd fz y2.toNatClampNeg 0))), (n, .inr (8, [.int vleft, .int vmetres, .int vshut, .int vshield, .int vtoday, .int vbagged, .int vwarmed, .ref nwi, .ref nco, .int vmeals, .ref nqu, .ref nmi, .ref nde, .ref nsa, .ref nsm, .int vsights, .ref npa, .int vpadMany, .ref nac, .ref nam, .ref naw, .int 0, .int 0, .int (-6), .int 0, .int 4000, .int vbadAct, .int vbadWhy, .int vburnt, .int vboiled, .ref ncs, .ref nbw, .ref ndc, .ref nmk, .int vleft, .int vtoday, .int vbagged, .int vwarmed, .int vleaves, .int vdayThen, .int vcoldThen, .ref npo, .int vportionMany, .ref nta, .ref npl, .int 0, .int 0, .ref nmm, .ref ncu, .ref nke, .ref nik, .int vkeptAt, .int visWriting]))] := hD
    obtain ⟨x7, e7⟩ : ∃ y : Int32, y = y2 + Int32.ofInt 1 := ⟨_, rfl⟩
    refine lv_iinc (v := x7) (lv' := [(2, .int x7), (0, .ref n), (1, .int i0)]) hx hb dX8_goLeaks_30 hl (k := 0) rfl e7.symm (by decide) rfl (fun ls hl => ?_)
    have f7 : x7.toInt = y2.toInt + 1 := by rw [e7]; exact tinc (by decide) (by omega) (by omega)
    refine lv_goto (tgt := 16) hx hb dX8_goLeaks_33 (by decide) ?_
    exact ih (H := H) (locs := locs) (ls := ls) (y2 := x7) (fz := (upd fz y2.toNatClampNeg 0)) hS (by omega) (show lv_has ls 5 [(2, .int x7), (0, .ref n), (1, .int i0)] from lv_sub hl [0, 1, 2] rfl) (mx_subP (wc := [(nmm, .inl (cI, 1260, .inl (upd fz y2.toNatClampNeg 0))), (n, .inr (8, [.int vleft, .int vmetres, .int vshut, .int vshield, .int vtoday, .int vbagged, .int vwarmed, .ref nwi, .ref nco, .int vmeals, .ref nqu, .ref nmi, .ref nde, .ref nsa, .ref nsm, .int vsights, .ref npa, .int vpadMany, .ref nac, .ref nam, .ref naw, .int 0, .int 0, .int (-6), .int 0, .int 4000, .int vbadAct, .int vbadWhy, .int vburnt, .int vboiled, .ref ncs, .ref nbw, .ref ndc, .ref nmk, .int vleft, .int vtoday, .int vbagged, .int vwarmed, .int vleaves, .int vdayThen, .int vcoldThen, .ref npo, .int vportionMany, .ref nta, .ref npl, .int 0, .int 0, .ref nmm, .ref ncu, .ref nke, .ref nik, .int vkeptAt, .int visWriting]))]) hP [0, 1] rfl) (hD.sub (ws' := [(nmm, .inl (cI, 1260, .inl (upd fz y2.toNatClampNeg 0))), (n, .inr (8, [.int vleft, .int vmetres, .int vshut, .int vshield, .int vtoday, .int vbagged, .int vwarmed, .ref nwi, .ref nco, .int vmeals, .ref nqu, .ref nmi, .ref nde, .ref nsa, .ref nsm, .int vsights, .ref npa, .int vpadMany, .ref nac, .ref nam, .ref naw, .int 0, .int 0, .int (-6), .int 0, .int 4000, .int vbadAct, .int vbadWhy, .int vburnt, .int vboiled, .ref ncs, .ref nbw, .ref ndc, .ref nmk, .int vleft, .int vtoday, .int vbagged, .int vwarmed, .int vleaves, .int vdayThen, .int vcoldThen, .ref npo, .int vportionMany, .ref nta, .ref npl, .int 0, .int 0, .ref nmm, .ref ncu, .ref nke, .ref nik, .int vkeptAt, .int visWriting]))]) [0, 1] (by decide) rfl) (by omega)
set_option maxHeartbeats 4000000 in
set_option maxRecDepth 100000 in
theorem c_X8_leaks (l : Launch) (dC : Nat → ClassId) (dI : Nat → Nat → Nat) (cI cZ cK : ClassId) (tS aK aV : Nat) (n : Nat) (nwi : Nat) (nco : Nat) (nqu : Nat) (nmi : Nat) (nde : Nat) (nsa : Nat) (nsm : Nat) (npa : Nat) (nac : Nat) (nam : Nat) (naw : Nat) (ncs : Nat) (nbw : Nat) (ndc : Nat) (nmk : Nat) (npo : Nat) (nta : Nat) (npl : Nat) (nmm : Nat) (ncu : Nat) (nke : Nat) (nik : Nat) (i0 : Int32) (sz : Nat) : Ci l yX8_leaks (wq yX8_leaks cX8_leaks 4 (some .int)) ({ frames := 2, cells := 0, slots := 0, locals := 45 }) dC dI cI cZ cK tS aK aV [.ref n, .int i0] sz [(n, .inr (8, [.int 800, .int 0, .int 0, .int 0, .int 0, .int 0, .int 0, .ref nwi, .ref nco, .int 0, .ref nqu, .ref nmi, .ref nde, .ref nsa, .ref nsm, .int 0, .ref npa, .int 0, .ref nac, .ref nam, .ref naw, .int 0, .int 0, .int 0, .int 0, .int 0, .int 0, .int 0, .int 0, .int 0, .ref ncs, .ref nbw, .ref ndc, .ref nmk, .int 0, .int 0, .int 0, .int 0, .int 0, .int 0, .int 0, .ref npo, .int 0, .ref nta, .ref npl, .int 0, .int 0, .ref nmm, .ref ncu, .ref nke, .ref nik, .int 0, .int 0])), (ndc, .inl (cI, 14, .inl (fun _ => 0))), (nmk, .inl (cI, 61, .inl (fun _ => 0))), (nco, .inl (cI, 14, .inl (fun _ => 0))), (nmm, .inl (cI, 1260, .inl (fun _ => 0)))] (fun (r : Int32) (_ : Unit) => (r = 0 ∧ (i0.toInt = -1)) ∨ (r = (-6) ∧ (i0.toInt ≠ -1))) (fun _ => []) := by
  refine Met.ofW (cc := cX8_leaks) (maxL := 4) (ret := (some .int)) (by decide) rfl ?_
  intro p e s m args below meth c s₁ B hml hv
  obtain ⟨rfl, hsz, hP, hKx, hD0⟩ := hv
  have hx := B.exec
  have hb := B.bytes
  have hr := B.returns
  have hts := atoms_spec (ws := wq yX8_leaks cX8_leaks 4 (some .int)) B.pre
  have hown : s.vm.findClass RX8 = some m.cls := findClass_of_methodNamed B.named
  have hlocks := B.notSynchronized
  subst hsz
  have hD := hD0.self (sz := s.heap.size)
  generalize hAe : va_A [(n, .inr (8, [.int 800, .int 0, .int 0, .int 0, .int 0, .int 0, .int 0, .ref nwi, .ref nco, .int 0, .ref nqu, .ref nmi, .ref nde, .ref nsa, .ref nsm, .int 0, .ref npa, .int 0, .ref nac, .ref nam, .ref naw, .int 0, .int 0, .int 0, .int 0, .int 0, .int 0, .int 0, .int 0, .int 0, .ref ncs, .ref nbw, .ref ndc, .ref nmk, .int 0, .int 0, .int 0, .int 0, .int 0, .int 0, .int 0, .ref npo, .int 0, .ref nta, .ref npl, .int 0, .int 0, .ref nmm, .ref ncu, .ref nke, .ref nik, .int 0, .int 0])), (ndc, .inl (cI, 14, .inl (fun _ => 0))), (nmk, .inl (cI, 61, .inl (fun _ => 0))), (nco, .inl (cI, 14, .inl (fun _ => 0))), (nmm, .inl (cI, 1260, .inl (fun _ => 0)))] s.heap.size = A at hD hKx ⊢
  have hA : ∀ q : Nat, s.heap.size ≤ q → A q := fun q h => by rw [← hAe]; exact Or.inr h
  have hS : va_S A s.heap s.heap [] := va_S.rf
  have hP : va_P (dC, dI) vwCl [(n, .inr (8, [.int 800, .int 0, .int 0, .int 0, .int 0, .int 0, .int 0, .ref nwi, .ref nco, .int 0, .ref nqu, .ref nmi, .ref nde, .ref nsa, .ref nsm, .int 0, .ref npa, .int 0, .ref nac, .ref nam, .ref naw, .int 0, .int 0, .int 0, .int 0, .int 0, .int 0, .int 0, .int 0, .int 0, .ref ncs, .ref nbw, .ref ndc, .ref nmk, .int 0, .int 0, .int 0, .int 0, .int 0, .int 0, .int 0, .ref npo, .int 0, .ref nta, .ref npl, .int 0, .int 0, .ref nmm, .ref ncu, .ref nke, .ref nik, .int 0, .int 0])), (ndc, .inl (cI, 14, .inl (fun _ => 0))), (nmk, .inl (cI, 61, .inl (fun _ => 0))), (nco, .inl (cI, 14, .inl (fun _ => 0))), (nmm, .inl (cI, 1260, .inl (fun _ => 0)))] s.heap := hP
  have hl := lv_entry ([.ref n, .int i0]) (n := 4) (Nat.le_of_ble_eq_true rfl)
  rw [lg_entry_eq]
  generalize (lg_sl ([.ref n, .int i0]) ++ List.replicate (4 - (lg_sl ([.ref n, .int i0])).length) Slot.unset).toArray = ls at hl ⊢
  have hl : lv_has ls 4 [(0, .ref n), (1, .int i0)] := hl
  have hK := hKx.1
  have hin8 := fun w9 h9 => List.mem_cons_of_mem (Cond.code yX8_leaks cX8_leaks 4 (some .int)) (inlX8 w9 h9)
  have hw0 := hts (.fieldLink RX8 281 "OneCanModel" "leakMany" "I") (List.mem_cons_of_mem _ wm_510)
  refine lv_aload_n hx hb dX8_leaks_0 rfl (lv_at hl 0 rfl) ?_
  refine mx_i (wr := [(nmm, .inl (cI, 1260, .inl (fun _ => 0)))]) (va_runV (As := []) (rest := []) ⟨hx, hb, hml, hown, hts⟩ (c_X8_refusal l dC dI cI cZ cK tS aK aV n nwi nco nqu nmi nde nsa nsm npa nac nam naw ncs nbw ndc nmk npo nta npl nmm ncu nke nik s.heap.size) (cwV 0 hts (gw_v (fun _ h9 => List.mem_cons_of_mem _ h9) wm_473 wm_474 wm_475 wm_385 wm_476) rfl rfl rfl (by decide +kernel) ⟨Nat.le_of_ble_eq_true rfl, Nat.le_of_ble_eq_true rfl⟩) (mx_preV (C := RX8) (T := TX8) (N := 53) (ci := 8) hKx hP hD hS hA [0, 1, 2, 3] (by decide) rfl rfl rfl) rfl rfl hl.1 rfl (lv_room (Nat.le_of_ble_eq_true rfl)) dX8_leaks_1 ⟨Nat.le_of_ble_eq_true rfl, Nat.le_of_ble_eq_true rfl⟩) hP hD hS hA [0, 1, 2, 3] [4] rfl rfl (by decide) (by decide) (fun r1 u1 H locs hq1 hP hD hS => ?_)
  replace hP : va_P (dC, dI) vwCl [(nmm, .inl (cI, 1260, .inl (fun _ => 0))), (n, .inr (8, [.int 800, .int 0, .int 0, .int 0, .int 0, .int 0, .int 0, .ref nwi, .ref nco, .int 0, .ref nqu, .ref nmi, .ref nde, .ref nsa, .ref nsm, .int 0, .ref npa, .int 0, .ref nac, .ref nam, .ref naw, .int 0, .int 0, .int (-6), .int 0, .int 4000, .int (-6), .int (-6), .int 0, .int 0, .ref ncs, .ref nbw, .ref ndc, .ref nmk, .int 800, .int 0, .int 0, .int 0, .int 800, .int 0, .int 0, .ref npo, .int 0, .ref nta, .ref npl, .int 0, .int 0, .ref nmm, .ref ncu, .ref nke, .ref nik, .int 0, .int 0])), (ndc, .inl (cI, 14, .inl (upd (upd (upd (upd (upd (upd (upd (upd (upd (upd (upd (upd (upd (upd (fun _ => 0) 0 0) 1 0) 2 0) 3 0) 4 0) 5 0) 6 0) 7 0) 8 0) 9 0) 10 0) 11 0) 12 0) 13 0))), (nmk, .inl (cI, 61, .inl (upd (fun _ => 0) 0 4))), (nco, .inl (cI, 14, .inl (fun _ => 0)))] H := hP
  replace hD : va_D A [(nmm, .inl (cI, 1260, .inl (fun _ => 0))), (n, .inr (8, [.int 800, .int 0, .int 0, .int 0, .int 0, .int 0, .int 0, .ref nwi, .ref nco, .int 0, .ref nqu, .ref nmi, .ref nde, .ref nsa, .ref nsm, .int 0, .ref npa, .int 0, .ref nac, .ref nam, .ref naw, .int 0, .int 0, .int (-6), .int 0, .int 4000, .int (-6), .int (-6), .int 0, .int 0, .ref ncs, .ref nbw, .ref ndc, .ref nmk, .int 800, .int 0, .int 0, .int 0, .int 800, .int 0, .int 0, .ref npo, .int 0, .ref nta, .ref npl, .int 0, .int 0, .ref nmm, .ref ncu, .ref nke, .ref nik, .int 0, .int 0])), (ndc, .inl (cI, 14, .inl (upd (upd (upd (upd (upd (upd (upd (upd (upd (upd (upd (upd (upd (upd (fun _ => 0) 0 0) 1 0) 2 0) 3 0) 4 0) 5 0) 6 0) 7 0) 8 0) 9 0) 10 0) 11 0) 12 0) 13 0))), (nmk, .inl (cI, 61, .inl (upd (fun _ => 0) 0 4))), (nco, .inl (cI, 14, .inl (fun _ => 0)))] := hD
  obtain rfl : r1 = (-6) := hq1
  refine lv_istore_n (lv' := [(2, .int (-6)), (0, .ref n), (1, .int i0)]) hx hb dX8_leaks_4 rfl hl (by decide) rfl (fun ls hl => ?_)
  refine lv_iload_n hx hb dX8_leaks_5 rfl (lv_at hl 0 rfl) ?_
  refine lv_bipush (v := (-6)) hx hb dX8_leaks_6 (by decide) ?_
  refine lv_icmp_eq (tgt := 13) hx hb dX8_leaks_8 (by decide) (fun c2 => ?_) (fun c2 => absurd c2 (by decide))
  refine lv_aload_n hx hb dX8_leaks_13 rfl (lv_at hl 1 rfl) ?_
  refine lv_iload_n hx hb dX8_leaks_14 rfl (lv_at hl 2 rfl) ?_
  refine mx_i (wr := [(ndc, .inl (cI, 14, .inl (upd (upd (upd (upd (upd (upd (upd (upd (upd (upd (upd (upd (upd (upd (fun _ => 0) 0 0) 1 0) 2 0) 3 0) 4 0) 5 0) 6 0) 7 0) 8 0) 9 0) 10 0) 11 0) 12 0) 13 0))), (nmk, .inl (cI, 61, .inl (upd (fun _ => 0) 0 4))), (nco, .inl (cI, 14, .inl (fun _ => 0)))]) (va_runV (As := [.int i0]) (rest := []) ⟨hx, hb, hml, hown, hts⟩ (c_X8_goLeaks l dC dI cI cZ cK tS aK aV n nwi nco nqu nmi nde nsa nsm npa nac nam naw ncs nbw ndc nmk npo nta npl nmm ncu nke nik 800 0 0 0 0 0 0 0 0 0 0 (-6) 0 4000 (-6) (-6) 0 0 800 0 0 0 800 0 0 0 0 0 0 0 (fun _ => 0) i0 H.size) (cwV 1 hts (gw_v (fun _ h9 => List.mem_cons_of_mem _ h9) wm_513 wm_514 wm_515 wm_385 wm_516) rfl rfl rfl (by decide +kernel) ⟨Nat.le_of_ble_eq_true rfl, Nat.le_of_ble_eq_true rfl⟩) (mx_preV (C := RX8) (T := TX8) (N := 53) (ci := 8) hKx hP hD hS hA [1, 0] (by decide) rfl rfl rfl) rfl rfl hl.1 rfl (lv_room (Nat.le_of_ble_eq_true rfl)) dX8_leaks_15 ⟨Nat.le_of_ble_eq_true rfl, Nat.le_of_ble_eq_true rfl⟩) hP hD hS hA [1, 0] [2, 3, 4] rfl rfl (by decide) (by decide) (fun r3 u3 H locs hq3 hP hD hS => ?_)
  replace hP : va_P (dC, dI) vwCl [(ndc, .inl (cI, 14, .inl (upd (upd (upd (upd (upd (upd (upd (upd (upd (upd (upd (upd (upd (upd (fun _ => 0) 0 0) 1 0) 2 0) 3 0) 4 0) 5 0) 6 0) 7 0) 8 0) 9 0) 10 0) 11 0) 12 0) 13 0))), (nmk, .inl (cI, 61, .inl (upd (fun _ => 0) 0 4))), (nco, .inl (cI, 14, .inl (fun _ => 0))), (n, .inr (8, [.int 800, .int 0, .int 0, .int 0, .int 0, .int 0, .int 0, .ref nwi, .ref nco, .int 0, .ref nqu, .ref nmi, .ref nde, .ref nsa, .ref nsm, .int 0, .ref npa, .int 0, .ref nac, .ref nam, .ref naw, .int 0, .int 0, .int (-6), .int 0, .int 4000, .int (-6), .int (-6), .int 0, .int 0, .ref ncs, .ref nbw, .ref ndc, .ref nmk, .int 800, .int 0, .int 0, .int 0, .int 800, .int 0, .int 0, .ref npo, .int 0, .ref nta, .ref npl, .int 0, .int 0, .ref nmm, .ref ncu, .ref nke, .ref nik, .int 0, .int 0])), (nmm, .inl (cI, 1260, .inl u3))] H := hP
  replace hD : va_D A [(ndc, .inl (cI, 14, .inl (upd (upd (upd (upd (upd (upd (upd (upd (upd (upd (upd (upd (upd (upd (fun _ => 0) 0 0) 1 0) 2 0) 3 0) 4 0) 5 0) 6 0) 7 0) 8 0) 9 0) 10 0) 11 0) 12 0) 13 0))), (nmk, .inl (cI, 61, .inl (upd (fun _ => 0) 0 4))), (nco, .inl (cI, 14, .inl (fun _ => 0))), (n, .inr (8, [.int 800, .int 0, .int 0, .int 0, .int 0, .int 0, .int 0, .ref nwi, .ref nco, .int 0, .ref nqu, .ref nmi, .ref nde, .ref nsa, .ref nsm, .int 0, .ref npa, .int 0, .ref nac, .ref nam, .ref naw, .int 0, .int 0, .int (-6), .int 0, .int 4000, .int (-6), .int (-6), .int 0, .int 0, .ref ncs, .ref nbw, .ref ndc, .ref nmk, .int 800, .int 0, .int 0, .int 0, .int 800, .int 0, .int 0, .ref npo, .int 0, .ref nta, .ref npl, .int 0, .int 0, .ref nmm, .ref ncu, .ref nke, .ref nik, .int 0, .int 0])), (nmm, .inl (cI, 1260, .inl u3))] := hD
  obtain rfl : r3 = (-6) := hq3
  refine lv_istore_n (lv' := [(3, .int (-6)), (2, .int (-6)), (0, .ref n), (1, .int i0)]) hx hb dX8_leaks_18 rfl hl (by decide) rfl (fun ls hl => ?_)
  refine lv_iload_n hx hb dX8_leaks_19 rfl (lv_at hl 3 rfl) ?_
  refine lv_iconst (v := (-1)) hx hb dX8_leaks_20 (by decide) ?_
  refine lv_icmp_ne (tgt := 31) hx hb dX8_leaks_21 (by decide) (fun c4 => ?_) (fun c4 => ?_)
  · have t4 : i0.toInt ≠ (-1 : Int) := (tne c4)
    refine lv_iload_n hx hb dX8_leaks_31 rfl (lv_at hl 0 rfl) ?_
    have hP9 := mx_subP (wc := []) hP [] rfl
    have hD9 := hD.sub (ws' := []) [] (by decide) rfl
    exact W.iret (v := (-6)) hx hb hr (fun t ht hW => ⟨⟨(-6), (), rfl, (by first | exact Or.inl (⟨rfl, by omega⟩) | exact Or.inr (⟨rfl, by omega⟩)), by rw [ht]; exact hP9, hD9⟩, hS.F ht⟩) hS.2.2 dX8_leaks_32
  · have t4 : i0.toInt = (-1 : Int) := (teq c4)
    refine lv_aload_n hx hb dX8_leaks_24 rfl (lv_at hl 2 rfl) ?_
    refine va_get (D := (dC, dI)) (ci := 8) (v := .int 0) (C := RX8) (T := TX8) (N := 53) hx hb hts hin8 hown hK hP 3 rfl rfl 45 (by decide) hw0 (fun _ h9 => h9) rfl dX8_leaks_25 ?_
    refine lv_goto (tgt := 32) hx hb dX8_leaks_28 (by decide) ?_
    have hP9 := mx_subP (wc := []) hP [] rfl
    have hD9 := hD.sub (ws' := []) [] (by decide) rfl
    exact W.iret (v := 0) hx hb hr (fun t ht hW => ⟨⟨0, (), rfl, (by first | exact Or.inl (⟨rfl, by omega⟩) | exact Or.inr (⟨rfl, by omega⟩)), by rw [ht]; exact hP9, hD9⟩, hS.F ht⟩) hS.2.2 dX8_leaks_32
set_option maxHeartbeats 4000000 in
set_option maxRecDepth 100000 in
theorem c_X8_where (l : Launch) (dC : Nat → ClassId) (dI : Nat → Nat → Nat) (cI cZ cK : ClassId) (tS aK aV : Nat) (n : Nat) (nwi : Nat) (nco : Nat) (nqu : Nat) (nmi : Nat) (nde : Nat) (nsa : Nat) (nsm : Nat) (npa : Nat) (nac : Nat) (nam : Nat) (naw : Nat) (ncs : Nat) (nbw : Nat) (ndc : Nat) (nmk : Nat) (npo : Nat) (nta : Nat) (npl : Nat) (nmm : Nat) (ncu : Nat) (nke : Nat) (nik : Nat) (sz : Nat) : Ci l yX8_where (wq yX8_where cX8_where 2 (some .int)) ({ frames := 2, cells := 0, slots := 0, locals := 45 }) dC dI cI cZ cK tS aK aV [.ref n] sz [(n, .inr (8, [.int 800, .int 0, .int 0, .int 0, .int 0, .int 0, .int 0, .ref nwi, .ref nco, .int 0, .ref nqu, .ref nmi, .ref nde, .ref nsa, .ref nsm, .int 0, .ref npa, .int 0, .ref nac, .ref nam, .ref naw, .int 0, .int 0, .int 0, .int 0, .int 0, .int 0, .int 0, .int 0, .int 0, .ref ncs, .ref nbw, .ref ndc, .ref nmk, .int 0, .int 0, .int 0, .int 0, .int 0, .int 0, .int 0, .ref npo, .int 0, .ref nta, .ref npl, .int 0, .int 0, .ref nmm, .ref ncu, .ref nke, .ref nik, .int 0, .int 0])), (ndc, .inl (cI, 14, .inl (fun _ => 0))), (nmk, .inl (cI, 61, .inl (fun _ => 0))), (nco, .inl (cI, 14, .inl (fun _ => 0))), (nmm, .inl (cI, 1260, .inl (fun _ => 0)))] (fun (r : Int32) (_ : Unit) => r = 0) (fun _ => []) := by
  refine Met.ofW (cc := cX8_where) (maxL := 2) (ret := (some .int)) (by decide) rfl ?_
  intro p e s m args below meth c s₁ B hml hv
  obtain ⟨rfl, hsz, hP, hKx, hD0⟩ := hv
  have hx := B.exec
  have hb := B.bytes
  have hr := B.returns
  have hts := atoms_spec (ws := wq yX8_where cX8_where 2 (some .int)) B.pre
  have hown : s.vm.findClass RX8 = some m.cls := findClass_of_methodNamed B.named
  have hlocks := B.notSynchronized
  subst hsz
  have hD := hD0.self (sz := s.heap.size)
  generalize hAe : va_A [(n, .inr (8, [.int 800, .int 0, .int 0, .int 0, .int 0, .int 0, .int 0, .ref nwi, .ref nco, .int 0, .ref nqu, .ref nmi, .ref nde, .ref nsa, .ref nsm, .int 0, .ref npa, .int 0, .ref nac, .ref nam, .ref naw, .int 0, .int 0, .int 0, .int 0, .int 0, .int 0, .int 0, .int 0, .int 0, .ref ncs, .ref nbw, .ref ndc, .ref nmk, .int 0, .int 0, .int 0, .int 0, .int 0, .int 0, .int 0, .ref npo, .int 0, .ref nta, .ref npl, .int 0, .int 0, .ref nmm, .ref ncu, .ref nke, .ref nik, .int 0, .int 0])), (ndc, .inl (cI, 14, .inl (fun _ => 0))), (nmk, .inl (cI, 61, .inl (fun _ => 0))), (nco, .inl (cI, 14, .inl (fun _ => 0))), (nmm, .inl (cI, 1260, .inl (fun _ => 0)))] s.heap.size = A at hD hKx ⊢
  have hA : ∀ q : Nat, s.heap.size ≤ q → A q := fun q h => by rw [← hAe]; exact Or.inr h
  have hS : va_S A s.heap s.heap [] := va_S.rf
  have hP : va_P (dC, dI) vwCl [(n, .inr (8, [.int 800, .int 0, .int 0, .int 0, .int 0, .int 0, .int 0, .ref nwi, .ref nco, .int 0, .ref nqu, .ref nmi, .ref nde, .ref nsa, .ref nsm, .int 0, .ref npa, .int 0, .ref nac, .ref nam, .ref naw, .int 0, .int 0, .int 0, .int 0, .int 0, .int 0, .int 0, .int 0, .int 0, .ref ncs, .ref nbw, .ref ndc, .ref nmk, .int 0, .int 0, .int 0, .int 0, .int 0, .int 0, .int 0, .ref npo, .int 0, .ref nta, .ref npl, .int 0, .int 0, .ref nmm, .ref ncu, .ref nke, .ref nik, .int 0, .int 0])), (ndc, .inl (cI, 14, .inl (fun _ => 0))), (nmk, .inl (cI, 61, .inl (fun _ => 0))), (nco, .inl (cI, 14, .inl (fun _ => 0))), (nmm, .inl (cI, 1260, .inl (fun _ => 0)))] s.heap := hP
  have hl := lv_entry ([.ref n]) (n := 2) (Nat.le_of_ble_eq_true rfl)
  rw [lg_entry_eq]
  generalize (lg_sl ([.ref n]) ++ List.replicate (2 - (lg_sl ([.ref n])).length) Slot.unset).toArray = ls at hl ⊢
  have hl : lv_has ls 2 [(0, .ref n)] := hl
  have hK := hKx.1
  have hin8 := fun w9 h9 => List.mem_cons_of_mem (Cond.code yX8_where cX8_where 2 (some .int)) (inlX8 w9 h9)
  have hw0 := hts (.fieldLink RX8 284 "OneCanModel" "leakActs" "I") (List.mem_cons_of_mem _ wm_511)
  refine lv_aload_n hx hb dX8_where_0 rfl (lv_at hl 0 rfl) ?_
  refine mx_i (wr := [(nmm, .inl (cI, 1260, .inl (fun _ => 0)))]) (va_runV (As := []) (rest := []) ⟨hx, hb, hml, hown, hts⟩ (c_X8_refusal l dC dI cI cZ cK tS aK aV n nwi nco nqu nmi nde nsa nsm npa nac nam naw ncs nbw ndc nmk npo nta npl nmm ncu nke nik s.heap.size) (cwV 0 hts (gw_v (fun _ h9 => List.mem_cons_of_mem _ h9) wm_473 wm_474 wm_475 wm_385 wm_476) rfl rfl rfl (by decide +kernel) ⟨Nat.le_of_ble_eq_true rfl, Nat.le_of_ble_eq_true rfl⟩) (mx_preV (C := RX8) (T := TX8) (N := 53) (ci := 8) hKx hP hD hS hA [0, 1, 2, 3] (by decide) rfl rfl rfl) rfl rfl hl.1 rfl (lv_room (Nat.le_of_ble_eq_true rfl)) dX8_where_1 ⟨Nat.le_of_ble_eq_true rfl, Nat.le_of_ble_eq_true rfl⟩) hP hD hS hA [0, 1, 2, 3] [4] rfl rfl (by decide) (by decide) (fun r1 u1 H locs hq1 hP hD hS => ?_)
  replace hP : va_P (dC, dI) vwCl [(nmm, .inl (cI, 1260, .inl (fun _ => 0))), (n, .inr (8, [.int 800, .int 0, .int 0, .int 0, .int 0, .int 0, .int 0, .ref nwi, .ref nco, .int 0, .ref nqu, .ref nmi, .ref nde, .ref nsa, .ref nsm, .int 0, .ref npa, .int 0, .ref nac, .ref nam, .ref naw, .int 0, .int 0, .int (-6), .int 0, .int 4000, .int (-6), .int (-6), .int 0, .int 0, .ref ncs, .ref nbw, .ref ndc, .ref nmk, .int 800, .int 0, .int 0, .int 0, .int 800, .int 0, .int 0, .ref npo, .int 0, .ref nta, .ref npl, .int 0, .int 0, .ref nmm, .ref ncu, .ref nke, .ref nik, .int 0, .int 0])), (ndc, .inl (cI, 14, .inl (upd (upd (upd (upd (upd (upd (upd (upd (upd (upd (upd (upd (upd (upd (fun _ => 0) 0 0) 1 0) 2 0) 3 0) 4 0) 5 0) 6 0) 7 0) 8 0) 9 0) 10 0) 11 0) 12 0) 13 0))), (nmk, .inl (cI, 61, .inl (upd (fun _ => 0) 0 4))), (nco, .inl (cI, 14, .inl (fun _ => 0)))] H := hP
  replace hD : va_D A [(nmm, .inl (cI, 1260, .inl (fun _ => 0))), (n, .inr (8, [.int 800, .int 0, .int 0, .int 0, .int 0, .int 0, .int 0, .ref nwi, .ref nco, .int 0, .ref nqu, .ref nmi, .ref nde, .ref nsa, .ref nsm, .int 0, .ref npa, .int 0, .ref nac, .ref nam, .ref naw, .int 0, .int 0, .int (-6), .int 0, .int 4000, .int (-6), .int (-6), .int 0, .int 0, .ref ncs, .ref nbw, .ref ndc, .ref nmk, .int 800, .int 0, .int 0, .int 0, .int 800, .int 0, .int 0, .ref npo, .int 0, .ref nta, .ref npl, .int 0, .int 0, .ref nmm, .ref ncu, .ref nke, .ref nik, .int 0, .int 0])), (ndc, .inl (cI, 14, .inl (upd (upd (upd (upd (upd (upd (upd (upd (upd (upd (upd (upd (upd (upd (fun _ => 0) 0 0) 1 0) 2 0) 3 0) 4 0) 5 0) 6 0) 7 0) 8 0) 9 0) 10 0) 11 0) 12 0) 13 0))), (nmk, .inl (cI, 61, .inl (upd (fun _ => 0) 0 4))), (nco, .inl (cI, 14, .inl (fun _ => 0)))] := hD
  obtain rfl : r1 = (-6) := hq1
  refine lv_istore_n (lv' := [(1, .int (-6)), (0, .ref n)]) hx hb dX8_where_4 rfl hl (by decide) rfl (fun ls hl => ?_)
  refine lv_iload_n hx hb dX8_where_5 rfl (lv_at hl 0 rfl) ?_
  refine lv_bipush (v := (-6)) hx hb dX8_where_6 (by decide) ?_
  refine lv_icmp_eq (tgt := 13) hx hb dX8_where_8 (by decide) (fun c2 => ?_) (fun c2 => absurd c2 (by decide))
  refine lv_aload_n hx hb dX8_where_13 rfl (lv_at hl 1 rfl) ?_
  refine lv_bipush (v := (-6)) hx hb dX8_where_14 (by decide) ?_
  refine mx_i (wr := [(ndc, .inl (cI, 14, .inl (upd (upd (upd (upd (upd (upd (upd (upd (upd (upd (upd (upd (upd (upd (fun _ => 0) 0 0) 1 0) 2 0) 3 0) 4 0) 5 0) 6 0) 7 0) 8 0) 9 0) 10 0) 11 0) 12 0) 13 0))), (nmk, .inl (cI, 61, .inl (upd (fun _ => 0) 0 4))), (nco, .inl (cI, 14, .inl (fun _ => 0)))]) (va_runV (As := [.int (-6)]) (rest := []) ⟨hx, hb, hml, hown, hts⟩ (c_X8_goLeaks l dC dI cI cZ cK tS aK aV n nwi nco nqu nmi nde nsa nsm npa nac nam naw ncs nbw ndc nmk npo nta npl nmm ncu nke nik 800 0 0 0 0 0 0 0 0 0 0 (-6) 0 4000 (-6) (-6) 0 0 800 0 0 0 800 0 0 0 0 0 0 0 (fun _ => 0) (-6) H.size) (cwV 1 hts (gw_v (fun _ h9 => List.mem_cons_of_mem _ h9) wm_513 wm_514 wm_515 wm_385 wm_516) rfl rfl rfl (by decide +kernel) ⟨Nat.le_of_ble_eq_true rfl, Nat.le_of_ble_eq_true rfl⟩) (mx_preV (C := RX8) (T := TX8) (N := 53) (ci := 8) hKx hP hD hS hA [1, 0] (by decide) rfl rfl rfl) rfl rfl hl.1 rfl (lv_room (Nat.le_of_ble_eq_true rfl)) dX8_where_16 ⟨Nat.le_of_ble_eq_true rfl, Nat.le_of_ble_eq_true rfl⟩) hP hD hS hA [1, 0] [2, 3, 4] rfl rfl (by decide) (by decide) (fun r3 u3 H locs hq3 hP hD hS => ?_)
  replace hP : va_P (dC, dI) vwCl [(ndc, .inl (cI, 14, .inl (upd (upd (upd (upd (upd (upd (upd (upd (upd (upd (upd (upd (upd (upd (fun _ => 0) 0 0) 1 0) 2 0) 3 0) 4 0) 5 0) 6 0) 7 0) 8 0) 9 0) 10 0) 11 0) 12 0) 13 0))), (nmk, .inl (cI, 61, .inl (upd (fun _ => 0) 0 4))), (nco, .inl (cI, 14, .inl (fun _ => 0))), (n, .inr (8, [.int 800, .int 0, .int 0, .int 0, .int 0, .int 0, .int 0, .ref nwi, .ref nco, .int 0, .ref nqu, .ref nmi, .ref nde, .ref nsa, .ref nsm, .int 0, .ref npa, .int 0, .ref nac, .ref nam, .ref naw, .int 0, .int 0, .int (-6), .int 0, .int 4000, .int (-6), .int (-6), .int 0, .int 0, .ref ncs, .ref nbw, .ref ndc, .ref nmk, .int 800, .int 0, .int 0, .int 0, .int 800, .int 0, .int 0, .ref npo, .int 0, .ref nta, .ref npl, .int 0, .int 0, .ref nmm, .ref ncu, .ref nke, .ref nik, .int 0, .int 0])), (nmm, .inl (cI, 1260, .inl u3))] H := hP
  replace hD : va_D A [(ndc, .inl (cI, 14, .inl (upd (upd (upd (upd (upd (upd (upd (upd (upd (upd (upd (upd (upd (upd (fun _ => 0) 0 0) 1 0) 2 0) 3 0) 4 0) 5 0) 6 0) 7 0) 8 0) 9 0) 10 0) 11 0) 12 0) 13 0))), (nmk, .inl (cI, 61, .inl (upd (fun _ => 0) 0 4))), (nco, .inl (cI, 14, .inl (fun _ => 0))), (n, .inr (8, [.int 800, .int 0, .int 0, .int 0, .int 0, .int 0, .int 0, .ref nwi, .ref nco, .int 0, .ref nqu, .ref nmi, .ref nde, .ref nsa, .ref nsm, .int 0, .ref npa, .int 0, .ref nac, .ref nam, .ref naw, .int 0, .int 0, .int (-6), .int 0, .int 4000, .int (-6), .int (-6), .int 0, .int 0, .ref ncs, .ref nbw, .ref ndc, .ref nmk, .int 800, .int 0, .int 0, .int 0, .int 800, .int 0, .int 0, .ref npo, .int 0, .ref nta, .ref npl, .int 0, .int 0, .ref nmm, .ref ncu, .ref nke, .ref nik, .int 0, .int 0])), (nmm, .inl (cI, 1260, .inl u3))] := hD
  obtain rfl : r3 = (-6) := hq3
  refine lv_pop hx hb dX8_where_19 rfl ?_
  refine lv_aload_n hx hb dX8_where_20 rfl (lv_at hl 1 rfl) ?_
  refine va_get (D := (dC, dI)) (ci := 8) (v := .int 0) (C := RX8) (T := TX8) (N := 53) hx hb hts hin8 hown hK hP 3 rfl rfl 46 (by decide) hw0 (fun _ h9 => h9) rfl dX8_where_21 ?_
  have hP9 := mx_subP (wc := []) hP [] rfl
  have hD9 := hD.sub (ws' := []) [] (by decide) rfl
  exact W.iret (v := 0) hx hb hr (fun t ht hW => ⟨⟨0, (), rfl, rfl, by rw [ht]; exact hP9, hD9⟩, hS.F ht⟩) hS.2.2 dX8_where_24
set_option maxHeartbeats 4000000 in
set_option maxRecDepth 100000 in
theorem c_X8_weigh (l : Launch) (dC : Nat → ClassId) (dI : Nat → Nat → Nat) (cI cZ cK : ClassId) (tS aK aV : Nat) (n : Nat) (nwi : Nat) (nco : Nat) (nqu : Nat) (nmi : Nat) (nde : Nat) (nsa : Nat) (nsm : Nat) (npa : Nat) (nac : Nat) (nam : Nat) (naw : Nat) (ncs : Nat) (nbw : Nat) (ndc : Nat) (nmk : Nat) (npo : Nat) (nta : Nat) (npl : Nat) (nmm : Nat) (ncu : Nat) (nke : Nat) (nik : Nat) (i0 : Int32) (sz : Nat) : Ci l yX8_weigh (wq yX8_weigh cX8_weigh 5 (some .int)) ({ frames := 2, cells := 0, slots := 0, locals := 45 }) dC dI cI cZ cK tS aK aV [.ref n, .int i0] sz [(n, .inr (8, [.int 800, .int 0, .int 0, .int 0, .int 0, .int 0, .int 0, .ref nwi, .ref nco, .int 0, .ref nqu, .ref nmi, .ref nde, .ref nsa, .ref nsm, .int 0, .ref npa, .int 0, .ref nac, .ref nam, .ref naw, .int 0, .int 0, .int 0, .int 0, .int 0, .int 0, .int 0, .int 0, .int 0, .ref ncs, .ref nbw, .ref ndc, .ref nmk, .int 0, .int 0, .int 0, .int 0, .int 0, .int 0, .int 0, .ref npo, .int 0, .ref nta, .ref npl, .int 0, .int 0, .ref nmm, .ref ncu, .ref nke, .ref nik, .int 0, .int 0])), (ndc, .inl (cI, 14, .inl (fun _ => 0))), (nmk, .inl (cI, 61, .inl (fun _ => 0))), (nco, .inl (cI, 14, .inl (fun _ => 0))), (nmm, .inl (cI, 1260, .inl (fun _ => 0)))] (fun (r : Int32) (_ : Unit) => (r = (-6) ∧ (0 ≤ i0.toInt ∧ i0.toInt ≤ 1)) ∨ (r = (-2) ∧ (i0.toInt < 0 ∨ 1 < i0.toInt))) (fun _ => []) := by
  refine Met.ofW (cc := cX8_weigh) (maxL := 5) (ret := (some .int)) (by decide) rfl ?_
  intro p e s m args below meth c s₁ B hml hv
  obtain ⟨rfl, hsz, hP, hKx, hD0⟩ := hv
  have hx := B.exec
  have hb := B.bytes
  have hr := B.returns
  have hts := atoms_spec (ws := wq yX8_weigh cX8_weigh 5 (some .int)) B.pre
  have hown : s.vm.findClass RX8 = some m.cls := findClass_of_methodNamed B.named
  have hlocks := B.notSynchronized
  subst hsz
  have hD := hD0.self (sz := s.heap.size)
  generalize hAe : va_A [(n, .inr (8, [.int 800, .int 0, .int 0, .int 0, .int 0, .int 0, .int 0, .ref nwi, .ref nco, .int 0, .ref nqu, .ref nmi, .ref nde, .ref nsa, .ref nsm, .int 0, .ref npa, .int 0, .ref nac, .ref nam, .ref naw, .int 0, .int 0, .int 0, .int 0, .int 0, .int 0, .int 0, .int 0, .int 0, .ref ncs, .ref nbw, .ref ndc, .ref nmk, .int 0, .int 0, .int 0, .int 0, .int 0, .int 0, .int 0, .ref npo, .int 0, .ref nta, .ref npl, .int 0, .int 0, .ref nmm, .ref ncu, .ref nke, .ref nik, .int 0, .int 0])), (ndc, .inl (cI, 14, .inl (fun _ => 0))), (nmk, .inl (cI, 61, .inl (fun _ => 0))), (nco, .inl (cI, 14, .inl (fun _ => 0))), (nmm, .inl (cI, 1260, .inl (fun _ => 0)))] s.heap.size = A at hD hKx ⊢
  have hA : ∀ q : Nat, s.heap.size ≤ q → A q := fun q h => by rw [← hAe]; exact Or.inr h
  have hS : va_S A s.heap s.heap [] := va_S.rf
  have hP : va_P (dC, dI) vwCl [(n, .inr (8, [.int 800, .int 0, .int 0, .int 0, .int 0, .int 0, .int 0, .ref nwi, .ref nco, .int 0, .ref nqu, .ref nmi, .ref nde, .ref nsa, .ref nsm, .int 0, .ref npa, .int 0, .ref nac, .ref nam, .ref naw, .int 0, .int 0, .int 0, .int 0, .int 0, .int 0, .int 0, .int 0, .int 0, .ref ncs, .ref nbw, .ref ndc, .ref nmk, .int 0, .int 0, .int 0, .int 0, .int 0, .int 0, .int 0, .ref npo, .int 0, .ref nta, .ref npl, .int 0, .int 0, .ref nmm, .ref ncu, .ref nke, .ref nik, .int 0, .int 0])), (ndc, .inl (cI, 14, .inl (fun _ => 0))), (nmk, .inl (cI, 61, .inl (fun _ => 0))), (nco, .inl (cI, 14, .inl (fun _ => 0))), (nmm, .inl (cI, 1260, .inl (fun _ => 0)))] s.heap := hP
  have hl := lv_entry ([.ref n, .int i0]) (n := 5) (Nat.le_of_ble_eq_true rfl)
  rw [lg_entry_eq]
  generalize (lg_sl ([.ref n, .int i0]) ++ List.replicate (5 - (lg_sl ([.ref n, .int i0])).length) Slot.unset).toArray = ls at hl ⊢
  have hl : lv_has ls 5 [(0, .ref n), (1, .int i0)] := hl
  have hK := hKx.1
  have hin8 := fun w9 h9 => List.mem_cons_of_mem (Cond.code yX8_weigh cX8_weigh 5 (some .int)) (inlX8 w9 h9)
  have hw0 := hts (.fieldLink RX8 281 "OneCanModel" "leakMany" "I") (List.mem_cons_of_mem _ wm_510)
  refine lv_iload_n hx hb dX8_weigh_0 rfl (lv_at hl 1 rfl) ?_
  refine lv_i2l (v := i0.toInt64) hx hb dX8_weigh_1 rfl ?_
  refine lv_lconst (v := 0) hx hb dX8_weigh_2 (by decide) ?_
  refine lv_lconst (v := 1) hx hb dX8_weigh_3 (by decide) ?_
  refine mx_i (wr := [(n, .inr (8, [.int 800, .int 0, .int 0, .int 0, .int 0, .int 0, .int 0, .ref nwi, .ref nco, .int 0, .ref nqu, .ref nmi, .ref nde, .ref nsa, .ref nsm, .int 0, .ref npa, .int 0, .ref nac, .ref nam, .ref naw, .int 0, .int 0, .int 0, .int 0, .int 0, .int 0, .int 0, .int 0, .int 0, .ref ncs, .ref nbw, .ref ndc, .ref nmk, .int 0, .int 0, .int 0, .int 0, .int 0, .int 0, .int 0, .ref npo, .int 0, .ref nta, .ref npl, .int 0, .int 0, .ref nmm, .ref ncu, .ref nke, .ref nik, .int 0, .int 0])), (ndc, .inl (cI, 14, .inl (fun _ => 0))), (nmk, .inl (cI, 61, .inl (fun _ => 0))), (nco, .inl (cI, 14, .inl (fun _ => 0))), (nmm, .inl (cI, 1260, .inl (fun _ => 0)))]) (va_runS (As := [.long (i0.toInt64), .long 0, .long 1]) (rest := []) ⟨hx, hb, hml, hown, hts⟩ (c_X8_in l dC dI cI cZ cK tS aK aV (i0.toInt64) 0 1 s.heap.size) (va_cwS 3 hts (gw_s (fun _ h9 => List.mem_cons_of_mem _ h9) wm_383 wm_384 wm_385 wm_386) rfl rfl rfl (by decide +kernel) ⟨Nat.le_of_ble_eq_true rfl, Nat.le_of_ble_eq_true rfl⟩) (mx_preS hKx hP hD hS hA [] (by decide) rfl) rfl rfl hl.1 rfl (lv_room (Nat.le_of_ble_eq_true rfl)) dX8_weigh_4 ⟨Nat.le_of_ble_eq_true rfl, Nat.le_of_ble_eq_true rfl⟩) hP hD hS hA [] [0, 1, 2, 3, 4] rfl rfl (by decide) (by decide) (fun r1 u1 H locs hq1 hP hD hS => ?_)
  replace hP : va_P (dC, dI) vwCl [(n, .inr (8, [.int 800, .int 0, .int 0, .int 0, .int 0, .int 0, .int 0, .ref nwi, .ref nco, .int 0, .ref nqu, .ref nmi, .ref nde, .ref nsa, .ref nsm, .int 0, .ref npa, .int 0, .ref nac, .ref nam, .ref naw, .int 0, .int 0, .int 0, .int 0, .int 0, .int 0, .int 0, .int 0, .int 0, .ref ncs, .ref nbw, .ref ndc, .ref nmk, .int 0, .int 0, .int 0, .int 0, .int 0, .int 0, .int 0, .ref npo, .int 0, .ref nta, .ref npl, .int 0, .int 0, .ref nmm, .ref ncu, .ref nke, .ref nik, .int 0, .int 0])), (ndc, .inl (cI, 14, .inl (fun _ => 0))), (nmk, .inl (cI, 61, .inl (fun _ => 0))), (nco, .inl (cI, 14, .inl (fun _ => 0))), (nmm, .inl (cI, 1260, .inl (fun _ => 0)))] H := hP
  replace hD : va_D A [(n, .inr (8, [.int 800, .int 0, .int 0, .int 0, .int 0, .int 0, .int 0, .ref nwi, .ref nco, .int 0, .ref nqu, .ref nmi, .ref nde, .ref nsa, .ref nsm, .int 0, .ref npa, .int 0, .ref nac, .ref nam, .ref naw, .int 0, .int 0, .int 0, .int 0, .int 0, .int 0, .int 0, .int 0, .int 0, .ref ncs, .ref nbw, .ref ndc, .ref nmk, .int 0, .int 0, .int 0, .int 0, .int 0, .int 0, .int 0, .ref npo, .int 0, .ref nta, .ref npl, .int 0, .int 0, .ref nmm, .ref ncu, .ref nke, .ref nik, .int 0, .int 0])), (ndc, .inl (cI, 14, .inl (fun _ => 0))), (nmk, .inl (cI, 61, .inl (fun _ => 0))), (nco, .inl (cI, 14, .inl (fun _ => 0))), (nmm, .inl (cI, 1260, .inl (fun _ => 0)))] := hD
  rcases hq1 with ⟨rfl, hf1⟩ | ⟨rfl, hf1⟩
  · have hf1 : (0 : Int) ≤ i0.toInt ∧ i0.toInt ≤ (1 : Int) := (by have h9 := hf1; simp only [Int32.toInt_toInt64] at h9; exact h9)
    refine lv_if_ne (tgt := 13) hx hb dX8_weigh_7 (by decide) (fun c2 => ?_) (fun c2 => absurd c2 (by decide))
    refine lv_aload_n hx hb dX8_weigh_13 rfl (lv_at hl 0 rfl) ?_
    refine mx_i (wr := [(nmm, .inl (cI, 1260, .inl (fun _ => 0)))]) (va_runV (As := []) (rest := []) ⟨hx, hb, hml, hown, hts⟩ (c_X8_refusal l dC dI cI cZ cK tS aK aV n nwi nco nqu nmi nde nsa nsm npa nac nam naw ncs nbw ndc nmk npo nta npl nmm ncu nke nik H.size) (cwV 0 hts (gw_v (fun _ h9 => List.mem_cons_of_mem _ h9) wm_473 wm_474 wm_475 wm_385 wm_476) rfl rfl rfl (by decide +kernel) ⟨Nat.le_of_ble_eq_true rfl, Nat.le_of_ble_eq_true rfl⟩) (mx_preV (C := RX8) (T := TX8) (N := 53) (ci := 8) hKx hP hD hS hA [0, 1, 2, 3] (by decide) rfl rfl rfl) rfl rfl hl.1 rfl (lv_room (Nat.le_of_ble_eq_true rfl)) dX8_weigh_14 ⟨Nat.le_of_ble_eq_true rfl, Nat.le_of_ble_eq_true rfl⟩) hP hD hS hA [0, 1, 2, 3] [4] rfl rfl (by decide) (by decide) (fun r3 u3 H locs hq3 hP hD hS => ?_)
    replace hP : va_P (dC, dI) vwCl [(nmm, .inl (cI, 1260, .inl (fun _ => 0))), (n, .inr (8, [.int 800, .int 0, .int 0, .int 0, .int 0, .int 0, .int 0, .ref nwi, .ref nco, .int 0, .ref nqu, .ref nmi, .ref nde, .ref nsa, .ref nsm, .int 0, .ref npa, .int 0, .ref nac, .ref nam, .ref naw, .int 0, .int 0, .int (-6), .int 0, .int 4000, .int (-6), .int (-6), .int 0, .int 0, .ref ncs, .ref nbw, .ref ndc, .ref nmk, .int 800, .int 0, .int 0, .int 0, .int 800, .int 0, .int 0, .ref npo, .int 0, .ref nta, .ref npl, .int 0, .int 0, .ref nmm, .ref ncu, .ref nke, .ref nik, .int 0, .int 0])), (ndc, .inl (cI, 14, .inl (upd (upd (upd (upd (upd (upd (upd (upd (upd (upd (upd (upd (upd (upd (fun _ => 0) 0 0) 1 0) 2 0) 3 0) 4 0) 5 0) 6 0) 7 0) 8 0) 9 0) 10 0) 11 0) 12 0) 13 0))), (nmk, .inl (cI, 61, .inl (upd (fun _ => 0) 0 4))), (nco, .inl (cI, 14, .inl (fun _ => 0)))] H := hP
    replace hD : va_D A [(nmm, .inl (cI, 1260, .inl (fun _ => 0))), (n, .inr (8, [.int 800, .int 0, .int 0, .int 0, .int 0, .int 0, .int 0, .ref nwi, .ref nco, .int 0, .ref nqu, .ref nmi, .ref nde, .ref nsa, .ref nsm, .int 0, .ref npa, .int 0, .ref nac, .ref nam, .ref naw, .int 0, .int 0, .int (-6), .int 0, .int 4000, .int (-6), .int (-6), .int 0, .int 0, .ref ncs, .ref nbw, .ref ndc, .ref nmk, .int 800, .int 0, .int 0, .int 0, .int 800, .int 0, .int 0, .ref npo, .int 0, .ref nta, .ref npl, .int 0, .int 0, .ref nmm, .ref ncu, .ref nke, .ref nik, .int 0, .int 0])), (ndc, .inl (cI, 14, .inl (upd (upd (upd (upd (upd (upd (upd (upd (upd (upd (upd (upd (upd (upd (fun _ => 0) 0 0) 1 0) 2 0) 3 0) 4 0) 5 0) 6 0) 7 0) 8 0) 9 0) 10 0) 11 0) 12 0) 13 0))), (nmk, .inl (cI, 61, .inl (upd (fun _ => 0) 0 4))), (nco, .inl (cI, 14, .inl (fun _ => 0)))] := hD
    obtain rfl : r3 = (-6) := hq3
    refine lv_istore_n (lv' := [(2, .int (-6)), (0, .ref n), (1, .int i0)]) hx hb dX8_weigh_17 rfl hl (by decide) rfl (fun ls hl => ?_)
    refine lv_iload_n hx hb dX8_weigh_18 rfl (lv_at hl 0 rfl) ?_
    refine lv_bipush (v := (-6)) hx hb dX8_weigh_19 (by decide) ?_
    refine lv_icmp_eq (tgt := 26) hx hb dX8_weigh_21 (by decide) (fun c4 => ?_) (fun c4 => absurd c4 (by decide))
    refine lv_aload_n hx hb dX8_weigh_26 rfl (lv_at hl 1 rfl) ?_
    refine lv_bipush (v := (-6)) hx hb dX8_weigh_27 (by decide) ?_
    refine mx_i (wr := [(ndc, .inl (cI, 14, .inl (upd (upd (upd (upd (upd (upd (upd (upd (upd (upd (upd (upd (upd (upd (fun _ => 0) 0 0) 1 0) 2 0) 3 0) 4 0) 5 0) 6 0) 7 0) 8 0) 9 0) 10 0) 11 0) 12 0) 13 0))), (nmk, .inl (cI, 61, .inl (upd (fun _ => 0) 0 4))), (nco, .inl (cI, 14, .inl (fun _ => 0)))]) (va_runV (As := [.int (-6)]) (rest := []) ⟨hx, hb, hml, hown, hts⟩ (c_X8_goLeaks l dC dI cI cZ cK tS aK aV n nwi nco nqu nmi nde nsa nsm npa nac nam naw ncs nbw ndc nmk npo nta npl nmm ncu nke nik 800 0 0 0 0 0 0 0 0 0 0 (-6) 0 4000 (-6) (-6) 0 0 800 0 0 0 800 0 0 0 0 0 0 0 (fun _ => 0) (-6) H.size) (cwV 1 hts (gw_v (fun _ h9 => List.mem_cons_of_mem _ h9) wm_513 wm_514 wm_515 wm_385 wm_516) rfl rfl rfl (by decide +kernel) ⟨Nat.le_of_ble_eq_true rfl, Nat.le_of_ble_eq_true rfl⟩) (mx_preV (C := RX8) (T := TX8) (N := 53) (ci := 8) hKx hP hD hS hA [1, 0] (by decide) rfl rfl rfl) rfl rfl hl.1 rfl (lv_room (Nat.le_of_ble_eq_true rfl)) dX8_weigh_29 ⟨Nat.le_of_ble_eq_true rfl, Nat.le_of_ble_eq_true rfl⟩) hP hD hS hA [1, 0] [2, 3, 4] rfl rfl (by decide) (by decide) (fun r5 u5 H locs hq5 hP hD hS => ?_)
    replace hP : va_P (dC, dI) vwCl [(ndc, .inl (cI, 14, .inl (upd (upd (upd (upd (upd (upd (upd (upd (upd (upd (upd (upd (upd (upd (fun _ => 0) 0 0) 1 0) 2 0) 3 0) 4 0) 5 0) 6 0) 7 0) 8 0) 9 0) 10 0) 11 0) 12 0) 13 0))), (nmk, .inl (cI, 61, .inl (upd (fun _ => 0) 0 4))), (nco, .inl (cI, 14, .inl (fun _ => 0))), (n, .inr (8, [.int 800, .int 0, .int 0, .int 0, .int 0, .int 0, .int 0, .ref nwi, .ref nco, .int 0, .ref nqu, .ref nmi, .ref nde, .ref nsa, .ref nsm, .int 0, .ref npa, .int 0, .ref nac, .ref nam, .ref naw, .int 0, .int 0, .int (-6), .int 0, .int 4000, .int (-6), .int (-6), .int 0, .int 0, .ref ncs, .ref nbw, .ref ndc, .ref nmk, .int 800, .int 0, .int 0, .int 0, .int 800, .int 0, .int 0, .ref npo, .int 0, .ref nta, .ref npl, .int 0, .int 0, .ref nmm, .ref ncu, .ref nke, .ref nik, .int 0, .int 0])), (nmm, .inl (cI, 1260, .inl u5))] H := hP
    replace hD : va_D A [(ndc, .inl (cI, 14, .inl (upd (upd (upd (upd (upd (upd (upd (upd (upd (upd (upd (upd (upd (upd (fun _ => 0) 0 0) 1 0) 2 0) 3 0) 4 0) 5 0) 6 0) 7 0) 8 0) 9 0) 10 0) 11 0) 12 0) 13 0))), (nmk, .inl (cI, 61, .inl (upd (fun _ => 0) 0 4))), (nco, .inl (cI, 14, .inl (fun _ => 0))), (n, .inr (8, [.int 800, .int 0, .int 0, .int 0, .int 0, .int 0, .int 0, .ref nwi, .ref nco, .int 0, .ref nqu, .ref nmi, .ref nde, .ref nsa, .ref nsm, .int 0, .ref npa, .int 0, .ref nac, .ref nam, .ref naw, .int 0, .int 0, .int (-6), .int 0, .int 4000, .int (-6), .int (-6), .int 0, .int 0, .ref ncs, .ref nbw, .ref ndc, .ref nmk, .int 800, .int 0, .int 0, .int 0, .int 800, .int 0, .int 0, .ref npo, .int 0, .ref nta, .ref npl, .int 0, .int 0, .ref nmm, .ref ncu, .ref nke, .ref nik, .int 0, .int 0])), (nmm, .inl (cI, 1260, .inl u5))] := hD
    obtain rfl : r5 = (-6) := hq5
    refine lv_pop hx hb dX8_weigh_32 rfl ?_
    refine lv_aload_n hx hb dX8_weigh_33 rfl (lv_at hl 1 rfl) ?_
    refine va_get (D := (dC, dI)) (ci := 8) (v := .int 0) (C := RX8) (T := TX8) (N := 53) hx hb hts hin8 hown hK hP 3 rfl rfl 45 (by decide) hw0 (fun _ h9 => h9) rfl dX8_weigh_34 ?_
    refine lv_if_ne (tgt := 43) hx hb dX8_weigh_37 (by decide) (fun c6 => absurd c6 (by decide)) (fun c6 => ?_)
    refine lv_bipush (v := (-6)) hx hb dX8_weigh_40 (by decide) ?_
    have hP9 := mx_subP (wc := []) hP [] rfl
    have hD9 := hD.sub (ws' := []) [] (by decide) rfl
    exact W.iret (v := (-6)) hx hb hr (fun t ht hW => ⟨⟨(-6), (), rfl, (by first | exact Or.inl (⟨rfl, by omega⟩) | exact Or.inr (⟨rfl, by omega⟩)), by rw [ht]; exact hP9, hD9⟩, hS.F ht⟩) hS.2.2 dX8_weigh_42
  · have hf1 : i0.toInt < (0 : Int) ∨ (1 : Int) < i0.toInt := (by have h9 := hf1; simp only [Int32.toInt_toInt64] at h9; exact h9)
    refine lv_if_ne (tgt := 13) hx hb dX8_weigh_7 (by decide) (fun c7 => absurd c7 (by decide)) (fun c7 => ?_)
    refine lv_bipush (v := (-2)) hx hb dX8_weigh_10 (by decide) ?_
    have hP9 := mx_subP (wc := []) hP [] rfl
    have hD9 := hD.sub (ws' := []) [] (by decide) rfl
    exact W.iret (v := (-2)) hx hb hr (fun t ht hW => ⟨⟨(-2), (), rfl, (by first | exact Or.inl (⟨rfl, by omega⟩) | exact Or.inr (⟨rfl, by omega⟩)), by rw [ht]; exact hP9, hD9⟩, hS.F ht⟩) hS.2.2 dX8_weigh_12
set_option maxHeartbeats 4000000 in
set_option maxRecDepth 100000 in
theorem c_X8_lowest_10_0 (l : Launch) (dC : Nat → ClassId) (dI : Nat → Nat → Nat) (cI cZ cK : ClassId) (tS aK aV : Nat) (sz : Nat) : Cl l yX8_lowest (wq yX8_lowest cX8_lowest 11 (some .long)) ({ frames := 0, cells := 0, slots := 0, locals := 0 }) dC dI cI cZ cK tS aK aV [.long 10, .long 10, .int 0] sz [] (fun (r : Int64) (_ : Unit) => r = 1) (fun _ => []) := by
  refine Met.ofW (cc := cX8_lowest) (maxL := 11) (ret := (some .long)) (by decide) rfl ?_
  intro p e s m args below meth c s₁ B hml hv
  obtain ⟨rfl, hsz, hP, hKx, hD0⟩ := hv
  have hx := B.exec
  have hb := B.bytes
  have hr := B.returns
  have hts := atoms_spec (ws := wq yX8_lowest cX8_lowest 11 (some .long)) B.pre
  have hown : s.vm.findClass RX8 = some m.cls := findClass_of_methodNamed B.named
  have hlocks := B.notSynchronized
  subst hsz
  have hD := hD0.self (sz := s.heap.size)
  generalize hAe : va_A [] s.heap.size = A at hD hKx ⊢
  have hA : ∀ q : Nat, s.heap.size ≤ q → A q := fun q h => by rw [← hAe]; exact Or.inr h
  have hS : va_S A s.heap s.heap [] := va_S.rf
  have hP : va_P (dC, dI) vwCl [] s.heap := hP
  have hl := lv_entry ([.long 10, .long 10, .int 0]) (n := 11) (Nat.le_of_ble_eq_true rfl)
  rw [lg_entry_eq]
  generalize (lg_sl ([.long 10, .long 10, .int 0]) ++ List.replicate (11 - (lg_sl ([.long 10, .long 10, .int 0])).length) Slot.unset).toArray = ls at hl ⊢
  have hl : lv_has ls 11 [(0, .long 10), (2, .long 10), (4, .int 0)] := hl
  have hK := hKx.1
  refine lv_lload_n hx hb dX8_lowest_0 rfl (lv_at hl 1 rfl) ?_
  refine lv_lstore (lv' := [(5, .long 10), (0, .long 10), (2, .long 10), (4, .int 0)]) hx hb dX8_lowest_1 hl (by decide) rfl (fun ls hl => ?_)
  refine lv_lload_n hx hb dX8_lowest_3 rfl (lv_at hl 1 rfl) ?_
  refine lv_lstore (lv' := [(7, .long 10), (5, .long 10), (0, .long 10), (2, .long 10), (4, .int 0)]) hx hb dX8_lowest_4 hl (by decide) rfl (fun ls hl => ?_)
  refine lv_lload hx hb dX8_lowest_6 (lv_at hl 0 rfl) ?_
  refine lv_lconst (v := 0) hx hb dX8_lowest_8 (by decide) ?_
  refine W.lcmp hx hb dX8_lowest_9 ?_
  refine lv_topi (fun x1 e1 => ?_)
  obtain rfl : x1 = 1 := e1.trans (by decide)
  refine lv_if_eq (tgt := 31) hx hb dX8_lowest_10 (by decide) (fun c2 => absurd c2 (by decide)) (fun c2 => ?_)
  refine lv_lload hx hb dX8_lowest_13 (lv_at hl 1 rfl) ?_
  refine lv_lload hx hb dX8_lowest_15 (lv_at hl 0 rfl) ?_
  refine lv_lrem hx hb dX8_lowest_17 (by decide) ?_
  refine lv_topl (fun x3 e3 => ?_)
  obtain rfl : x3 = 0 := e3.trans (by decide)
  refine lv_lstore (lv' := [(9, .long 0), (7, .long 10), (5, .long 10), (0, .long 10), (2, .long 10), (4, .int 0)]) hx hb dX8_lowest_18 hl (by decide) rfl (fun ls hl => ?_)
  refine lv_lload hx hb dX8_lowest_20 (lv_at hl 1 rfl) ?_
  refine lv_lstore (lv' := [(5, .long 10), (9, .long 0), (7, .long 10), (0, .long 10), (2, .long 10), (4, .int 0)]) hx hb dX8_lowest_22 hl (by decide) rfl (fun ls hl => ?_)
  refine lv_lload hx hb dX8_lowest_24 (lv_at hl 1 rfl) ?_
  refine lv_lstore (lv' := [(7, .long 0), (5, .long 10), (9, .long 0), (0, .long 10), (2, .long 10), (4, .int 0)]) hx hb dX8_lowest_26 hl (by decide) rfl (fun ls hl => ?_)
  refine lv_goto (tgt := 6) hx hb dX8_lowest_28 (by decide) ?_
  refine lv_lload hx hb dX8_lowest_6 (lv_at hl 0 rfl) ?_
  refine lv_lconst (v := 0) hx hb dX8_lowest_8 (by decide) ?_
  refine W.lcmp hx hb dX8_lowest_9 ?_
  refine lv_topi (fun x4 e4 => ?_)
  obtain rfl : x4 = 0 := e4.trans (by decide)
  refine lv_if_eq (tgt := 31) hx hb dX8_lowest_10 (by decide) (fun c5 => ?_) (fun c5 => absurd c5 (by decide))
  refine lv_iload hx hb dX8_lowest_31 (lv_at hl 5 rfl) ?_
  refine lv_if_ne (tgt := 43) hx hb dX8_lowest_33 (by decide) (fun c6 => absurd c6 (by decide)) (fun c6 => ?_)
  refine lv_lload_n hx hb dX8_lowest_36 rfl (lv_at hl 3 rfl) ?_
  refine lv_lload hx hb dX8_lowest_37 (lv_at hl 1 rfl) ?_
  refine lv_ldiv hx hb dX8_lowest_39 (by decide) ?_
  refine lv_topl (fun x7 e7 => ?_)
  obtain rfl : x7 = 1 := e7.trans (by decide)
  refine lv_goto (tgt := 47) hx hb dX8_lowest_40 (by decide) ?_
  have hP9 := mx_subP (wc := []) hP [] rfl
  have hD9 := hD.sub (ws' := []) [] (by decide) rfl
  exact W.lret (v := 1) hx hb hr (fun t ht hW => ⟨⟨1, (), rfl, rfl, by rw [ht]; exact hP9, hD9⟩, hS.F ht⟩) hS.2.2 dX8_lowest_47
set_option maxHeartbeats 4000000 in
set_option maxRecDepth 100000 in
theorem c_X8_lowest_10_1 (l : Launch) (dC : Nat → ClassId) (dI : Nat → Nat → Nat) (cI cZ cK : ClassId) (tS aK aV : Nat) (sz : Nat) : Cl l yX8_lowest (wq yX8_lowest cX8_lowest 11 (some .long)) ({ frames := 0, cells := 0, slots := 0, locals := 0 }) dC dI cI cZ cK tS aK aV [.long 10, .long 10, .int 1] sz [] (fun (r : Int64) (_ : Unit) => r = 1) (fun _ => []) := by
  refine Met.ofW (cc := cX8_lowest) (maxL := 11) (ret := (some .long)) (by decide) rfl ?_
  intro p e s m args below meth c s₁ B hml hv
  obtain ⟨rfl, hsz, hP, hKx, hD0⟩ := hv
  have hx := B.exec
  have hb := B.bytes
  have hr := B.returns
  have hts := atoms_spec (ws := wq yX8_lowest cX8_lowest 11 (some .long)) B.pre
  have hown : s.vm.findClass RX8 = some m.cls := findClass_of_methodNamed B.named
  have hlocks := B.notSynchronized
  subst hsz
  have hD := hD0.self (sz := s.heap.size)
  generalize hAe : va_A [] s.heap.size = A at hD hKx ⊢
  have hA : ∀ q : Nat, s.heap.size ≤ q → A q := fun q h => by rw [← hAe]; exact Or.inr h
  have hS : va_S A s.heap s.heap [] := va_S.rf
  have hP : va_P (dC, dI) vwCl [] s.heap := hP
  have hl := lv_entry ([.long 10, .long 10, .int 1]) (n := 11) (Nat.le_of_ble_eq_true rfl)
  rw [lg_entry_eq]
  generalize (lg_sl ([.long 10, .long 10, .int 1]) ++ List.replicate (11 - (lg_sl ([.long 10, .long 10, .int 1])).length) Slot.unset).toArray = ls at hl ⊢
  have hl : lv_has ls 11 [(0, .long 10), (2, .long 10), (4, .int 1)] := hl
  have hK := hKx.1
  refine lv_lload_n hx hb dX8_lowest_0 rfl (lv_at hl 1 rfl) ?_
  refine lv_lstore (lv' := [(5, .long 10), (0, .long 10), (2, .long 10), (4, .int 1)]) hx hb dX8_lowest_1 hl (by decide) rfl (fun ls hl => ?_)
  refine lv_lload_n hx hb dX8_lowest_3 rfl (lv_at hl 1 rfl) ?_
  refine lv_lstore (lv' := [(7, .long 10), (5, .long 10), (0, .long 10), (2, .long 10), (4, .int 1)]) hx hb dX8_lowest_4 hl (by decide) rfl (fun ls hl => ?_)
  refine lv_lload hx hb dX8_lowest_6 (lv_at hl 0 rfl) ?_
  refine lv_lconst (v := 0) hx hb dX8_lowest_8 (by decide) ?_
  refine W.lcmp hx hb dX8_lowest_9 ?_
  refine lv_topi (fun x1 e1 => ?_)
  obtain rfl : x1 = 1 := e1.trans (by decide)
  refine lv_if_eq (tgt := 31) hx hb dX8_lowest_10 (by decide) (fun c2 => absurd c2 (by decide)) (fun c2 => ?_)
  refine lv_lload hx hb dX8_lowest_13 (lv_at hl 1 rfl) ?_
  refine lv_lload hx hb dX8_lowest_15 (lv_at hl 0 rfl) ?_
  refine lv_lrem hx hb dX8_lowest_17 (by decide) ?_
  refine lv_topl (fun x3 e3 => ?_)
  obtain rfl : x3 = 0 := e3.trans (by decide)
  refine lv_lstore (lv' := [(9, .long 0), (7, .long 10), (5, .long 10), (0, .long 10), (2, .long 10), (4, .int 1)]) hx hb dX8_lowest_18 hl (by decide) rfl (fun ls hl => ?_)
  refine lv_lload hx hb dX8_lowest_20 (lv_at hl 1 rfl) ?_
  refine lv_lstore (lv' := [(5, .long 10), (9, .long 0), (7, .long 10), (0, .long 10), (2, .long 10), (4, .int 1)]) hx hb dX8_lowest_22 hl (by decide) rfl (fun ls hl => ?_)
  refine lv_lload hx hb dX8_lowest_24 (lv_at hl 1 rfl) ?_
  refine lv_lstore (lv' := [(7, .long 0), (5, .long 10), (9, .long 0), (0, .long 10), (2, .long 10), (4, .int 1)]) hx hb dX8_lowest_26 hl (by decide) rfl (fun ls hl => ?_)
  refine lv_goto (tgt := 6) hx hb dX8_lowest_28 (by decide) ?_
  refine lv_lload hx hb dX8_lowest_6 (lv_at hl 0 rfl) ?_
  refine lv_lconst (v := 0) hx hb dX8_lowest_8 (by decide) ?_
  refine W.lcmp hx hb dX8_lowest_9 ?_
  refine lv_topi (fun x4 e4 => ?_)
  obtain rfl : x4 = 0 := e4.trans (by decide)
  refine lv_if_eq (tgt := 31) hx hb dX8_lowest_10 (by decide) (fun c5 => ?_) (fun c5 => absurd c5 (by decide))
  refine lv_iload hx hb dX8_lowest_31 (lv_at hl 5 rfl) ?_
  refine lv_if_ne (tgt := 43) hx hb dX8_lowest_33 (by decide) (fun c6 => ?_) (fun c6 => absurd c6 (by decide))
  refine lv_lload_n hx hb dX8_lowest_43 rfl (lv_at hl 4 rfl) ?_
  refine lv_lload hx hb dX8_lowest_44 (lv_at hl 1 rfl) ?_
  refine lv_ldiv hx hb dX8_lowest_46 (by decide) ?_
  refine lv_topl (fun x7 e7 => ?_)
  obtain rfl : x7 = 1 := e7.trans (by decide)
  have hP9 := mx_subP (wc := []) hP [] rfl
  have hD9 := hD.sub (ws' := []) [] (by decide) rfl
  exact W.lret (v := 1) hx hb hr (fun t ht hW => ⟨⟨1, (), rfl, rfl, by rw [ht]; exact hP9, hD9⟩, hS.F ht⟩) hS.2.2 dX8_lowest_47
set_option maxHeartbeats 4000000 in
set_option maxRecDepth 100000 in
theorem c_X8_lowest_0_0 (l : Launch) (dC : Nat → ClassId) (dI : Nat → Nat → Nat) (cI cZ cK : ClassId) (tS aK aV : Nat) (sz : Nat) : Cl l yX8_lowest (wq yX8_lowest cX8_lowest 11 (some .long)) ({ frames := 0, cells := 0, slots := 0, locals := 0 }) dC dI cI cZ cK tS aK aV [.long 0, .long 10, .int 0] sz [] (fun (r : Int64) (_ : Unit) => r = 0) (fun _ => []) := by
  refine Met.ofW (cc := cX8_lowest) (maxL := 11) (ret := (some .long)) (by decide) rfl ?_
  intro p e s m args below meth c s₁ B hml hv
  obtain ⟨rfl, hsz, hP, hKx, hD0⟩ := hv
  have hx := B.exec
  have hb := B.bytes
  have hr := B.returns
  have hts := atoms_spec (ws := wq yX8_lowest cX8_lowest 11 (some .long)) B.pre
  have hown : s.vm.findClass RX8 = some m.cls := findClass_of_methodNamed B.named
  have hlocks := B.notSynchronized
  subst hsz
  have hD := hD0.self (sz := s.heap.size)
  generalize hAe : va_A [] s.heap.size = A at hD hKx ⊢
  have hA : ∀ q : Nat, s.heap.size ≤ q → A q := fun q h => by rw [← hAe]; exact Or.inr h
  have hS : va_S A s.heap s.heap [] := va_S.rf
  have hP : va_P (dC, dI) vwCl [] s.heap := hP
  have hl := lv_entry ([.long 0, .long 10, .int 0]) (n := 11) (Nat.le_of_ble_eq_true rfl)
  rw [lg_entry_eq]
  generalize (lg_sl ([.long 0, .long 10, .int 0]) ++ List.replicate (11 - (lg_sl ([.long 0, .long 10, .int 0])).length) Slot.unset).toArray = ls at hl ⊢
  have hl : lv_has ls 11 [(0, .long 0), (2, .long 10), (4, .int 0)] := hl
  have hK := hKx.1
  refine lv_lload_n hx hb dX8_lowest_0 rfl (lv_at hl 1 rfl) ?_
  refine lv_lstore (lv' := [(5, .long 10), (0, .long 0), (2, .long 10), (4, .int 0)]) hx hb dX8_lowest_1 hl (by decide) rfl (fun ls hl => ?_)
  refine lv_lload_n hx hb dX8_lowest_3 rfl (lv_at hl 1 rfl) ?_
  refine lv_lstore (lv' := [(7, .long 0), (5, .long 10), (0, .long 0), (2, .long 10), (4, .int 0)]) hx hb dX8_lowest_4 hl (by decide) rfl (fun ls hl => ?_)
  refine lv_lload hx hb dX8_lowest_6 (lv_at hl 0 rfl) ?_
  refine lv_lconst (v := 0) hx hb dX8_lowest_8 (by decide) ?_
  refine W.lcmp hx hb dX8_lowest_9 ?_
  refine lv_topi (fun x1 e1 => ?_)
  obtain rfl : x1 = 0 := e1.trans (by decide)
  refine lv_if_eq (tgt := 31) hx hb dX8_lowest_10 (by decide) (fun c2 => ?_) (fun c2 => absurd c2 (by decide))
  refine lv_iload hx hb dX8_lowest_31 (lv_at hl 4 rfl) ?_
  refine lv_if_ne (tgt := 43) hx hb dX8_lowest_33 (by decide) (fun c3 => absurd c3 (by decide)) (fun c3 => ?_)
  refine lv_lload_n hx hb dX8_lowest_36 rfl (lv_at hl 2 rfl) ?_
  refine lv_lload hx hb dX8_lowest_37 (lv_at hl 1 rfl) ?_
  refine lv_ldiv hx hb dX8_lowest_39 (by decide) ?_
  refine lv_topl (fun x4 e4 => ?_)
  obtain rfl : x4 = 0 := e4.trans (by decide)
  refine lv_goto (tgt := 47) hx hb dX8_lowest_40 (by decide) ?_
  have hP9 := mx_subP (wc := []) hP [] rfl
  have hD9 := hD.sub (ws' := []) [] (by decide) rfl
  exact W.lret (v := 0) hx hb hr (fun t ht hW => ⟨⟨0, (), rfl, rfl, by rw [ht]; exact hP9, hD9⟩, hS.F ht⟩) hS.2.2 dX8_lowest_47
set_option maxHeartbeats 4000000 in
set_option maxRecDepth 100000 in
theorem c_X8_lowest_0_1 (l : Launch) (dC : Nat → ClassId) (dI : Nat → Nat → Nat) (cI cZ cK : ClassId) (tS aK aV : Nat) (sz : Nat) : Cl l yX8_lowest (wq yX8_lowest cX8_lowest 11 (some .long)) ({ frames := 0, cells := 0, slots := 0, locals := 0 }) dC dI cI cZ cK tS aK aV [.long 0, .long 10, .int 1] sz [] (fun (r : Int64) (_ : Unit) => r = 1) (fun _ => []) := by
  refine Met.ofW (cc := cX8_lowest) (maxL := 11) (ret := (some .long)) (by decide) rfl ?_
  intro p e s m args below meth c s₁ B hml hv
  obtain ⟨rfl, hsz, hP, hKx, hD0⟩ := hv
  have hx := B.exec
  have hb := B.bytes
  have hr := B.returns
  have hts := atoms_spec (ws := wq yX8_lowest cX8_lowest 11 (some .long)) B.pre
  have hown : s.vm.findClass RX8 = some m.cls := findClass_of_methodNamed B.named
  have hlocks := B.notSynchronized
  subst hsz
  have hD := hD0.self (sz := s.heap.size)
  generalize hAe : va_A [] s.heap.size = A at hD hKx ⊢
  have hA : ∀ q : Nat, s.heap.size ≤ q → A q := fun q h => by rw [← hAe]; exact Or.inr h
  have hS : va_S A s.heap s.heap [] := va_S.rf
  have hP : va_P (dC, dI) vwCl [] s.heap := hP
  have hl := lv_entry ([.long 0, .long 10, .int 1]) (n := 11) (Nat.le_of_ble_eq_true rfl)
  rw [lg_entry_eq]
  generalize (lg_sl ([.long 0, .long 10, .int 1]) ++ List.replicate (11 - (lg_sl ([.long 0, .long 10, .int 1])).length) Slot.unset).toArray = ls at hl ⊢
  have hl : lv_has ls 11 [(0, .long 0), (2, .long 10), (4, .int 1)] := hl
  have hK := hKx.1
  refine lv_lload_n hx hb dX8_lowest_0 rfl (lv_at hl 1 rfl) ?_
  refine lv_lstore (lv' := [(5, .long 10), (0, .long 0), (2, .long 10), (4, .int 1)]) hx hb dX8_lowest_1 hl (by decide) rfl (fun ls hl => ?_)
  refine lv_lload_n hx hb dX8_lowest_3 rfl (lv_at hl 1 rfl) ?_
  refine lv_lstore (lv' := [(7, .long 0), (5, .long 10), (0, .long 0), (2, .long 10), (4, .int 1)]) hx hb dX8_lowest_4 hl (by decide) rfl (fun ls hl => ?_)
  refine lv_lload hx hb dX8_lowest_6 (lv_at hl 0 rfl) ?_
  refine lv_lconst (v := 0) hx hb dX8_lowest_8 (by decide) ?_
  refine W.lcmp hx hb dX8_lowest_9 ?_
  refine lv_topi (fun x1 e1 => ?_)
  obtain rfl : x1 = 0 := e1.trans (by decide)
  refine lv_if_eq (tgt := 31) hx hb dX8_lowest_10 (by decide) (fun c2 => ?_) (fun c2 => absurd c2 (by decide))
  refine lv_iload hx hb dX8_lowest_31 (lv_at hl 4 rfl) ?_
  refine lv_if_ne (tgt := 43) hx hb dX8_lowest_33 (by decide) (fun c3 => ?_) (fun c3 => absurd c3 (by decide))
  refine lv_lload_n hx hb dX8_lowest_43 rfl (lv_at hl 3 rfl) ?_
  refine lv_lload hx hb dX8_lowest_44 (lv_at hl 1 rfl) ?_
  refine lv_ldiv hx hb dX8_lowest_46 (by decide) ?_
  refine lv_topl (fun x4 e4 => ?_)
  obtain rfl : x4 = 1 := e4.trans (by decide)
  have hP9 := mx_subP (wc := []) hP [] rfl
  have hD9 := hD.sub (ws' := []) [] (by decide) rfl
  exact W.lret (v := 1) hx hb hr (fun t ht hW => ⟨⟨1, (), rfl, rfl, by rw [ht]; exact hP9, hD9⟩, hS.F ht⟩) hS.2.2 dX8_lowest_47
set_option maxHeartbeats 4000000 in
set_option maxRecDepth 100000 in
theorem c_X8_canWithoutEnd (l : Launch) (dC : Nat → ClassId) (dI : Nat → Nat → Nat) (cI cZ cK : ClassId) (tS aK aV : Nat) (n : Nat) (nwi : Nat) (nco : Nat) (nqu : Nat) (nmi : Nat) (nde : Nat) (nsa : Nat) (nsm : Nat) (npa : Nat) (nac : Nat) (nam : Nat) (naw : Nat) (ncs : Nat) (nbw : Nat) (ndc : Nat) (nmk : Nat) (npo : Nat) (nta : Nat) (npl : Nat) (nmm : Nat) (ncu : Nat) (nke : Nat) (nik : Nat) (vleft : Int32) (vmetres : Int32) (vshut : Int32) (vshield : Int32) (vtoday : Int32) (vbagged : Int32) (vwarmed : Int32) (vmeals : Int32) (vsights : Int32) (vpadMany : Int32) (vgusty : Int32) (vleakAct : Int32) (vleakMuch : Int32) (vendOfCan : Int32) (vbadAct : Int32) (vbadWhy : Int32) (vburnt : Int32) (vboiled : Int32) (vhadLeft : Int32) (vhadToday : Int32) (vhadBagged : Int32) (vhadWarmed : Int32) (vleaves : Int32) (vdayThen : Int32) (vcoldThen : Int32) (vportionMany : Int32) (vleakMany : Int32) (vleakActs : Int32) (vkeptAt : Int32) (visWriting : Int32) (fd : Nat → Int32) (fm : Nat → Int32) (sz : Nat) : Ci l yX8_canWithoutEnd (wq yX8_canWithoutEnd cX8_canWithoutEnd 2 (some .boolean)) ({ frames := 1, cells := 0, slots := 0, locals := 22 }) dC dI cI cZ cK tS aK aV [.ref n] sz [(n, .inr (8, [.int vleft, .int vmetres, .int vshut, .int vshield, .int vtoday, .int vbagged, .int vwarmed, .ref nwi, .ref nco, .int vmeals, .ref nqu, .ref nmi, .ref nde, .ref nsa, .ref nsm, .int vsights, .ref npa, .int vpadMany, .ref nac, .ref nam, .ref naw, .int 0, .int vgusty, .int vleakAct, .int vleakMuch, .int vendOfCan, .int vbadAct, .int vbadWhy, .int vburnt, .int vboiled, .ref ncs, .ref nbw, .ref ndc, .ref nmk, .int vhadLeft, .int vhadToday, .int vhadBagged, .int vhadWarmed, .int vleaves, .int vdayThen, .int vcoldThen, .ref npo, .int vportionMany, .ref nta, .ref npl, .int vleakMany, .int vleakActs, .ref nmm, .ref ncu, .ref nke, .ref nik, .int vkeptAt, .int visWriting])), (ndc, .inl (cI, 14, .inl fd)), (nmk, .inl (cI, 61, .inl fm))] (fun (r : Int32) (_ : Unit) => r = 1) (fun _ => [(n, .inr (8, [.int vhadLeft, .int vmetres, .int vshut, .int vshield, .int vhadToday, .int vhadBagged, .int vhadWarmed, .ref nwi, .ref nco, .int vmeals, .ref nqu, .ref nmi, .ref nde, .ref nsa, .ref nsm, .int vsights, .ref npa, .int vpadMany, .ref nac, .ref nam, .ref naw, .int 0, .int vgusty, .int vleakAct, .int vleakMuch, .int 4000, .int (-6), .int (-6), .int 0, .int 0, .ref ncs, .ref nbw, .ref ndc, .ref nmk, .int vhadLeft, .int vhadToday, .int vhadBagged, .int vhadWarmed, .int vleaves, .int vtoday, .int vcoldThen, .ref npo, .int vportionMany, .ref nta, .ref npl, .int vleakMany, .int vleakActs, .ref nmm, .ref ncu, .ref nke, .ref nik, .int vkeptAt, .int visWriting])), (ndc, .inl (cI, 14, .inl (upd (upd (upd (upd (upd (upd (upd (upd (upd (upd (upd (upd (upd (upd fd 0 0) 1 0) 2 0) 3 0) 4 0) 5 0) 6 0) 7 0) 8 0) 9 0) 10 0) 11 0) 12 0) 13 0))), (nmk, .inl (cI, 61, .inl (upd fm 0 5000000)))]) := by
  refine Met.ofW (cc := cX8_canWithoutEnd) (maxL := 2) (ret := (some .boolean)) (by decide) rfl ?_
  intro p e s m args below meth c s₁ B hml hv
  obtain ⟨rfl, hsz, hP, hKx, hD0⟩ := hv
  have hx := B.exec
  have hb := B.bytes
  have hr := B.returns
  have hts := atoms_spec (ws := wq yX8_canWithoutEnd cX8_canWithoutEnd 2 (some .boolean)) B.pre
  have hown : s.vm.findClass RX8 = some m.cls := findClass_of_methodNamed B.named
  have hlocks := B.notSynchronized
  subst hsz
  have hD := hD0.self (sz := s.heap.size)
  generalize hAe : va_A [(n, .inr (8, [.int vleft, .int vmetres, .int vshut, .int vshield, .int vtoday, .int vbagged, .int vwarmed, .ref nwi, .ref nco, .int vmeals, .ref nqu, .ref nmi, .ref nde, .ref nsa, .ref nsm, .int vsights, .ref npa, .int vpadMany, .ref nac, .ref nam, .ref naw, .int 0, .int vgusty, .int vleakAct, .int vleakMuch, .int vendOfCan, .int vbadAct, .int vbadWhy, .int vburnt, .int vboiled, .ref ncs, .ref nbw, .ref ndc, .ref nmk, .int vhadLeft, .int vhadToday, .int vhadBagged, .int vhadWarmed, .int vleaves, .int vdayThen, .int vcoldThen, .ref npo, .int vportionMany, .ref nta, .ref npl, .int vleakMany, .int vleakActs, .ref nmm, .ref ncu, .ref nke, .ref nik, .int vkeptAt, .int visWriting])), (ndc, .inl (cI, 14, .inl fd)), (nmk, .inl (cI, 61, .inl fm))] s.heap.size = A at hD hKx ⊢
  have hA : ∀ q : Nat, s.heap.size ≤ q → A q := fun q h => by rw [← hAe]; exact Or.inr h
  have hS : va_S A s.heap s.heap [] := va_S.rf
  have hP : va_P (dC, dI) vwCl [(n, .inr (8, [.int vleft, .int vmetres, .int vshut, .int vshield, .int vtoday, .int vbagged, .int vwarmed, .ref nwi, .ref nco, .int vmeals, .ref nqu, .ref nmi, .ref nde, .ref nsa, .ref nsm, .int vsights, .ref npa, .int vpadMany, .ref nac, .ref nam, .ref naw, .int 0, .int vgusty, .int vleakAct, .int vleakMuch, .int vendOfCan, .int vbadAct, .int vbadWhy, .int vburnt, .int vboiled, .ref ncs, .ref nbw, .ref ndc, .ref nmk, .int vhadLeft, .int vhadToday, .int vhadBagged, .int vhadWarmed, .int vleaves, .int vdayThen, .int vcoldThen, .ref npo, .int vportionMany, .ref nta, .ref npl, .int vleakMany, .int vleakActs, .ref nmm, .ref ncu, .ref nke, .ref nik, .int vkeptAt, .int visWriting])), (ndc, .inl (cI, 14, .inl fd)), (nmk, .inl (cI, 61, .inl fm))] s.heap := hP
  have hl := lv_entry ([.ref n]) (n := 2) (Nat.le_of_ble_eq_true rfl)
  rw [lg_entry_eq]
  generalize (lg_sl ([.ref n]) ++ List.replicate (2 - (lg_sl ([.ref n])).length) Slot.unset).toArray = ls at hl ⊢
  have hl : lv_has ls 2 [(0, .ref n)] := hl
  have hK := hKx.1
  have hin8 := fun w9 h9 => List.mem_cons_of_mem (Cond.code yX8_canWithoutEnd cX8_canWithoutEnd 2 (some .boolean)) (inlX8 w9 h9)
  have hw0 := hts (.constant RX8 300 1000000000) (List.mem_cons_of_mem _ wm_517)
  have hw1 := hts (.fieldLink RX8 77 "OneCanModel" "left" "I") (List.mem_cons_of_mem _ wm_389)
  have hw2 := hts (.constant RX8 301 2000000000) (List.mem_cons_of_mem _ wm_518)
  have hw3 := hts (.fieldLink RX8 176 "OneCanModel" "endOfCan" "I") (List.mem_cons_of_mem _ wm_446)
  have hw4 := hts (.fieldLink RX8 101 "OneCanModel" "today" "I") (List.mem_cons_of_mem _ wm_393)
  have hw5 := hts (.fieldLink RX8 231 "OneCanModel" "dayThen" "I") (List.mem_cons_of_mem _ wm_466)
  have hw6 := hts (.fieldLink RX8 179 "OneCanModel" "badAct" "I") (List.mem_cons_of_mem _ wm_447)
  refine lv_aload_n hx hb dX8_canWithoutEnd_0 rfl (lv_at hl 0 rfl) ?_
  refine lv_ldcw (v := 1000000000) hx hb hown hw0 dX8_canWithoutEnd_1 ?_
  refine va_put (D := (dC, dI)) (ci := 8) (v := .int 1000000000) (ty := .int) (C := RX8) (T := TX8) (N := 53) hx hb hts hin8 tyX8 tyX8_ok nmX8 hown hK hP hD hS 0 rfl rfl 0 (by decide) hw1 (fun _ h9 => h9) rfl (by decide +kernel) rfl rfl (Nat.le_of_ble_eq_true rfl) dX8_canWithoutEnd_4 (fun H locs hP hD hS => ?_)
  replace hP : va_P (dC, dI) vwCl [(n, .inr (8, [.int 1000000000, .int vmetres, .int vshut, .int vshield, .int vtoday, .int vbagged, .int vwarmed, .ref nwi, .ref nco, .int vmeals, .ref nqu, .ref nmi, .ref nde, .ref nsa, .ref nsm, .int vsights, .ref npa, .int vpadMany, .ref nac, .ref nam, .ref naw, .int 0, .int vgusty, .int vleakAct, .int vleakMuch, .int vendOfCan, .int vbadAct, .int vbadWhy, .int vburnt, .int vboiled, .ref ncs, .ref nbw, .ref ndc, .ref nmk, .int vhadLeft, .int vhadToday, .int vhadBagged, .int vhadWarmed, .int vleaves, .int vdayThen, .int vcoldThen, .ref npo, .int vportionMany, .ref nta, .ref npl, .int vleakMany, .int vleakActs, .ref nmm, .ref ncu, .ref nke, .ref nik, .int vkeptAt, .int visWriting])), (ndc, .inl (cI, 14, .inl fd)), (nmk, .inl (cI, 61, .inl fm))] H := hP
  replace hD : va_D A [(n, .inr (8, [.int 1000000000, .int vmetres, .int vshut, .int vshield, .int vtoday, .int vbagged, .int vwarmed, .ref nwi, .ref nco, .int vmeals, .ref nqu, .ref nmi, .ref nde, .ref nsa, .ref nsm, .int vsights, .ref npa, .int vpadMany, .ref nac, .ref nam, .ref naw, .int 0, .int vgusty, .int vleakAct, .int vleakMuch, .int vendOfCan, .int vbadAct, .int vbadWhy, .int vburnt, .int vboiled, .ref ncs, .ref nbw, .ref ndc, .ref nmk, .int vhadLeft, .int vhadToday, .int vhadBagged, .int vhadWarmed, .int vleaves, .int vdayThen, .int vcoldThen, .ref npo, .int vportionMany, .ref nta, .ref npl, .int vleakMany, .int vleakActs, .ref nmm, .ref ncu, .ref nke, .ref nik, .int vkeptAt, .int visWriting])), (ndc, .inl (cI, 14, .inl fd)), (nmk, .inl (cI, 61, .inl fm))] := hD
  refine lv_aload_n hx hb dX8_canWithoutEnd_7 rfl (lv_at hl 0 rfl) ?_
  refine lv_ldcw (v := 2000000000) hx hb hown hw2 dX8_canWithoutEnd_8 ?_
  refine va_put (D := (dC, dI)) (ci := 8) (v := .int 2000000000) (ty := .int) (C := RX8) (T := TX8) (N := 53) hx hb hts hin8 tyX8 tyX8_ok nmX8 hown hK hP hD hS 0 rfl rfl 25 (by decide) hw3 (fun _ h9 => h9) rfl (by decide +kernel) rfl rfl (Nat.le_of_ble_eq_true rfl) dX8_canWithoutEnd_11 (fun H locs hP hD hS => ?_)
  replace hP : va_P (dC, dI) vwCl [(n, .inr (8, [.int 1000000000, .int vmetres, .int vshut, .int vshield, .int vtoday, .int vbagged, .int vwarmed, .ref nwi, .ref nco, .int vmeals, .ref nqu, .ref nmi, .ref nde, .ref nsa, .ref nsm, .int vsights, .ref npa, .int vpadMany, .ref nac, .ref nam, .ref naw, .int 0, .int vgusty, .int vleakAct, .int vleakMuch, .int 2000000000, .int vbadAct, .int vbadWhy, .int vburnt, .int vboiled, .ref ncs, .ref nbw, .ref ndc, .ref nmk, .int vhadLeft, .int vhadToday, .int vhadBagged, .int vhadWarmed, .int vleaves, .int vdayThen, .int vcoldThen, .ref npo, .int vportionMany, .ref nta, .ref npl, .int vleakMany, .int vleakActs, .ref nmm, .ref ncu, .ref nke, .ref nik, .int vkeptAt, .int visWriting])), (ndc, .inl (cI, 14, .inl fd)), (nmk, .inl (cI, 61, .inl fm))] H := hP
  replace hD : va_D A [(n, .inr (8, [.int 1000000000, .int vmetres, .int vshut, .int vshield, .int vtoday, .int vbagged, .int vwarmed, .ref nwi, .ref nco, .int vmeals, .ref nqu, .ref nmi, .ref nde, .ref nsa, .ref nsm, .int vsights, .ref npa, .int vpadMany, .ref nac, .ref nam, .ref naw, .int 0, .int vgusty, .int vleakAct, .int vleakMuch, .int 2000000000, .int vbadAct, .int vbadWhy, .int vburnt, .int vboiled, .ref ncs, .ref nbw, .ref ndc, .ref nmk, .int vhadLeft, .int vhadToday, .int vhadBagged, .int vhadWarmed, .int vleaves, .int vdayThen, .int vcoldThen, .ref npo, .int vportionMany, .ref nta, .ref npl, .int vleakMany, .int vleakActs, .ref nmm, .ref ncu, .ref nke, .ref nik, .int vkeptAt, .int visWriting])), (ndc, .inl (cI, 14, .inl fd)), (nmk, .inl (cI, 61, .inl fm))] := hD
  refine lv_aload_n hx hb dX8_canWithoutEnd_14 rfl (lv_at hl 0 rfl) ?_
  refine mx_v (wr := []) (va_runV (As := []) (rest := []) ⟨hx, hb, hml, hown, hts⟩ (c_X8_goPlan_1000000000 l dC dI cI cZ cK tS aK aV n nwi nco nqu nmi nde nsa nsm npa nac nam naw ncs nbw ndc nmk npo nta npl nmm ncu nke nik vmetres vshut vshield vtoday vbagged vwarmed vmeals vsights vpadMany vgusty vleakAct vleakMuch 2000000000 vbadAct vbadWhy vburnt vboiled vhadLeft vhadToday vhadBagged vhadWarmed vleaves vdayThen vcoldThen vportionMany vleakMany vleakActs vkeptAt visWriting fd fm H.size) (cwV 0 hts (gw_v (fun _ h9 => List.mem_cons_of_mem _ h9) wm_461 wm_462 wm_463 wm_385 wm_464) rfl rfl rfl (by decide +kernel) ⟨Nat.le_of_ble_eq_true rfl, Nat.le_of_ble_eq_true rfl⟩) (mx_preV (C := RX8) (T := TX8) (N := 53) (ci := 8) hKx hP hD hS hA [0, 1, 2] (by decide) rfl rfl rfl) rfl rfl hl.1 rfl (lv_room (Nat.le_of_ble_eq_true rfl)) dX8_canWithoutEnd_15 ⟨Nat.le_of_ble_eq_true rfl, Nat.le_of_ble_eq_true rfl⟩) hP hD hS hA [0, 1, 2] [] rfl rfl (by decide) (by decide) (fun u1 H locs hq1 hP hD hS => ?_)
  replace hP : va_P (dC, dI) vwCl [(n, .inr (8, [.int 1000000000, .int vmetres, .int vshut, .int vshield, .int vtoday, .int vbagged, .int vwarmed, .ref nwi, .ref nco, .int vmeals, .ref nqu, .ref nmi, .ref nde, .ref nsa, .ref nsm, .int vsights, .ref npa, .int vpadMany, .ref nac, .ref nam, .ref naw, .int 0, .int vgusty, .int vleakAct, .int vleakMuch, .int 2000000000, .int (-6), .int (-6), .int 0, .int 0, .ref ncs, .ref nbw, .ref ndc, .ref nmk, .int vhadLeft, .int vhadToday, .int vhadBagged, .int vhadWarmed, .int vleaves, .int vdayThen, .int vcoldThen, .ref npo, .int vportionMany, .ref nta, .ref npl, .int vleakMany, .int vleakActs, .ref nmm, .ref ncu, .ref nke, .ref nik, .int vkeptAt, .int visWriting])), (ndc, .inl (cI, 14, .inl (upd (upd (upd (upd (upd (upd (upd (upd (upd (upd (upd (upd (upd (upd fd 0 0) 1 0) 2 0) 3 0) 4 0) 5 0) 6 0) 7 0) 8 0) 9 0) 10 0) 11 0) 12 0) 13 0))), (nmk, .inl (cI, 61, .inl (upd fm 0 5000000)))] H := hP
  replace hD : va_D A [(n, .inr (8, [.int 1000000000, .int vmetres, .int vshut, .int vshield, .int vtoday, .int vbagged, .int vwarmed, .ref nwi, .ref nco, .int vmeals, .ref nqu, .ref nmi, .ref nde, .ref nsa, .ref nsm, .int vsights, .ref npa, .int vpadMany, .ref nac, .ref nam, .ref naw, .int 0, .int vgusty, .int vleakAct, .int vleakMuch, .int 2000000000, .int (-6), .int (-6), .int 0, .int 0, .ref ncs, .ref nbw, .ref ndc, .ref nmk, .int vhadLeft, .int vhadToday, .int vhadBagged, .int vhadWarmed, .int vleaves, .int vdayThen, .int vcoldThen, .ref npo, .int vportionMany, .ref nta, .ref npl, .int vleakMany, .int vleakActs, .ref nmm, .ref ncu, .ref nke, .ref nik, .int vkeptAt, .int visWriting])), (ndc, .inl (cI, 14, .inl (upd (upd (upd (upd (upd (upd (upd (upd (upd (upd (upd (upd (upd (upd fd 0 0) 1 0) 2 0) 3 0) 4 0) 5 0) 6 0) 7 0) 8 0) 9 0) 10 0) 11 0) 12 0) 13 0))), (nmk, .inl (cI, 61, .inl (upd fm 0 5000000)))] := hD
  refine lv_aload_n hx hb dX8_canWithoutEnd_18 rfl (lv_at hl 0 rfl) ?_
  refine va_get (D := (dC, dI)) (ci := 8) (v := .int vtoday) (C := RX8) (T := TX8) (N := 53) hx hb hts hin8 hown hK hP 0 rfl rfl 4 (by decide) hw4 (fun _ h9 => h9) rfl dX8_canWithoutEnd_19 ?_
  refine lv_istore_n (lv' := [(1, .int vtoday), (0, .ref n)]) hx hb dX8_canWithoutEnd_22 rfl hl (by decide) rfl (fun ls hl => ?_)
  refine lv_aload_n hx hb dX8_canWithoutEnd_23 rfl (lv_at hl 1 rfl) ?_
  refine mx_v (wr := [(ndc, .inl (cI, 14, .inl (upd (upd (upd (upd (upd (upd (upd (upd (upd (upd (upd (upd (upd (upd fd 0 0) 1 0) 2 0) 3 0) 4 0) 5 0) 6 0) 7 0) 8 0) 9 0) 10 0) 11 0) 12 0) 13 0))), (nmk, .inl (cI, 61, .inl (upd fm 0 5000000)))]) (va_runV (As := []) (rest := []) ⟨hx, hb, hml, hown, hts⟩ (c_X8_putBack l dC dI cI cZ cK tS aK aV n nwi nco nqu nmi nde nsa nsm npa nac nam naw ncs nbw ndc nmk npo nta npl nmm ncu nke nik 1000000000 vmetres vshut vshield vtoday vbagged vwarmed vmeals vsights vpadMany 0 vgusty vleakAct vleakMuch 2000000000 (-6) (-6) 0 0 vhadLeft vhadToday vhadBagged vhadWarmed vleaves vdayThen vcoldThen vportionMany vleakMany vleakActs vkeptAt visWriting H.size) (cwV 0 hts (gw_v (fun _ h9 => List.mem_cons_of_mem _ h9) wm_468 wm_469 wm_470 wm_385 wm_471) rfl rfl rfl (by decide +kernel) ⟨Nat.le_of_ble_eq_true rfl, Nat.le_of_ble_eq_true rfl⟩) (mx_preV (C := RX8) (T := TX8) (N := 53) (ci := 8) hKx hP hD hS hA [0] (by decide) rfl rfl rfl) rfl rfl hl.1 rfl (lv_room (Nat.le_of_ble_eq_true rfl)) dX8_canWithoutEnd_24 ⟨Nat.le_of_ble_eq_true rfl, Nat.le_of_ble_eq_true rfl⟩) hP hD hS hA [0] [1, 2] rfl rfl (by decide) (by decide) (fun u2 H locs hq2 hP hD hS => ?_)
  replace hP : va_P (dC, dI) vwCl [(ndc, .inl (cI, 14, .inl (upd (upd (upd (upd (upd (upd (upd (upd (upd (upd (upd (upd (upd (upd fd 0 0) 1 0) 2 0) 3 0) 4 0) 5 0) 6 0) 7 0) 8 0) 9 0) 10 0) 11 0) 12 0) 13 0))), (nmk, .inl (cI, 61, .inl (upd fm 0 5000000))), (n, .inr (8, [.int vhadLeft, .int vmetres, .int vshut, .int vshield, .int vhadToday, .int vhadBagged, .int vhadWarmed, .ref nwi, .ref nco, .int vmeals, .ref nqu, .ref nmi, .ref nde, .ref nsa, .ref nsm, .int vsights, .ref npa, .int vpadMany, .ref nac, .ref nam, .ref naw, .int 0, .int vgusty, .int vleakAct, .int vleakMuch, .int 2000000000, .int (-6), .int (-6), .int 0, .int 0, .ref ncs, .ref nbw, .ref ndc, .ref nmk, .int vhadLeft, .int vhadToday, .int vhadBagged, .int vhadWarmed, .int vleaves, .int vdayThen, .int vcoldThen, .ref npo, .int vportionMany, .ref nta, .ref npl, .int vleakMany, .int vleakActs, .ref nmm, .ref ncu, .ref nke, .ref nik, .int vkeptAt, .int visWriting]))] H := hP
  replace hD : va_D A [(ndc, .inl (cI, 14, .inl (upd (upd (upd (upd (upd (upd (upd (upd (upd (upd (upd (upd (upd (upd fd 0 0) 1 0) 2 0) 3 0) 4 0) 5 0) 6 0) 7 0) 8 0) 9 0) 10 0) 11 0) 12 0) 13 0))), (nmk, .inl (cI, 61, .inl (upd fm 0 5000000))), (n, .inr (8, [.int vhadLeft, .int vmetres, .int vshut, .int vshield, .int vhadToday, .int vhadBagged, .int vhadWarmed, .ref nwi, .ref nco, .int vmeals, .ref nqu, .ref nmi, .ref nde, .ref nsa, .ref nsm, .int vsights, .ref npa, .int vpadMany, .ref nac, .ref nam, .ref naw, .int 0, .int vgusty, .int vleakAct, .int vleakMuch, .int 2000000000, .int (-6), .int (-6), .int 0, .int 0, .ref ncs, .ref nbw, .ref ndc, .ref nmk, .int vhadLeft, .int vhadToday, .int vhadBagged, .int vhadWarmed, .int vleaves, .int vdayThen, .int vcoldThen, .ref npo, .int vportionMany, .ref nta, .ref npl, .int vleakMany, .int vleakActs, .ref nmm, .ref ncu, .ref nke, .ref nik, .int vkeptAt, .int visWriting]))] := hD
  refine lv_aload_n hx hb dX8_canWithoutEnd_27 rfl (lv_at hl 1 rfl) ?_
  refine lv_sipush (v := 4000) hx hb dX8_canWithoutEnd_28 (by decide) ?_
  refine va_put (D := (dC, dI)) (ci := 8) (v := .int 4000) (ty := .int) (C := RX8) (T := TX8) (N := 53) hx hb hts hin8 tyX8 tyX8_ok nmX8 hown hK hP hD hS 2 rfl rfl 25 (by decide) hw3 (fun _ h9 => h9) rfl (by decide +kernel) rfl rfl (Nat.le_of_ble_eq_true rfl) dX8_canWithoutEnd_31 (fun H locs hP hD hS => ?_)
  replace hP : va_P (dC, dI) vwCl [(ndc, .inl (cI, 14, .inl (upd (upd (upd (upd (upd (upd (upd (upd (upd (upd (upd (upd (upd (upd fd 0 0) 1 0) 2 0) 3 0) 4 0) 5 0) 6 0) 7 0) 8 0) 9 0) 10 0) 11 0) 12 0) 13 0))), (nmk, .inl (cI, 61, .inl (upd fm 0 5000000))), (n, .inr (8, [.int vhadLeft, .int vmetres, .int vshut, .int vshield, .int vhadToday, .int vhadBagged, .int vhadWarmed, .ref nwi, .ref nco, .int vmeals, .ref nqu, .ref nmi, .ref nde, .ref nsa, .ref nsm, .int vsights, .ref npa, .int vpadMany, .ref nac, .ref nam, .ref naw, .int 0, .int vgusty, .int vleakAct, .int vleakMuch, .int 4000, .int (-6), .int (-6), .int 0, .int 0, .ref ncs, .ref nbw, .ref ndc, .ref nmk, .int vhadLeft, .int vhadToday, .int vhadBagged, .int vhadWarmed, .int vleaves, .int vdayThen, .int vcoldThen, .ref npo, .int vportionMany, .ref nta, .ref npl, .int vleakMany, .int vleakActs, .ref nmm, .ref ncu, .ref nke, .ref nik, .int vkeptAt, .int visWriting]))] H := hP
  replace hD : va_D A [(ndc, .inl (cI, 14, .inl (upd (upd (upd (upd (upd (upd (upd (upd (upd (upd (upd (upd (upd (upd fd 0 0) 1 0) 2 0) 3 0) 4 0) 5 0) 6 0) 7 0) 8 0) 9 0) 10 0) 11 0) 12 0) 13 0))), (nmk, .inl (cI, 61, .inl (upd fm 0 5000000))), (n, .inr (8, [.int vhadLeft, .int vmetres, .int vshut, .int vshield, .int vhadToday, .int vhadBagged, .int vhadWarmed, .ref nwi, .ref nco, .int vmeals, .ref nqu, .ref nmi, .ref nde, .ref nsa, .ref nsm, .int vsights, .ref npa, .int vpadMany, .ref nac, .ref nam, .ref naw, .int 0, .int vgusty, .int vleakAct, .int vleakMuch, .int 4000, .int (-6), .int (-6), .int 0, .int 0, .ref ncs, .ref nbw, .ref ndc, .ref nmk, .int vhadLeft, .int vhadToday, .int vhadBagged, .int vhadWarmed, .int vleaves, .int vdayThen, .int vcoldThen, .ref npo, .int vportionMany, .ref nta, .ref npl, .int vleakMany, .int vleakActs, .ref nmm, .ref ncu, .ref nke, .ref nik, .int vkeptAt, .int visWriting]))] := hD
  refine lv_aload_n hx hb dX8_canWithoutEnd_34 rfl (lv_at hl 1 rfl) ?_
  refine lv_iload_n hx hb dX8_canWithoutEnd_35 rfl (lv_at hl 0 rfl) ?_
  refine va_put (D := (dC, dI)) (ci := 8) (v := .int vtoday) (ty := .int) (C := RX8) (T := TX8) (N := 53) hx hb hts hin8 tyX8 tyX8_ok nmX8 hown hK hP hD hS 2 rfl rfl 39 (by decide) hw5 (fun _ h9 => h9) rfl (by decide +kernel) rfl rfl (Nat.le_of_ble_eq_true rfl) dX8_canWithoutEnd_36 (fun H locs hP hD hS => ?_)
  replace hP : va_P (dC, dI) vwCl [(ndc, .inl (cI, 14, .inl (upd (upd (upd (upd (upd (upd (upd (upd (upd (upd (upd (upd (upd (upd fd 0 0) 1 0) 2 0) 3 0) 4 0) 5 0) 6 0) 7 0) 8 0) 9 0) 10 0) 11 0) 12 0) 13 0))), (nmk, .inl (cI, 61, .inl (upd fm 0 5000000))), (n, .inr (8, [.int vhadLeft, .int vmetres, .int vshut, .int vshield, .int vhadToday, .int vhadBagged, .int vhadWarmed, .ref nwi, .ref nco, .int vmeals, .ref nqu, .ref nmi, .ref nde, .ref nsa, .ref nsm, .int vsights, .ref npa, .int vpadMany, .ref nac, .ref nam, .ref naw, .int 0, .int vgusty, .int vleakAct, .int vleakMuch, .int 4000, .int (-6), .int (-6), .int 0, .int 0, .ref ncs, .ref nbw, .ref ndc, .ref nmk, .int vhadLeft, .int vhadToday, .int vhadBagged, .int vhadWarmed, .int vleaves, .int vtoday, .int vcoldThen, .ref npo, .int vportionMany, .ref nta, .ref npl, .int vleakMany, .int vleakActs, .ref nmm, .ref ncu, .ref nke, .ref nik, .int vkeptAt, .int visWriting]))] H := hP
  replace hD : va_D A [(ndc, .inl (cI, 14, .inl (upd (upd (upd (upd (upd (upd (upd (upd (upd (upd (upd (upd (upd (upd fd 0 0) 1 0) 2 0) 3 0) 4 0) 5 0) 6 0) 7 0) 8 0) 9 0) 10 0) 11 0) 12 0) 13 0))), (nmk, .inl (cI, 61, .inl (upd fm 0 5000000))), (n, .inr (8, [.int vhadLeft, .int vmetres, .int vshut, .int vshield, .int vhadToday, .int vhadBagged, .int vhadWarmed, .ref nwi, .ref nco, .int vmeals, .ref nqu, .ref nmi, .ref nde, .ref nsa, .ref nsm, .int vsights, .ref npa, .int vpadMany, .ref nac, .ref nam, .ref naw, .int 0, .int vgusty, .int vleakAct, .int vleakMuch, .int 4000, .int (-6), .int (-6), .int 0, .int 0, .ref ncs, .ref nbw, .ref ndc, .ref nmk, .int vhadLeft, .int vhadToday, .int vhadBagged, .int vhadWarmed, .int vleaves, .int vtoday, .int vcoldThen, .ref npo, .int vportionMany, .ref nta, .ref npl, .int vleakMany, .int vleakActs, .ref nmm, .ref ncu, .ref nke, .ref nik, .int vkeptAt, .int visWriting]))] := hD
  refine lv_aload_n hx hb dX8_canWithoutEnd_39 rfl (lv_at hl 1 rfl) ?_
  refine va_get (D := (dC, dI)) (ci := 8) (v := .int (-6)) (C := RX8) (T := TX8) (N := 53) hx hb hts hin8 hown hK hP 2 rfl rfl 26 (by decide) hw6 (fun _ h9 => h9) rfl dX8_canWithoutEnd_40 ?_
  refine lv_if_ge (tgt := 50) hx hb dX8_canWithoutEnd_43 (by decide) (fun c3 => absurd c3 (by decide)) (fun c3 => ?_)
  refine lv_iconst (v := 1) hx hb dX8_canWithoutEnd_46 (by decide) ?_
  refine lv_goto (tgt := 51) hx hb dX8_canWithoutEnd_47 (by decide) ?_
  have hP9 := mx_subP (wc := [(n, .inr (8, [.int vhadLeft, .int vmetres, .int vshut, .int vshield, .int vhadToday, .int vhadBagged, .int vhadWarmed, .ref nwi, .ref nco, .int vmeals, .ref nqu, .ref nmi, .ref nde, .ref nsa, .ref nsm, .int vsights, .ref npa, .int vpadMany, .ref nac, .ref nam, .ref naw, .int 0, .int vgusty, .int vleakAct, .int vleakMuch, .int 4000, .int (-6), .int (-6), .int 0, .int 0, .ref ncs, .ref nbw, .ref ndc, .ref nmk, .int vhadLeft, .int vhadToday, .int vhadBagged, .int vhadWarmed, .int vleaves, .int vtoday, .int vcoldThen, .ref npo, .int vportionMany, .ref nta, .ref npl, .int vleakMany, .int vleakActs, .ref nmm, .ref ncu, .ref nke, .ref nik, .int vkeptAt, .int visWriting])), (ndc, .inl (cI, 14, .inl (upd (upd (upd (upd (upd (upd (upd (upd (upd (upd (upd (upd (upd (upd fd 0 0) 1 0) 2 0) 3 0) 4 0) 5 0) 6 0) 7 0) 8 0) 9 0) 10 0) 11 0) 12 0) 13 0))), (nmk, .inl (cI, 61, .inl (upd fm 0 5000000)))]) hP [2, 0, 1] rfl
  have hD9 := hD.sub (ws' := [(n, .inr (8, [.int vhadLeft, .int vmetres, .int vshut, .int vshield, .int vhadToday, .int vhadBagged, .int vhadWarmed, .ref nwi, .ref nco, .int vmeals, .ref nqu, .ref nmi, .ref nde, .ref nsa, .ref nsm, .int vsights, .ref npa, .int vpadMany, .ref nac, .ref nam, .ref naw, .int 0, .int vgusty, .int vleakAct, .int vleakMuch, .int 4000, .int (-6), .int (-6), .int 0, .int 0, .ref ncs, .ref nbw, .ref ndc, .ref nmk, .int vhadLeft, .int vhadToday, .int vhadBagged, .int vhadWarmed, .int vleaves, .int vtoday, .int vcoldThen, .ref npo, .int vportionMany, .ref nta, .ref npl, .int vleakMany, .int vleakActs, .ref nmm, .ref ncu, .ref nke, .ref nik, .int vkeptAt, .int visWriting])), (ndc, .inl (cI, 14, .inl (upd (upd (upd (upd (upd (upd (upd (upd (upd (upd (upd (upd (upd (upd fd 0 0) 1 0) 2 0) 3 0) 4 0) 5 0) 6 0) 7 0) 8 0) 9 0) 10 0) 11 0) 12 0) 13 0))), (nmk, .inl (cI, 61, .inl (upd fm 0 5000000)))]) [2, 0, 1] (by decide) rfl
  exact W.zret (v := 1) hx hb hr rfl (fun t ht hW => ⟨⟨1, (), rfl, rfl, by rw [ht]; exact hP9, hD9⟩, hS.F ht⟩) hS.2.2 dX8_canWithoutEnd_51
