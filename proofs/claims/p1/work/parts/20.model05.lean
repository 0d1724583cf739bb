set_option maxHeartbeats 4000000 in
set_option maxRecDepth 100000 in
theorem c_X8_shared0 (l : Launch) (dC : Nat → ClassId) (dI : Nat → Nat → Nat) (cI cZ cK : ClassId) (tS aK aV : Nat) (n : Nat) (nwi : Nat) (nco : Nat) (nqu : Nat) (nmi : Nat) (nde : Nat) (nsa : Nat) (nsm : Nat) (npa : Nat) (nac : Nat) (nam : Nat) (naw : Nat) (ncs : Nat) (nbw : Nat) (ndc : Nat) (nmk : Nat) (npo : Nat) (nta : Nat) (npl : Nat) (nmm : Nat) (ncu : Nat) (nke : Nat) (nik : Nat) (i1 : Int32) (sz : Nat) : Ci l yX8_shared (wq yX8_shared cX8_shared 7 (some .int)) ({ frames := 2, cells := 0, slots := 0, locals := 45 }) dC dI cI cZ cK tS aK aV [.ref n, .int 0, .int i1] sz [(n, .inr (8, [.int 800, .int 0, .int 0, .int 0, .int 0, .int 0, .int 0, .ref nwi, .ref nco, .int 0, .ref nqu, .ref nmi, .ref nde, .ref nsa, .ref nsm, .int 0, .ref npa, .int 0, .ref nac, .ref nam, .ref naw, .int 0, .int 0, .int 0, .int 0, .int 0, .int 0, .int 0, .int 0, .int 0, .ref ncs, .ref nbw, .ref ndc, .ref nmk, .int 0, .int 0, .int 0, .int 0, .int 0, .int 0, .int 0, .ref npo, .int 0, .ref nta, .ref npl, .int 0, .int 0, .ref nmm, .ref ncu, .ref nke, .ref nik, .int 0, .int 0])), (npo, .inl (cI, 6, .inl (fun _ => 0)))] (fun (r : Int32) (_ : Unit) => (r = 0 ∧ (0 ≤ i1.toInt ∧ i1.toInt ≤ 13)) ∨ (r = (-1) ∧ (i1.toInt < 0 ∨ 13 < i1.toInt))) (fun _ => []) := by
  refine Met.ofW (cc := cX8_shared) (maxL := 7) (ret := (some .int)) (by decide) rfl ?_
  intro p e s m args below meth c s₁ B hml hv
  obtain ⟨rfl, hsz, hP, hKx, hD0⟩ := hv
  have hx := B.exec
  have hb := B.bytes
  have hr := B.returns
  have hts := atoms_spec (ws := wq yX8_shared cX8_shared 7 (some .int)) B.pre
  have hown : s.vm.findClass RX8 = some m.cls := findClass_of_methodNamed B.named
  have hlocks := B.notSynchronized
  subst hsz
  have hD := hD0.self (sz := s.heap.size)
  generalize hAe : va_A [(n, .inr (8, [.int 800, .int 0, .int 0, .int 0, .int 0, .int 0, .int 0, .ref nwi, .ref nco, .int 0, .ref nqu, .ref nmi, .ref nde, .ref nsa, .ref nsm, .int 0, .ref npa, .int 0, .ref nac, .ref nam, .ref naw, .int 0, .int 0, .int 0, .int 0, .int 0, .int 0, .int 0, .int 0, .int 0, .ref ncs, .ref nbw, .ref ndc, .ref nmk, .int 0, .int 0, .int 0, .int 0, .int 0, .int 0, .int 0, .ref npo, .int 0, .ref nta, .ref npl, .int 0, .int 0, .ref nmm, .ref ncu, .ref nke, .ref nik, .int 0, .int 0])), (npo, .inl (cI, 6, .inl (fun _ => 0)))] s.heap.size = A at hD hKx ⊢
  have hA : ∀ q : Nat, s.heap.size ≤ q → A q := fun q h => by rw [← hAe]; exact Or.inr h
  have hS : va_S A s.heap s.heap [] := va_S.rf
  have hP : va_P (dC, dI) vwCl [(n, .inr (8, [.int 800, .int 0, .int 0, .int 0, .int 0, .int 0, .int 0, .ref nwi, .ref nco, .int 0, .ref nqu, .ref nmi, .ref nde, .ref nsa, .ref nsm, .int 0, .ref npa, .int 0, .ref nac, .ref nam, .ref naw, .int 0, .int 0, .int 0, .int 0, .int 0, .int 0, .int 0, .int 0, .int 0, .ref ncs, .ref nbw, .ref ndc, .ref nmk, .int 0, .int 0, .int 0, .int 0, .int 0, .int 0, .int 0, .ref npo, .int 0, .ref nta, .ref npl, .int 0, .int 0, .ref nmm, .ref ncu, .ref nke, .ref nik, .int 0, .int 0])), (npo, .inl (cI, 6, .inl (fun _ => 0)))] s.heap := hP
  have hl := lv_entry ([.ref n, .int 0, .int i1]) (n := 7) (Nat.le_of_ble_eq_true rfl)
  rw [lg_entry_eq]
  generalize (lg_sl ([.ref n, .int 0, .int i1]) ++ List.replicate (7 - (lg_sl ([.ref n, .int 0, .int i1])).length) Slot.unset).toArray = ls at hl ⊢
  have hl : lv_has ls 7 [(0, .ref n), (1, .int 0), (2, .int i1)] := hl
  have hK := hKx.1
  have hin8 := fun w9 h9 => List.mem_cons_of_mem (Cond.code yX8_shared cX8_shared 7 (some .int)) (inlX8 w9 h9)
  have hw0 := hts (.fieldLink RX8 55 "OneCanModel" "portion" "[I") (List.mem_cons_of_mem _ wm_480)
  refine lv_iload_n hx hb dX8_shared_0 rfl (lv_at hl 1 rfl) ?_
  refine mx_i (wr := [(n, .inr (8, [.int 800, .int 0, .int 0, .int 0, .int 0, .int 0, .int 0, .ref nwi, .ref nco, .int 0, .ref nqu, .ref nmi, .ref nde, .ref nsa, .ref nsm, .int 0, .ref npa, .int 0, .ref nac, .ref nam, .ref naw, .int 0, .int 0, .int 0, .int 0, .int 0, .int 0, .int 0, .int 0, .int 0, .ref ncs, .ref nbw, .ref ndc, .ref nmk, .int 0, .int 0, .int 0, .int 0, .int 0, .int 0, .int 0, .ref npo, .int 0, .ref nta, .ref npl, .int 0, .int 0, .ref nmm, .ref ncu, .ref nke, .ref nik, .int 0, .int 0])), (npo, .inl (cI, 6, .inl (fun _ => 0)))]) (va_runS (As := [.int 0]) (rest := []) ⟨hx, hb, hml, hown, hts⟩ (c_X8_arePortions l dC dI cI cZ cK tS aK aV 0 s.heap.size) (va_cwS 1 hts (gw_s (fun _ h9 => List.mem_cons_of_mem _ h9) wm_481 wm_482 wm_385 wm_483) rfl rfl rfl (by decide +kernel) ⟨Nat.le_of_ble_eq_true rfl, Nat.le_of_ble_eq_true rfl⟩) (mx_preS hKx hP hD hS hA [] (by decide) rfl) rfl rfl hl.1 rfl (lv_room (Nat.le_of_ble_eq_true rfl)) dX8_shared_1 ⟨Nat.le_of_ble_eq_true rfl, Nat.le_of_ble_eq_true rfl⟩) hP hD hS hA [] [0, 1] rfl rfl (by decide) (by decide) (fun r1 u1 H locs hq1 hP hD hS => ?_)
  replace hP : va_P (dC, dI) vwCl [(n, .inr (8, [.int 800, .int 0, .int 0, .int 0, .int 0, .int 0, .int 0, .ref nwi, .ref nco, .int 0, .ref nqu, .ref nmi, .ref nde, .ref nsa, .ref nsm, .int 0, .ref npa, .int 0, .ref nac, .ref nam, .ref naw, .int 0, .int 0, .int 0, .int 0, .int 0, .int 0, .int 0, .int 0, .int 0, .ref ncs, .ref nbw, .ref ndc, .ref nmk, .int 0, .int 0, .int 0, .int 0, .int 0, .int 0, .int 0, .ref npo, .int 0, .ref nta, .ref npl, .int 0, .int 0, .ref nmm, .ref ncu, .ref nke, .ref nik, .int 0, .int 0])), (npo, .inl (cI, 6, .inl (fun _ => 0)))] H := hP
  replace hD : va_D A [(n, .inr (8, [.int 800, .int 0, .int 0, .int 0, .int 0, .int 0, .int 0, .ref nwi, .ref nco, .int 0, .ref nqu, .ref nmi, .ref nde, .ref nsa, .ref nsm, .int 0, .ref npa, .int 0, .ref nac, .ref nam, .ref naw, .int 0, .int 0, .int 0, .int 0, .int 0, .int 0, .int 0, .int 0, .int 0, .ref ncs, .ref nbw, .ref ndc, .ref nmk, .int 0, .int 0, .int 0, .int 0, .int 0, .int 0, .int 0, .ref npo, .int 0, .ref nta, .ref npl, .int 0, .int 0, .ref nmm, .ref ncu, .ref nke, .ref nik, .int 0, .int 0])), (npo, .inl (cI, 6, .inl (fun _ => 0)))] := hD
  rcases hq1 with ⟨rfl, hf1⟩ | ⟨rfl, hf1⟩
  · have hf1 : 0 ≤ (0 : Int) ∧ (0 : Int) ≤ 999999 := hf1
    refine lv_if_ne (tgt := 10) hx hb dX8_shared_4 (by decide) (fun c2 => ?_) (fun c2 => absurd c2 (by decide))
    refine lv_iload_n hx hb dX8_shared_10 rfl (lv_at hl 2 rfl) ?_
    refine mx_i (wr := [(n, .inr (8, [.int 800, .int 0, .int 0, .int 0, .int 0, .int 0, .int 0, .ref nwi, .ref nco, .int 0, .ref nqu, .ref nmi, .ref nde, .ref nsa, .ref nsm, .int 0, .ref npa, .int 0, .ref nac, .ref nam, .ref naw, .int 0, .int 0, .int 0, .int 0, .int 0, .int 0, .int 0, .int 0, .int 0, .ref ncs, .ref nbw, .ref ndc, .ref nmk, .int 0, .int 0, .int 0, .int 0, .int 0, .int 0, .int 0, .ref npo, .int 0, .ref nta, .ref npl, .int 0, .int 0, .ref nmm, .ref ncu, .ref nke, .ref nik, .int 0, .int 0])), (npo, .inl (cI, 6, .inl (fun _ => 0)))]) (va_runS (As := [.int i1]) (rest := []) ⟨hx, hb, hml, hown, hts⟩ (c_X8_isDay l dC dI cI cZ cK tS aK aV i1 H.size) (va_cwS 1 hts (gw_s (fun _ h9 => List.mem_cons_of_mem _ h9) wm_404 wm_405 wm_385 wm_406) rfl rfl rfl (by decide +kernel) ⟨Nat.le_of_ble_eq_true rfl, Nat.le_of_ble_eq_true rfl⟩) (mx_preS hKx hP hD hS hA [] (by decide) rfl) rfl rfl hl.1 rfl (lv_room (Nat.le_of_ble_eq_true rfl)) dX8_shared_11 ⟨Nat.le_of_ble_eq_true rfl, Nat.le_of_ble_eq_true rfl⟩) hP hD hS hA [] [0, 1] rfl rfl (by decide) (by decide) (fun r3 u3 H locs hq3 hP hD hS => ?_)
    replace hP : va_P (dC, dI) vwCl [(n, .inr (8, [.int 800, .int 0, .int 0, .int 0, .int 0, .int 0, .int 0, .ref nwi, .ref nco, .int 0, .ref nqu, .ref nmi, .ref nde, .ref nsa, .ref nsm, .int 0, .ref npa, .int 0, .ref nac, .ref nam, .ref naw, .int 0, .int 0, .int 0, .int 0, .int 0, .int 0, .int 0, .int 0, .int 0, .ref ncs, .ref nbw, .ref ndc, .ref nmk, .int 0, .int 0, .int 0, .int 0, .int 0, .int 0, .int 0, .ref npo, .int 0, .ref nta, .ref npl, .int 0, .int 0, .ref nmm, .ref ncu, .ref nke, .ref nik, .int 0, .int 0])), (npo, .inl (cI, 6, .inl (fun _ => 0)))] H := hP
    replace hD : va_D A [(n, .inr (8, [.int 800, .int 0, .int 0, .int 0, .int 0, .int 0, .int 0, .ref nwi, .ref nco, .int 0, .ref nqu, .ref nmi, .ref nde, .ref nsa, .ref nsm, .int 0, .ref npa, .int 0, .ref nac, .ref nam, .ref naw, .int 0, .int 0, .int 0, .int 0, .int 0, .int 0, .int 0, .int 0, .int 0, .ref ncs, .ref nbw, .ref ndc, .ref nmk, .int 0, .int 0, .int 0, .int 0, .int 0, .int 0, .int 0, .ref npo, .int 0, .ref nta, .ref npl, .int 0, .int 0, .ref nmm, .ref ncu, .ref nke, .ref nik, .int 0, .int 0])), (npo, .inl (cI, 6, .inl (fun _ => 0)))] := hD
    rcases hq3 with ⟨rfl, hf3⟩ | ⟨rfl, hf3⟩
    · have hf3 : 0 ≤ i1.toInt ∧ i1.toInt ≤ 13 := hf3
      refine lv_if_eq (tgt := 25) hx hb dX8_shared_14 (by decide) (fun c4 => absurd c4 (by decide)) (fun c4 => ?_)
      refine lv_aload_n hx hb dX8_shared_17 rfl (lv_at hl 0 rfl) ?_
      refine lv_iload_n hx hb dX8_shared_18 rfl (lv_at hl 1 rfl) ?_
      refine mx_i (wr := []) (va_runV (As := [.int 0]) (rest := []) ⟨hx, hb, hml, hown, hts⟩ (c_X8_layPortions0 l dC dI cI cZ cK tS aK aV n nwi nco nqu nmi nde nsa nsm npa nac nam naw ncs nbw ndc nmk npo nta npl nmm ncu nke nik H.size) (cwV 1 hts (gw_v (fun _ h9 => List.mem_cons_of_mem _ h9) wm_484 wm_485 wm_486 wm_385 wm_487) rfl rfl rfl (by decide +kernel) ⟨Nat.le_of_ble_eq_true rfl, Nat.le_of_ble_eq_true rfl⟩) (mx_preV (C := RX8) (T := TX8) (N := 53) (ci := 8) hKx hP hD hS hA [0, 1] (by decide) rfl rfl rfl) rfl rfl hl.1 rfl (lv_room (Nat.le_of_ble_eq_true rfl)) dX8_shared_19 ⟨Nat.le_of_ble_eq_true rfl, Nat.le_of_ble_eq_true rfl⟩) hP hD hS hA [0, 1] [] rfl rfl (by decide) (by decide) (fun r5 u5 H locs hq5 hP hD hS => ?_)
      replace hP : va_P (dC, dI) vwCl [(n, .inr (8, [.int 800, .int 0, .int 0, .int 0, .int 0, .int 0, .int 0, .ref nwi, .ref nco, .int 0, .ref nqu, .ref nmi, .ref nde, .ref nsa, .ref nsm, .int 0, .ref npa, .int 0, .ref nac, .ref nam, .ref naw, .int 0, .int 0, .int 0, .int 0, .int 0, .int 0, .int 0, .int 0, .int 0, .ref ncs, .ref nbw, .ref ndc, .ref nmk, .int 0, .int 0, .int 0, .int 0, .int 0, .int 0, .int 0, .ref npo, .int 0, .ref nta, .ref npl, .int 0, .int 0, .ref nmm, .ref ncu, .ref nke, .ref nik, .int 0, .int 0])), (npo, .inl (cI, 6, .inl (upd (upd (upd (upd (upd (upd (fun _ => 0) 5 0) 4 0) 3 0) 2 0) 1 0) 0 0)))] H := hP
      replace hD : va_D A [(n, .inr (8, [.int 800, .int 0, .int 0, .int 0, .int 0, .int 0, .int 0, .ref nwi, .ref nco, .int 0, .ref nqu, .ref nmi, .ref nde, .ref nsa, .ref nsm, .int 0, .ref npa, .int 0, .ref nac, .ref nam, .ref naw, .int 0, .int 0, .int 0, .int 0, .int 0, .int 0, .int 0, .int 0, .int 0, .ref ncs, .ref nbw, .ref ndc, .ref nmk, .int 0, .int 0, .int 0, .int 0, .int 0, .int 0, .int 0, .ref npo, .int 0, .ref nta, .ref npl, .int 0, .int 0, .ref nmm, .ref ncu, .ref nke, .ref nik, .int 0, .int 0])), (npo, .inl (cI, 6, .inl (upd (upd (upd (upd (upd (upd (fun _ => 0) 5 0) 4 0) 3 0) 2 0) 1 0) 0 0)))] := hD
      obtain rfl : r5 = 1 := hq5
      refine lv_if_ne (tgt := 27) hx hb dX8_shared_22 (by decide) (fun c6 => ?_) (fun c6 => absurd c6 (by decide))
      refine lv_iconst (v := 0) hx hb dX8_shared_27 (by decide) ?_
      refine lv_istore_n (lv' := [(3, .int 0), (0, .ref n), (1, .int 0), (2, .int i1)]) hx hb dX8_shared_28 rfl hl (by decide) rfl (fun ls hl => ?_)
      refine lv_iconst (v := 0) hx hb dX8_shared_29 (by decide) ?_
      refine lv_istore (lv' := [(4, .int 0), (3, .int 0), (0, .ref n), (1, .int 0), (2, .int i1)]) hx hb dX8_shared_30 hl (by decide) rfl (fun ls hl => ?_)
      refine lv_iload hx hb dX8_shared_32 (lv_at hl 0 rfl) ?_
      refine lv_bipush (v := 6) hx hb dX8_shared_34 (by decide) ?_
      refine lv_icmp_ge (tgt := 137) hx hb dX8_shared_36 (by decide) (fun c7 => absurd c7 (by decide)) (fun c7 => ?_)
      refine lv_aload_n hx hb dX8_shared_39 rfl (lv_at hl 2 rfl) ?_
      refine va_get (D := (dC, dI)) (ci := 8) (v := .ref npo) (C := RX8) (T := TX8) (N := 53) hx hb hts hin8 hown hK hP 0 rfl rfl 41 (by decide) hw0 (fun _ h9 => h9) rfl dX8_shared_40 ?_
      refine lv_iload hx hb dX8_shared_43 (lv_at hl 0 rfl) ?_
      refine va_iald hx hb hK hP 1 0 rfl rfl (vin (by decide) (by decide)) dX8_shared_45 ?_
      refine lv_topi (fun x8 e8 => ?_)
      obtain rfl : x8 = 0 := e8.trans (by first | rfl | decide)
      refine lv_if_ne (tgt := 53) hx hb dX8_shared_46 (by decide) (fun c9 => absurd c9 (by decide)) (fun c9 => ?_)
      refine lv_iconst (v := 1) hx hb dX8_shared_49 (by decide) ?_
      refine lv_goto (tgt := 62) hx hb dX8_shared_50 (by decide) ?_
      refine lv_istore (lv' := [(5, .int 1), (4, .int 0), (3, .int 0), (0, .ref n), (1, .int 0), (2, .int i1)]) hx hb dX8_shared_62 hl (by decide) rfl (fun ls hl => ?_)
      refine lv_aload_n hx hb dX8_shared_64 rfl (lv_at hl 3 rfl) ?_
      refine va_get (D := (dC, dI)) (ci := 8) (v := .ref npo) (C := RX8) (T := TX8) (N := 53) hx hb hts hin8 hown hK hP 0 rfl rfl 41 (by decide) hw0 (fun _ h9 => h9) rfl dX8_shared_65 ?_
      refine lv_iload hx hb dX8_shared_68 (lv_at hl 1 rfl) ?_
      refine va_iald hx hb hK hP 1 0 rfl rfl (vin (by decide) (by decide)) dX8_shared_70 ?_
      refine lv_topi (fun x10 e10 => ?_)
      obtain rfl : x10 = 0 := e10.trans (by first | rfl | decide)
      refine lv_iload hx hb dX8_shared_71 (lv_at hl 0 rfl) ?_
      refine lv_iadd hx hb dX8_shared_73 ?_
      refine lv_topi (fun x11 e11 => ?_)
      obtain rfl : x11 = 1 := e11.trans (by decide)
      refine lv_iconst (v := 1) hx hb dX8_shared_74 (by decide) ?_
      refine lv_isub hx hb dX8_shared_75 ?_
      refine lv_topi (fun x12 e12 => ?_)
      obtain rfl : x12 = 0 := e12.trans (by decide)
      refine lv_iload hx hb dX8_shared_76 (lv_at hl 0 rfl) ?_
      refine lv_idiv hx hb dX8_shared_78 (by decide) ?_
      refine lv_topi (fun x13 e13 => ?_)
      obtain rfl : x13 = 0 := e13.trans (by decide)
      refine lv_istore (lv' := [(6, .int 0), (5, .int 1), (4, .int 0), (3, .int 0), (0, .ref n), (1, .int 0), (2, .int i1)]) hx hb dX8_shared_79 hl (by decide) rfl (fun ls hl => ?_)
      refine lv_iload_n hx hb dX8_shared_81 rfl (lv_at hl 3 rfl) ?_
      refine lv_aload_n hx hb dX8_shared_82 rfl (lv_at hl 4 rfl) ?_
      refine va_get (D := (dC, dI)) (ci := 8) (v := .ref npo) (C := RX8) (T := TX8) (N := 53) hx hb hts hin8 hown hK hP 0 rfl rfl 41 (by decide) hw0 (fun _ h9 => h9) rfl dX8_shared_83 ?_
      refine lv_iload hx hb dX8_shared_86 (lv_at hl 2 rfl) ?_
      refine va_iald hx hb hK hP 1 0 rfl rfl (vin (by decide) (by decide)) dX8_shared_88 ?_
      refine lv_topi (fun x14 e14 => ?_)
      obtain rfl : x14 = 0 := e14.trans (by first | rfl | decide)
      refine lv_if_ne (tgt := 96) hx hb dX8_shared_89 (by decide) (fun c15 => absurd c15 (by decide)) (fun c15 => ?_)
      refine lv_iconst (v := 0) hx hb dX8_shared_92 (by decide) ?_
      refine lv_goto (tgt := 129) hx hb dX8_shared_93 (by decide) ?_
      refine lv_iadd hx hb dX8_shared_129 ?_
      refine lv_topi (fun x16 e16 => ?_)
      obtain rfl : x16 = 0 := e16.trans (by decide)
      refine lv_istore_n (lv' := [(3, .int 0), (6, .int 0), (5, .int 1), (4, .int 0), (0, .ref n), (1, .int 0), (2, .int i1)]) hx hb dX8_shared_130 rfl hl (by decide) rfl (fun ls hl => ?_)
      refine lv_iinc (v := 1) (lv' := [(4, .int 1), (3, .int 0), (6, .int 0), (5, .int 1), (0, .ref n), (1, .int 0), (2, .int i1)]) hx hb dX8_shared_131 hl (k := 3) rfl (by decide) (by decide) rfl (fun ls hl => ?_)
      refine lv_goto (tgt := 32) hx hb dX8_shared_134 (by decide) ?_
      refine lv_iload hx hb dX8_shared_32 (lv_at hl 0 rfl) ?_
      refine lv_bipush (v := 6) hx hb dX8_shared_34 (by decide) ?_
      refine lv_icmp_ge (tgt := 137) hx hb dX8_shared_36 (by decide) (fun c17 => absurd c17 (by decide)) (fun c17 => ?_)
      refine lv_aload_n hx hb dX8_shared_39 rfl (lv_at hl 4 rfl) ?_
      refine va_get (D := (dC, dI)) (ci := 8) (v := .ref npo) (C := RX8) (T := TX8) (N := 53) hx hb hts hin8 hown hK hP 0 rfl rfl 41 (by decide) hw0 (fun _ h9 => h9) rfl dX8_shared_40 ?_
      refine lv_iload hx hb dX8_shared_43 (lv_at hl 0 rfl) ?_
      refine va_iald hx hb hK hP 1 0 rfl rfl (vin (by decide) (by decide)) dX8_shared_45 ?_
      refine lv_topi (fun x18 e18 => ?_)
      obtain rfl : x18 = 0 := e18.trans (by first | rfl | decide)
      refine lv_if_ne (tgt := 53) hx hb dX8_shared_46 (by decide) (fun c19 => absurd c19 (by decide)) (fun c19 => ?_)
      refine lv_iconst (v := 1) hx hb dX8_shared_49 (by decide) ?_
      refine lv_goto (tgt := 62) hx hb dX8_shared_50 (by decide) ?_
      refine lv_istore (lv' := [(5, .int 1), (4, .int 1), (3, .int 0), (6, .int 0), (0, .ref n), (1, .int 0), (2, .int i1)]) hx hb dX8_shared_62 hl (by decide) rfl (fun ls hl => ?_)
      refine lv_aload_n hx hb dX8_shared_64 rfl (lv_at hl 4 rfl) ?_
      refine va_get (D := (dC, dI)) (ci := 8) (v := .ref npo) (C := RX8) (T := TX8) (N := 53) hx hb hts hin8 hown hK hP 0 rfl rfl 41 (by decide) hw0 (fun _ h9 => h9) rfl dX8_shared_65 ?_
      refine lv_iload hx hb dX8_shared_68 (lv_at hl 1 rfl) ?_
      refine va_iald hx hb hK hP 1 0 rfl rfl (vin (by decide) (by decide)) dX8_shared_70 ?_
      refine lv_topi (fun x20 e20 => ?_)
      obtain rfl : x20 = 0 := e20.trans (by first | rfl | decide)
      refine lv_iload hx hb dX8_shared_71 (lv_at hl 0 rfl) ?_
      refine lv_iadd hx hb dX8_shared_73 ?_
      refine lv_topi (fun x21 e21 => ?_)
      obtain rfl : x21 = 1 := e21.trans (by decide)
      refine lv_iconst (v := 1) hx hb dX8_shared_74 (by decide) ?_
      refine lv_isub hx hb dX8_shared_75 ?_
      refine lv_topi (fun x22 e22 => ?_)
      obtain rfl : x22 = 0 := e22.trans (by decide)
      refine lv_iload hx hb dX8_shared_76 (lv_at hl 0 rfl) ?_
      refine lv_idiv hx hb dX8_shared_78 (by decide) ?_
      refine lv_topi (fun x23 e23 => ?_)
      obtain rfl : x23 = 0 := e23.trans (by decide)
      refine lv_istore (lv' := [(6, .int 0), (5, .int 1), (4, .int 1), (3, .int 0), (0, .ref n), (1, .int 0), (2, .int i1)]) hx hb dX8_shared_79 hl (by decide) rfl (fun ls hl => ?_)
      refine lv_iload_n hx hb dX8_shared_81 rfl (lv_at hl 3 rfl) ?_
      refine lv_aload_n hx hb dX8_shared_82 rfl (lv_at hl 4 rfl) ?_
      refine va_get (D := (dC, dI)) (ci := 8) (v := .ref npo) (C := RX8) (T := TX8) (N := 53) hx hb hts hin8 hown hK hP 0 rfl rfl 41 (by decide) hw0 (fun _ h9 => h9) rfl dX8_shared_83 ?_
      refine lv_iload hx hb dX8_shared_86 (lv_at hl 2 rfl) ?_
      refine va_iald hx hb hK hP 1 0 rfl rfl (vin (by decide) (by decide)) dX8_shared_88 ?_
      refine lv_topi (fun x24 e24 => ?_)
      obtain rfl : x24 = 0 := e24.trans (by first | rfl | decide)
      refine lv_if_ne (tgt := 96) hx hb dX8_shared_89 (by decide) (fun c25 => absurd c25 (by decide)) (fun c25 => ?_)
      refine lv_iconst (v := 0) hx hb dX8_shared_92 (by decide) ?_
      refine lv_goto (tgt := 129) hx hb dX8_shared_93 (by decide) ?_
      refine lv_iadd hx hb dX8_shared_129 ?_
      refine lv_topi (fun x26 e26 => ?_)
      obtain rfl : x26 = 0 := e26.trans (by decide)
      refine lv_istore_n (lv' := [(3, .int 0), (6, .int 0), (5, .int 1), (4, .int 1), (0, .ref n), (1, .int 0), (2, .int i1)]) hx hb dX8_shared_130 rfl hl (by decide) rfl (fun ls hl => ?_)
      refine lv_iinc (v := 2) (lv' := [(4, .int 2), (3, .int 0), (6, .int 0), (5, .int 1), (0, .ref n), (1, .int 0), (2, .int i1)]) hx hb dX8_shared_131 hl (k := 3) rfl (by decide) (by decide) rfl (fun ls hl => ?_)
      refine lv_goto (tgt := 32) hx hb dX8_shared_134 (by decide) ?_
      refine lv_iload hx hb dX8_shared_32 (lv_at hl 0 rfl) ?_
      refine lv_bipush (v := 6) hx hb dX8_shared_34 (by decide) ?_
      refine lv_icmp_ge (tgt := 137) hx hb dX8_shared_36 (by decide) (fun c27 => absurd c27 (by decide)) (fun c27 => ?_)
      refine lv_aload_n hx hb dX8_shared_39 rfl (lv_at hl 4 rfl) ?_
      refine va_get (D := (dC, dI)) (ci := 8) (v := .ref npo) (C := RX8) (T := TX8) (N := 53) hx hb hts hin8 hown hK hP 0 rfl rfl 41 (by decide) hw0 (fun _ h9 => h9) rfl dX8_shared_40 ?_
      refine lv_iload hx hb dX8_shared_43 (lv_at hl 0 rfl) ?_
      refine va_iald hx hb hK hP 1 0 rfl rfl (vin (by decide) (by decide)) dX8_shared_45 ?_
      refine lv_topi (fun x28 e28 => ?_)
      obtain rfl : x28 = 0 := e28.trans (by first | rfl | decide)
      refine lv_if_ne (tgt := 53) hx hb dX8_shared_46 (by decide) (fun c29 => absurd c29 (by decide)) (fun c29 => ?_)
      refine lv_iconst (v := 1) hx hb dX8_shared_49 (by decide) ?_
      refine lv_goto (tgt := 62) hx hb dX8_shared_50 (by decide) ?_
      refine lv_istore (lv' := [(5, .int 1), (4, .int 2), (3, .int 0), (6, .int 0), (0, .ref n), (1, .int 0), (2, .int i1)]) hx hb dX8_shared_62 hl (by decide) rfl (fun ls hl => ?_)
      refine lv_aload_n hx hb dX8_shared_64 rfl (lv_at hl 4 rfl) ?_
      refine va_get (D := (dC, dI)) (ci := 8) (v := .ref npo) (C := RX8) (T := TX8) (N := 53) hx hb hts hin8 hown hK hP 0 rfl rfl 41 (by decide) hw0 (fun _ h9 => h9) rfl dX8_shared_65 ?_
      refine lv_iload hx hb dX8_shared_68 (lv_at hl 1 rfl) ?_
      refine va_iald hx hb hK hP 1 0 rfl rfl (vin (by decide) (by decide)) dX8_shared_70 ?_
      refine lv_topi (fun x30 e30 => ?_)
      obtain rfl : x30 = 0 := e30.trans (by first | rfl | decide)
      refine lv_iload hx hb dX8_shared_71 (lv_at hl 0 rfl) ?_
      refine lv_iadd hx hb dX8_shared_73 ?_
      refine lv_topi (fun x31 e31 => ?_)
      obtain rfl : x31 = 1 := e31.trans (by decide)
      refine lv_iconst (v := 1) hx hb dX8_shared_74 (by decide) ?_
      refine lv_isub hx hb dX8_shared_75 ?_
      refine lv_topi (fun x32 e32 => ?_)
      obtain rfl : x32 = 0 := e32.trans (by decide)
      refine lv_iload hx hb dX8_shared_76 (lv_at hl 0 rfl) ?_
      refine lv_idiv hx hb dX8_shared_78 (by decide) ?_
      refine lv_topi (fun x33 e33 => ?_)
      obtain rfl : x33 = 0 := e33.trans (by decide)
      refine lv_istore (lv' := [(6, .int 0), (5, .int 1), (4, .int 2), (3, .int 0), (0, .ref n), (1, .int 0), (2, .int i1)]) hx hb dX8_shared_79 hl (by decide) rfl (fun ls hl => ?_)
      refine lv_iload_n hx hb dX8_shared_81 rfl (lv_at hl 3 rfl) ?_
      refine lv_aload_n hx hb dX8_shared_82 rfl (lv_at hl 4 rfl) ?_
      refine va_get (D := (dC, dI)) (ci := 8) (v := .ref npo) (C := RX8) (T := TX8) (N := 53) hx hb hts hin8 hown hK hP 0 rfl rfl 41 (by decide) hw0 (fun _ h9 => h9) rfl dX8_shared_83 ?_
      refine lv_iload hx hb dX8_shared_86 (lv_at hl 2 rfl) ?_
      refine va_iald hx hb hK hP 1 0 rfl rfl (vin (by decide) (by decide)) dX8_shared_88 ?_
      refine lv_topi (fun x34 e34 => ?_)
      obtain rfl : x34 = 0 := e34.trans (by first | rfl | decide)
      refine lv_if_ne (tgt := 96) hx hb dX8_shared_89 (by decide) (fun c35 => absurd c35 (by decide)) (fun c35 => ?_)
      refine lv_iconst (v := 0) hx hb dX8_shared_92 (by decide) ?_
      refine lv_goto (tgt := 129) hx hb dX8_shared_93 (by decide) ?_
      refine lv_iadd hx hb dX8_shared_129 ?_
      refine lv_topi (fun x36 e36 => ?_)
      obtain rfl : x36 = 0 := e36.trans (by decide)
      refine lv_istore_n (lv' := [(3, .int 0), (6, .int 0), (5, .int 1), (4, .int 2), (0, .ref n), (1, .int 0), (2, .int i1)]) hx hb dX8_shared_130 rfl hl (by decide) rfl (fun ls hl => ?_)
      refine lv_iinc (v := 3) (lv' := [(4, .int 3), (3, .int 0), (6, .int 0), (5, .int 1), (0, .ref n), (1, .int 0), (2, .int i1)]) hx hb dX8_shared_131 hl (k := 3) rfl (by decide) (by decide) rfl (fun ls hl => ?_)
      refine lv_goto (tgt := 32) hx hb dX8_shared_134 (by decide) ?_
      refine lv_iload hx hb dX8_shared_32 (lv_at hl 0 rfl) ?_
      refine lv_bipush (v := 6) hx hb dX8_shared_34 (by decide) ?_
      refine lv_icmp_ge (tgt := 137) hx hb dX8_shared_36 (by decide) (fun c37 => absurd c37 (by decide)) (fun c37 => ?_)
      refine lv_aload_n hx hb dX8_shared_39 rfl (lv_at hl 4 rfl) ?_
      refine va_get (D := (dC, dI)) (ci := 8) (v := .ref npo) (C := RX8) (T := TX8) (N := 53) hx hb hts hin8 hown hK hP 0 rfl rfl 41 (by decide) hw0 (fun _ h9 => h9) rfl dX8_shared_40 ?_
      refine lv_iload hx hb dX8_shared_43 (lv_at hl 0 rfl) ?_
      refine va_iald hx hb hK hP 1 0 rfl rfl (vin (by decide) (by decide)) dX8_shared_45 ?_
      refine lv_topi (fun x38 e38 => ?_)
      obtain rfl : x38 = 0 := e38.trans (by first | rfl | decide)
      refine lv_if_ne (tgt := 53) hx hb dX8_shared_46 (by decide) (fun c39 => absurd c39 (by decide)) (fun c39 => ?_)
      refine lv_iconst (v := 1) hx hb dX8_shared_49 (by decide) ?_
      refine lv_goto (tgt := 62) hx hb dX8_shared_50 (by decide) ?_
      refine lv_istore (lv' := [(5, .int 1), (4, .int 3), (3, .int 0), (6, .int 0), (0, .ref n), (1, .int 0), (2, .int i1)]) hx hb dX8_shared_62 hl (by decide) rfl (fun ls hl => ?_)
      refine lv_aload_n hx hb dX8_shared_64 rfl (lv_at hl 4 rfl) ?_
      refine va_get (D := (dC, dI)) (ci := 8) (v := .ref npo) (C := RX8) (T := TX8) (N := 53) hx hb hts hin8 hown hK hP 0 rfl rfl 41 (by decide) hw0 (fun _ h9 => h9) rfl dX8_shared_65 ?_
      refine lv_iload hx hb dX8_shared_68 (lv_at hl 1 rfl) ?_
      refine va_iald hx hb hK hP 1 0 rfl rfl (vin (by decide) (by decide)) dX8_shared_70 ?_
      refine lv_topi (fun x40 e40 => ?_)
      obtain rfl : x40 = 0 := e40.trans (by first | rfl | decide)
      refine lv_iload hx hb dX8_shared_71 (lv_at hl 0 rfl) ?_
      refine lv_iadd hx hb dX8_shared_73 ?_
      refine lv_topi (fun x41 e41 => ?_)
      obtain rfl : x41 = 1 := e41.trans (by decide)
      refine lv_iconst (v := 1) hx hb dX8_shared_74 (by decide) ?_
      refine lv_isub hx hb dX8_shared_75 ?_
      refine lv_topi (fun x42 e42 => ?_)
      obtain rfl : x42 = 0 := e42.trans (by decide)
      refine lv_iload hx hb dX8_shared_76 (lv_at hl 0 rfl) ?_
      refine lv_idiv hx hb dX8_shared_78 (by decide) ?_
      refine lv_topi (fun x43 e43 => ?_)
      obtain rfl : x43 = 0 := e43.trans (by decide)
      refine lv_istore (lv' := [(6, .int 0), (5, .int 1), (4, .int 3), (3, .int 0), (0, .ref n), (1, .int 0), (2, .int i1)]) hx hb dX8_shared_79 hl (by decide) rfl (fun ls hl => ?_)
      refine lv_iload_n hx hb dX8_shared_81 rfl (lv_at hl 3 rfl) ?_
      refine lv_aload_n hx hb dX8_shared_82 rfl (lv_at hl 4 rfl) ?_
      refine va_get (D := (dC, dI)) (ci := 8) (v := .ref npo) (C := RX8) (T := TX8) (N := 53) hx hb hts hin8 hown hK hP 0 rfl rfl 41 (by decide) hw0 (fun _ h9 => h9) rfl dX8_shared_83 ?_
      refine lv_iload hx hb dX8_shared_86 (lv_at hl 2 rfl) ?_
      refine va_iald hx hb hK hP 1 0 rfl rfl (vin (by decide) (by decide)) dX8_shared_88 ?_
      refine lv_topi (fun x44 e44 => ?_)
      obtain rfl : x44 = 0 := e44.trans (by first | rfl | decide)
      refine lv_if_ne (tgt := 96) hx hb dX8_shared_89 (by decide) (fun c45 => absurd c45 (by decide)) (fun c45 => ?_)
      refine lv_iconst (v := 0) hx hb dX8_shared_92 (by decide) ?_
      refine lv_goto (tgt := 129) hx hb dX8_shared_93 (by decide) ?_
      refine lv_iadd hx hb dX8_shared_129 ?_
      refine lv_topi (fun x46 e46 => ?_)
      obtain rfl : x46 = 0 := e46.trans (by decide)
      refine lv_istore_n (lv' := [(3, .int 0), (6, .int 0), (5, .int 1), (4, .int 3), (0, .ref n), (1, .int 0), (2, .int i1)]) hx hb dX8_shared_130 rfl hl (by decide) rfl (fun ls hl => ?_)
      refine lv_iinc (v := 4) (lv' := [(4, .int 4), (3, .int 0), (6, .int 0), (5, .int 1), (0, .ref n), (1, .int 0), (2, .int i1)]) hx hb dX8_shared_131 hl (k := 3) rfl (by decide) (by decide) rfl (fun ls hl => ?_)
      refine lv_goto (tgt := 32) hx hb dX8_shared_134 (by decide) ?_
      refine lv_iload hx hb dX8_shared_32 (lv_at hl 0 rfl) ?_
      refine lv_bipush (v := 6) hx hb dX8_shared_34 (by decide) ?_
      refine lv_icmp_ge (tgt := 137) hx hb dX8_shared_36 (by decide) (fun c47 => absurd c47 (by decide)) (fun c47 => ?_)
      refine lv_aload_n hx hb dX8_shared_39 rfl (lv_at hl 4 rfl) ?_
      refine va_get (D := (dC, dI)) (ci := 8) (v := .ref npo) (C := RX8) (T := TX8) (N := 53) hx hb hts hin8 hown hK hP 0 rfl rfl 41 (by decide) hw0 (fun _ h9 => h9) rfl dX8_shared_40 ?_
      refine lv_iload hx hb dX8_shared_43 (lv_at hl 0 rfl) ?_
      refine va_iald hx hb hK hP 1 0 rfl rfl (vin (by decide) (by decide)) dX8_shared_45 ?_
      refine lv_topi (fun x48 e48 => ?_)
      obtain rfl : x48 = 0 := e48.trans (by first | rfl | decide)
      refine lv_if_ne (tgt := 53) hx hb dX8_shared_46 (by decide) (fun c49 => absurd c49 (by decide)) (fun c49 => ?_)
      refine lv_iconst (v := 1) hx hb dX8_shared_49 (by decide) ?_
      refine lv_goto (tgt := 62) hx hb dX8_shared_50 (by decide) ?_
      refine lv_istore (lv' := [(5, .int 1), (4, .int 4), (3, .int 0), (6, .int 0), (0, .ref n), (1, .int 0), (2, .int i1)]) hx hb dX8_shared_62 hl (by decide) rfl (fun ls hl => ?_)
      refine lv_aload_n hx hb dX8_shared_64 rfl (lv_at hl 4 rfl) ?_
      refine va_get (D := (dC, dI)) (ci := 8) (v := .ref npo) (C := RX8) (T := TX8) (N := 53) hx hb hts hin8 hown hK hP 0 rfl rfl 41 (by decide) hw0 (fun _ h9 => h9) rfl dX8_shared_65 ?_
      refine lv_iload hx hb dX8_shared_68 (lv_at hl 1 rfl) ?_
      refine va_iald hx hb hK hP 1 0 rfl rfl (vin (by decide) (by decide)) dX8_shared_70 ?_
      refine lv_topi (fun x50 e50 => ?_)
      obtain rfl : x50 = 0 := e50.trans (by first | rfl | decide)
      refine lv_iload hx hb dX8_shared_71 (lv_at hl 0 rfl) ?_
      refine lv_iadd hx hb dX8_shared_73 ?_
      refine lv_topi (fun x51 e51 => ?_)
      obtain rfl : x51 = 1 := e51.trans (by decide)
      refine lv_iconst (v := 1) hx hb dX8_shared_74 (by decide) ?_
      refine lv_isub hx hb dX8_shared_75 ?_
      refine lv_topi (fun x52 e52 => ?_)
      obtain rfl : x52 = 0 := e52.trans (by decide)
      refine lv_iload hx hb dX8_shared_76 (lv_at hl 0 rfl) ?_
      refine lv_idiv hx hb dX8_shared_78 (by decide) ?_
      refine lv_topi (fun x53 e53 => ?_)
      obtain rfl : x53 = 0 := e53.trans (by decide)
      refine lv_istore (lv' := [(6, .int 0), (5, .int 1), (4, .int 4), (3, .int 0), (0, .ref n), (1, .int 0), (2, .int i1)]) hx hb dX8_shared_79 hl (by decide) rfl (fun ls hl => ?_)
      refine lv_iload_n hx hb dX8_shared_81 rfl (lv_at hl 3 rfl) ?_
      refine lv_aload_n hx hb dX8_shared_82 rfl (lv_at hl 4 rfl) ?_
      refine va_get (D := (dC, dI)) (ci := 8) (v := .ref npo) (C := RX8) (T := TX8) (N := 53) hx hb hts hin8 hown hK hP 0 rfl rfl 41 (by decide) hw0 (fun _ h9 => h9) rfl dX8_shared_83 ?_
      refine lv_iload hx hb dX8_shared_86 (lv_at hl 2 rfl) ?_
      refine va_iald hx hb hK hP 1 0 rfl rfl (vin (by decide) (by decide)) dX8_shared_88 ?_
      refine lv_topi (fun x54 e54 => ?_)
      obtain rfl : x54 = 0 := e54.trans (by first | rfl | decide)
      refine lv_if_ne (tgt := 96) hx hb dX8_shared_89 (by decide) (fun c55 => absurd c55 (by decide)) (fun c55 => ?_)
      refine lv_iconst (v := 0) hx hb dX8_shared_92 (by decide) ?_
      refine lv_goto (tgt := 129) hx hb dX8_shared_93 (by decide) ?_
      refine lv_iadd hx hb dX8_shared_129 ?_
      refine lv_topi (fun x56 e56 => ?_)
      obtain rfl : x56 = 0 := e56.trans (by decide)
      refine lv_istore_n (lv' := [(3, .int 0), (6, .int 0), (5, .int 1), (4, .int 4), (0, .ref n), (1, .int 0), (2, .int i1)]) hx hb dX8_shared_130 rfl hl (by decide) rfl (fun ls hl => ?_)
      refine lv_iinc (v := 5) (lv' := [(4, .int 5), (3, .int 0), (6, .int 0), (5, .int 1), (0, .ref n), (1, .int 0), (2, .int i1)]) hx hb dX8_shared_131 hl (k := 3) rfl (by decide) (by decide) rfl (fun ls hl => ?_)
      refine lv_goto (tgt := 32) hx hb dX8_shared_134 (by decide) ?_
      refine lv_iload hx hb dX8_shared_32 (lv_at hl 0 rfl) ?_
      refine lv_bipush (v := 6) hx hb dX8_shared_34 (by decide) ?_
      refine lv_icmp_ge (tgt := 137) hx hb dX8_shared_36 (by decide) (fun c57 => absurd c57 (by decide)) (fun c57 => ?_)
      refine lv_aload_n hx hb dX8_shared_39 rfl (lv_at hl 4 rfl) ?_
      refine va_get (D := (dC, dI)) (ci := 8) (v := .ref npo) (C := RX8) (T := TX8) (N := 53) hx hb hts hin8 hown hK hP 0 rfl rfl 41 (by decide) hw0 (fun _ h9 => h9) rfl dX8_shared_40 ?_
      refine lv_iload hx hb dX8_shared_43 (lv_at hl 0 rfl) ?_
      refine va_iald hx hb hK hP 1 0 rfl rfl (vin (by decide) (by decide)) dX8_shared_45 ?_
      refine lv_topi (fun x58 e58 => ?_)
      obtain rfl : x58 = 0 := e58.trans (by first | rfl | decide)
      refine lv_if_ne (tgt := 53) hx hb dX8_shared_46 (by decide) (fun c59 => absurd c59 (by decide)) (fun c59 => ?_)
      refine lv_iconst (v := 1) hx hb dX8_shared_49 (by decide) ?_
      refine lv_goto (tgt := 62) hx hb dX8_shared_50 (by decide) ?_
      refine lv_istore (lv' := [(5, .int 1), (4, .int 5), (3, .int 0), (6, .int 0), (0, .ref n), (1, .int 0), (2, .int i1)]) hx hb dX8_shared_62 hl (by decide) rfl (fun ls hl => ?_)
      refine lv_aload_n hx hb dX8_shared_64 rfl (lv_at hl 4 rfl) ?_
      refine va_get (D := (dC, dI)) (ci := 8) (v := .ref npo) (C := RX8) (T := TX8) (N := 53) hx hb hts hin8 hown hK hP 0 rfl rfl 41 (by decide) hw0 (fun _ h9 => h9) rfl dX8_shared_65 ?_
      refine lv_iload hx hb dX8_shared_68 (lv_at hl 1 rfl) ?_
      refine va_iald hx hb hK hP 1 0 rfl rfl (vin (by decide) (by decide)) dX8_shared_70 ?_
      refine lv_topi (fun x60 e60 => ?_)
      obtain rfl : x60 = 0 := e60.trans (by first | rfl | decide)
      refine lv_iload hx hb dX8_shared_71 (lv_at hl 0 rfl) ?_
      refine lv_iadd hx hb dX8_shared_73 ?_
      refine lv_topi (fun x61 e61 => ?_)
      obtain rfl : x61 = 1 := e61.trans (by decide)
      refine lv_iconst (v := 1) hx hb dX8_shared_74 (by decide) ?_
      refine lv_isub hx hb dX8_shared_75 ?_
      refine lv_topi (fun x62 e62 => ?_)
      obtain rfl : x62 = 0 := e62.trans (by decide)
      refine lv_iload hx hb dX8_shared_76 (lv_at hl 0 rfl) ?_
      refine lv_idiv hx hb dX8_shared_78 (by decide) ?_
      refine lv_topi (fun x63 e63 => ?_)
      obtain rfl : x63 = 0 := e63.trans (by decide)
      refine lv_istore (lv' := [(6, .int 0), (5, .int 1), (4, .int 5), (3, .int 0), (0, .ref n), (1, .int 0), (2, .int i1)]) hx hb dX8_shared_79 hl (by decide) rfl (fun ls hl => ?_)
      refine lv_iload_n hx hb dX8_shared_81 rfl (lv_at hl 3 rfl) ?_
      refine lv_aload_n hx hb dX8_shared_82 rfl (lv_at hl 4 rfl) ?_
      refine va_get (D := (dC, dI)) (ci := 8) (v := .ref npo) (C := RX8) (T := TX8) (N := 53) hx hb hts hin8 hown hK hP 0 rfl rfl 41 (by decide) hw0 (fun _ h9 => h9) rfl dX8_shared_83 ?_
      refine lv_iload hx hb dX8_shared_86 (lv_at hl 2 rfl) ?_
      refine va_iald hx hb hK hP 1 0 rfl rfl (vin (by decide) (by decide)) dX8_shared_88 ?_
      refine lv_topi (fun x64 e64 => ?_)
      obtain rfl : x64 = 0 := e64.trans (by first | rfl | decide)
      refine lv_if_ne (tgt := 96) hx hb dX8_shared_89 (by decide) (fun c65 => absurd c65 (by decide)) (fun c65 => ?_)
      refine lv_iconst (v := 0) hx hb dX8_shared_92 (by decide) ?_
      refine lv_goto (tgt := 129) hx hb dX8_shared_93 (by decide) ?_
      refine lv_iadd hx hb dX8_shared_129 ?_
      refine lv_topi (fun x66 e66 => ?_)
      obtain rfl : x66 = 0 := e66.trans (by decide)
      refine lv_istore_n (lv' := [(3, .int 0), (6, .int 0), (5, .int 1), (4, .int 5), (0, .ref n), (1, .int 0), (2, .int i1)]) hx hb dX8_shared_130 rfl hl (by decide) rfl (fun ls hl => ?_)
      refine lv_iinc (v := 6) (lv' := [(4, .int 6), (3, .int 0), (6, .int 0), (5, .int 1), (0, .ref n), (1, .int 0), (2, .int i1)]) hx hb dX8_shared_131 hl (k := 3) rfl (by decide) (by decide) rfl (fun ls hl => ?_)
      refine lv_goto (tgt := 32) hx hb dX8_shared_134 (by decide) ?_
      refine lv_iload hx hb dX8_shared_32 (lv_at hl 0 rfl) ?_
      refine lv_bipush (v := 6) hx hb dX8_shared_34 (by decide) ?_
      refine lv_icmp_ge (tgt := 137) hx hb dX8_shared_36 (by decide) (fun c67 => ?_) (fun c67 => absurd c67 (by decide))
      refine lv_iload_n hx hb dX8_shared_137 rfl (lv_at hl 1 rfl) ?_
      have hP9 := mx_subP (wc := []) hP [] rfl
      have hD9 := hD.sub (ws' := []) [] (by decide) rfl
      exact W.iret (v := 0) hx hb hr (fun t ht hW => ⟨⟨0, (), rfl, (by first | exact Or.inl (⟨rfl, by omega⟩) | exact Or.inr (⟨rfl, by omega⟩)), by rw [ht]; exact hP9, hD9⟩, hS.F ht⟩) hS.2.2 dX8_shared_138
    · have hf3 : i1.toInt < 0 ∨ 13 < i1.toInt := hf3
      refine lv_if_eq (tgt := 25) hx hb dX8_shared_14 (by decide) (fun c68 => ?_) (fun c68 => absurd c68 (by decide))
      refine lv_iconst (v := (-1)) hx hb dX8_shared_25 (by decide) ?_
      have hP9 := mx_subP (wc := []) hP [] rfl
      have hD9 := hD.sub (ws' := []) [] (by decide) rfl
      exact W.iret (v := (-1)) hx hb hr (fun t ht hW => ⟨⟨(-1), (), rfl, (by first | exact Or.inl (⟨rfl, by omega⟩) | exact Or.inr (⟨rfl, by omega⟩)), by rw [ht]; exact hP9, hD9⟩, hS.F ht⟩) hS.2.2 dX8_shared_26
  · exfalso; have hf1 : (0 : Int) < 0 ∨ 999999 < (0 : Int) := hf1; omega
set_option maxHeartbeats 4000000 in
set_option maxRecDepth 100000 in
theorem c_X8_sharedN (l : Launch) (dC : Nat → ClassId) (dI : Nat → Nat → Nat) (cI cZ cK : ClassId) (tS aK aV : Nat) (n : Nat) (nwi : Nat) (nco : Nat) (nqu : Nat) (nmi : Nat) (nde : Nat) (nsa : Nat) (nsm : Nat) (npa : Nat) (nac : Nat) (nam : Nat) (naw : Nat) (ncs : Nat) (nbw : Nat) (ndc : Nat) (nmk : Nat) (npo : Nat) (nta : Nat) (npl : Nat) (nmm : Nat) (ncu : Nat) (nke : Nat) (nik : Nat) (i0 : Int32) (i1 : Int32) (sz : Nat) (hi0 : i0.toInt ≠ 0) : Ci l yX8_shared (wq yX8_shared cX8_shared 7 (some .int)) ({ frames := 3, cells := 0, slots := 0, locals := 70 }) dC dI cI cZ cK tS aK aV [.ref n, .int i0, .int i1] sz [(n, .inr (8, [.int 800, .int 0, .int 0, .int 0, .int 0, .int 0, .int 0, .ref nwi, .ref nco, .int 0, .ref nqu, .ref nmi, .ref nde, .ref nsa, .ref nsm, .int 0, .ref npa, .int 0, .ref nac, .ref nam, .ref naw, .int 0, .int 0, .int 0, .int 0, .int 0, .int 0, .int 0, .int 0, .int 0, .ref ncs, .ref nbw, .ref ndc, .ref nmk, .int 0, .int 0, .int 0, .int 0, .int 0, .int 0, .int 0, .ref npo, .int 0, .ref nta, .ref npl, .int 0, .int 0, .ref nmm, .ref ncu, .ref nke, .ref nik, .int 0, .int 0])), (npo, .inl (cI, 6, .inl (fun _ => 0)))] (fun (r : Int32) (_ : Unit) => (r = (-1) ∧ (0 ≤ i0.toInt ∧ i0.toInt ≤ 999999)) ∨ (r = (-2) ∧ (i0.toInt < 0 ∨ 999999 < i0.toInt))) (fun _ => []) := by
  refine Met.ofW (cc := cX8_shared) (maxL := 7) (ret := (some .int)) (by decide) rfl ?_
  intro p e s m args below meth c s₁ B hml hv
  obtain ⟨rfl, hsz, hP, hKx, hD0⟩ := hv
  have hx := B.exec
  have hb := B.bytes
  have hr := B.returns
  have hts := atoms_spec (ws := wq yX8_shared cX8_shared 7 (some .int)) B.pre
  have hown : s.vm.findClass RX8 = some m.cls := findClass_of_methodNamed B.named
  have hlocks := B.notSynchronized
  subst hsz
  have hD := hD0.self (sz := s.heap.size)
  generalize hAe : va_A [(n, .inr (8, [.int 800, .int 0, .int 0, .int 0, .int 0, .int 0, .int 0, .ref nwi, .ref nco, .int 0, .ref nqu, .ref nmi, .ref nde, .ref nsa, .ref nsm, .int 0, .ref npa, .int 0, .ref nac, .ref nam, .ref naw, .int 0, .int 0, .int 0, .int 0, .int 0, .int 0, .int 0, .int 0, .int 0, .ref ncs, .ref nbw, .ref ndc, .ref nmk, .int 0, .int 0, .int 0, .int 0, .int 0, .int 0, .int 0, .ref npo, .int 0, .ref nta, .ref npl, .int 0, .int 0, .ref nmm, .ref ncu, .ref nke, .ref nik, .int 0, .int 0])), (npo, .inl (cI, 6, .inl (fun _ => 0)))] s.heap.size = A at hD hKx ⊢
  have hA : ∀ q : Nat, s.heap.size ≤ q → A q := fun q h => by rw [← hAe]; exact Or.inr h
  have hS : va_S A s.heap s.heap [] := va_S.rf
  have hP : va_P (dC, dI) vwCl [(n, .inr (8, [.int 800, .int 0, .int 0, .int 0, .int 0, .int 0, .int 0, .ref nwi, .ref nco, .int 0, .ref nqu, .ref nmi, .ref nde, .ref nsa, .ref nsm, .int 0, .ref npa, .int 0, .ref nac, .ref nam, .ref naw, .int 0, .int 0, .int 0, .int 0, .int 0, .int 0, .int 0, .int 0, .int 0, .ref ncs, .ref nbw, .ref ndc, .ref nmk, .int 0, .int 0, .int 0, .int 0, .int 0, .int 0, .int 0, .ref npo, .int 0, .ref nta, .ref npl, .int 0, .int 0, .ref nmm, .ref ncu, .ref nke, .ref nik, .int 0, .int 0])), (npo, .inl (cI, 6, .inl (fun _ => 0)))] s.heap := hP
  have hl := lv_entry ([.ref n, .int i0, .int i1]) (n := 7) (Nat.le_of_ble_eq_true rfl)
  rw [lg_entry_eq]
  generalize (lg_sl ([.ref n, .int i0, .int i1]) ++ List.replicate (7 - (lg_sl ([.ref n, .int i0, .int i1])).length) Slot.unset).toArray = ls at hl ⊢
  have hl : lv_has ls 7 [(0, .ref n), (1, .int i0), (2, .int i1)] := hl
  have hK := hKx.1
  refine lv_iload_n hx hb dX8_shared_0 rfl (lv_at hl 1 rfl) ?_
  refine mx_i (wr := [(n, .inr (8, [.int 800, .int 0, .int 0, .int 0, .int 0, .int 0, .int 0, .ref nwi, .ref nco, .int 0, .ref nqu, .ref nmi, .ref nde, .ref nsa, .ref nsm, .int 0, .ref npa, .int 0, .ref nac, .ref nam, .ref naw, .int 0, .int 0, .int 0, .int 0, .int 0, .int 0, .int 0, .int 0, .int 0, .ref ncs, .ref nbw, .ref ndc, .ref nmk, .int 0, .int 0, .int 0, .int 0, .int 0, .int 0, .int 0, .ref npo, .int 0, .ref nta, .ref npl, .int 0, .int 0, .ref nmm, .ref ncu, .ref nke, .ref nik, .int 0, .int 0])), (npo, .inl (cI, 6, .inl (fun _ => 0)))]) (va_runS (As := [.int i0]) (rest := []) ⟨hx, hb, hml, hown, hts⟩ (c_X8_arePortions l dC dI cI cZ cK tS aK aV i0 s.heap.size) (va_cwS 1 hts (gw_s (fun _ h9 => List.mem_cons_of_mem _ h9) wm_481 wm_482 wm_385 wm_483) rfl rfl rfl (by decide +kernel) ⟨Nat.le_of_ble_eq_true rfl, Nat.le_of_ble_eq_true rfl⟩) (mx_preS hKx hP hD hS hA [] (by decide) rfl) rfl rfl hl.1 rfl (lv_room (Nat.le_of_ble_eq_true rfl)) dX8_shared_1 ⟨Nat.le_of_ble_eq_true rfl, Nat.le_of_ble_eq_true rfl⟩) hP hD hS hA [] [0, 1] rfl rfl (by decide) (by decide) (fun r1 u1 H locs hq1 hP hD hS => ?_)
  replace hP : va_P (dC, dI) vwCl [(n, .inr (8, [.int 800, .int 0, .int 0, .int 0, .int 0, .int 0, .int 0, .ref nwi, .ref nco, .int 0, .ref nqu, .ref nmi, .ref nde, .ref nsa, .ref nsm, .int 0, .ref npa, .int 0, .ref nac, .ref nam, .ref naw, .int 0, .int 0, .int 0, .int 0, .int 0, .int 0, .int 0, .int 0, .int 0, .ref ncs, .ref nbw, .ref ndc, .ref nmk, .int 0, .int 0, .int 0, .int 0, .int 0, .int 0, .int 0, .ref npo, .int 0, .ref nta, .ref npl, .int 0, .int 0, .ref nmm, .ref ncu, .ref nke, .ref nik, .int 0, .int 0])), (npo, .inl (cI, 6, .inl (fun _ => 0)))] H := hP
  replace hD : va_D A [(n, .inr (8, [.int 800, .int 0, .int 0, .int 0, .int 0, .int 0, .int 0, .ref nwi, .ref nco, .int 0, .ref nqu, .ref nmi, .ref nde, .ref nsa, .ref nsm, .int 0, .ref npa, .int 0, .ref nac, .ref nam, .ref naw, .int 0, .int 0, .int 0, .int 0, .int 0, .int 0, .int 0, .int 0, .int 0, .ref ncs, .ref nbw, .ref ndc, .ref nmk, .int 0, .int 0, .int 0, .int 0, .int 0, .int 0, .int 0, .ref npo, .int 0, .ref nta, .ref npl, .int 0, .int 0, .ref nmm, .ref ncu, .ref nke, .ref nik, .int 0, .int 0])), (npo, .inl (cI, 6, .inl (fun _ => 0)))] := hD
  rcases hq1 with ⟨rfl, hf1⟩ | ⟨rfl, hf1⟩
  · have hf1 : 0 ≤ i0.toInt ∧ i0.toInt ≤ 999999 := hf1
    refine lv_if_ne (tgt := 10) hx hb dX8_shared_4 (by decide) (fun c2 => ?_) (fun c2 => absurd c2 (by decide))
    refine lv_iload_n hx hb dX8_shared_10 rfl (lv_at hl 2 rfl) ?_
    refine mx_i (wr := [(n, .inr (8, [.int 800, .int 0, .int 0, .int 0, .int 0, .int 0, .int 0, .ref nwi, .ref nco, .int 0, .ref nqu, .ref nmi, .ref nde, .ref nsa, .ref nsm, .int 0, .ref npa, .int 0, .ref nac, .ref nam, .ref naw, .int 0, .int 0, .int 0, .int 0, .int 0, .int 0, .int 0, .int 0, .int 0, .ref ncs, .ref nbw, .ref ndc, .ref nmk, .int 0, .int 0, .int 0, .int 0, .int 0, .int 0, .int 0, .ref npo, .int 0, .ref nta, .ref npl, .int 0, .int 0, .ref nmm, .ref ncu, .ref nke, .ref nik, .int 0, .int 0])), (npo, .inl (cI, 6, .inl (fun _ => 0)))]) (va_runS (As := [.int i1]) (rest := []) ⟨hx, hb, hml, hown, hts⟩ (c_X8_isDay l dC dI cI cZ cK tS aK aV i1 H.size) (va_cwS 1 hts (gw_s (fun _ h9 => List.mem_cons_of_mem _ h9) wm_404 wm_405 wm_385 wm_406) rfl rfl rfl (by decide +kernel) ⟨Nat.le_of_ble_eq_true rfl, Nat.le_of_ble_eq_true rfl⟩) (mx_preS hKx hP hD hS hA [] (by decide) rfl) rfl rfl hl.1 rfl (lv_room (Nat.le_of_ble_eq_true rfl)) dX8_shared_11 ⟨Nat.le_of_ble_eq_true rfl, Nat.le_of_ble_eq_true rfl⟩) hP hD hS hA [] [0, 1] rfl rfl (by decide) (by decide) (fun r3 u3 H locs hq3 hP hD hS => ?_)
    replace hP : va_P (dC, dI) vwCl [(n, .inr (8, [.int 800, .int 0, .int 0, .int 0, .int 0, .int 0, .int 0, .ref nwi, .ref nco, .int 0, .ref nqu, .ref nmi, .ref nde, .ref nsa, .ref nsm, .int 0, .ref npa, .int 0, .ref nac, .ref nam, .ref naw, .int 0, .int 0, .int 0, .int 0, .int 0, .int 0, .int 0, .int 0, .int 0, .ref ncs, .ref nbw, .ref ndc, .ref nmk, .int 0, .int 0, .int 0, .int 0, .int 0, .int 0, .int 0, .ref npo, .int 0, .ref nta, .ref npl, .int 0, .int 0, .ref nmm, .ref ncu, .ref nke, .ref nik, .int 0, .int 0])), (npo, .inl (cI, 6, .inl (fun _ => 0)))] H := hP
    replace hD : va_D A [(n, .inr (8, [.int 800, .int 0, .int 0, .int 0, .int 0, .int 0, .int 0, .ref nwi, .ref nco, .int 0, .ref nqu, .ref nmi, .ref nde, .ref nsa, .ref nsm, .int 0, .ref npa, .int 0, .ref nac, .ref nam, .ref naw, .int 0, .int 0, .int 0, .int 0, .int 0, .int 0, .int 0, .int 0, .int 0, .ref ncs, .ref nbw, .ref ndc, .ref nmk, .int 0, .int 0, .int 0, .int 0, .int 0, .int 0, .int 0, .ref npo, .int 0, .ref nta, .ref npl, .int 0, .int 0, .ref nmm, .ref ncu, .ref nke, .ref nik, .int 0, .int 0])), (npo, .inl (cI, 6, .inl (fun _ => 0)))] := hD
    rcases hq3 with ⟨rfl, hf3⟩ | ⟨rfl, hf3⟩
    · have hf3 : 0 ≤ i1.toInt ∧ i1.toInt ≤ 13 := hf3
      refine lv_if_eq (tgt := 25) hx hb dX8_shared_14 (by decide) (fun c4 => absurd c4 (by decide)) (fun c4 => ?_)
      refine lv_aload_n hx hb dX8_shared_17 rfl (lv_at hl 0 rfl) ?_
      refine lv_iload_n hx hb dX8_shared_18 rfl (lv_at hl 1 rfl) ?_
      refine mx_i (wr := []) (va_runV (As := [.int i0]) (rest := []) ⟨hx, hb, hml, hown, hts⟩ (c_X8_layPortionsN l dC dI cI cZ cK tS aK aV n nwi nco nqu nmi nde nsa nsm npa nac nam naw ncs nbw ndc nmk npo nta npl nmm ncu nke nik i0 H.size (by first | omega | decide | assumption | trivial)) (cwV 1 hts (gw_v (fun _ h9 => List.mem_cons_of_mem _ h9) wm_484 wm_485 wm_486 wm_385 wm_487) rfl rfl rfl (by decide +kernel) ⟨Nat.le_of_ble_eq_true rfl, Nat.le_of_ble_eq_true rfl⟩) (mx_preV (C := RX8) (T := TX8) (N := 53) (ci := 8) hKx hP hD hS hA [0, 1] (by decide) rfl rfl rfl) rfl rfl hl.1 rfl (lv_room (Nat.le_of_ble_eq_true rfl)) dX8_shared_19 ⟨Nat.le_of_ble_eq_true rfl, Nat.le_of_ble_eq_true rfl⟩) hP hD hS hA [0, 1] [] rfl rfl (by decide) (by decide) (fun r5 u5 H locs hq5 hP hD hS => ?_)
      replace hP : va_P (dC, dI) vwCl [] H := hP
      replace hD : va_D A [] := hD
      obtain rfl : r5 = 0 := hq5
      refine lv_if_ne (tgt := 27) hx hb dX8_shared_22 (by decide) (fun c6 => absurd c6 (by decide)) (fun c6 => ?_)
      refine lv_iconst (v := (-1)) hx hb dX8_shared_25 (by decide) ?_
      have hP9 := mx_subP (wc := []) hP [] rfl
      have hD9 := hD.sub (ws' := []) [] (by decide) rfl
      exact W.iret (v := (-1)) hx hb hr (fun t ht hW => ⟨⟨(-1), (), rfl, (by first | exact Or.inl (⟨rfl, by omega⟩) | exact Or.inr (⟨rfl, by omega⟩)), by rw [ht]; exact hP9, hD9⟩, hS.F ht⟩) hS.2.2 dX8_shared_26
    · have hf3 : i1.toInt < 0 ∨ 13 < i1.toInt := hf3
      refine lv_if_eq (tgt := 25) hx hb dX8_shared_14 (by decide) (fun c7 => ?_) (fun c7 => absurd c7 (by decide))
      refine lv_iconst (v := (-1)) hx hb dX8_shared_25 (by decide) ?_
      have hP9 := mx_subP (wc := []) hP [] rfl
      have hD9 := hD.sub (ws' := []) [] (by decide) rfl
      exact W.iret (v := (-1)) hx hb hr (fun t ht hW => ⟨⟨(-1), (), rfl, (by first | exact Or.inl (⟨rfl, by omega⟩) | exact Or.inr (⟨rfl, by omega⟩)), by rw [ht]; exact hP9, hD9⟩, hS.F ht⟩) hS.2.2 dX8_shared_26
  · have hf1 : i0.toInt < 0 ∨ 999999 < i0.toInt := hf1
    refine lv_if_ne (tgt := 10) hx hb dX8_shared_4 (by decide) (fun c8 => absurd c8 (by decide)) (fun c8 => ?_)
    refine lv_bipush (v := (-2)) hx hb dX8_shared_7 (by decide) ?_
    have hP9 := mx_subP (wc := []) hP [] rfl
    have hD9 := hD.sub (ws' := []) [] (by decide) rfl
    exact W.iret (v := (-2)) hx hb hr (fun t ht hW => ⟨⟨(-2), (), rfl, (by first | exact Or.inl (⟨rfl, by omega⟩) | exact Or.inr (⟨rfl, by omega⟩)), by rw [ht]; exact hP9, hD9⟩, hS.F ht⟩) hS.2.2 dX8_shared_9
set_option maxHeartbeats 4000000 in
set_option maxRecDepth 100000 in
theorem c_X8_leastWind (l : Launch) (dC : Nat → ClassId) (dI : Nat → Nat → Nat) (cI cZ cK : ClassId) (tS aK aV : Nat) (n : Nat) (nwi : Nat) (nco : Nat) (nqu : Nat) (nmi : Nat) (nde : Nat) (nsa : Nat) (nsm : Nat) (npa : Nat) (nac : Nat) (nam : Nat) (naw : Nat) (ncs : Nat) (nbw : Nat) (ndc : Nat) (nmk : Nat) (npo : Nat) (nta : Nat) (npl : Nat) (nmm : Nat) (ncu : Nat) (nke : Nat) (nik : Nat) (vleft : Int32) (vmetres : Int32) (vshut : Int32) (vshield : Int32) (vbagged : Int32) (vwarmed : Int32) (vmeals : Int32) (vsights : Int32) (vpadMany : Int32) (vacts : Int32) (vgusty : Int32) (vleakAct : Int32) (vleakMuch : Int32) (vendOfCan : Int32) (vbadAct : Int32) (vbadWhy : Int32) (vburnt : Int32) (vboiled : Int32) (vhadLeft : Int32) (vhadToday : Int32) (vhadBagged : Int32) (vhadWarmed : Int32) (vleaves : Int32) (vdayThen : Int32) (vcoldThen : Int32) (vportionMany : Int32) (vleakMany : Int32) (vleakActs : Int32) (vkeptAt : Int32) (visWriting : Int32) (i0 : Int32) (sz : Nat) (hi0 : 0 ≤ i0.toInt ∧ i0.toInt ≤ 13) : Ci l yX8_leastWind (wq yX8_leastWind cX8_leastWind 4 (some .int)) ({ frames := 0, cells := 0, slots := 0, locals := 0 }) dC dI cI cZ cK tS aK aV [.ref n, .int i0] sz [(n, .inr (8, [.int vleft, .int vmetres, .int vshut, .int vshield, .int 0, .int vbagged, .int vwarmed, .ref nwi, .ref nco, .int vmeals, .ref nqu, .ref nmi, .ref nde, .ref nsa, .ref nsm, .int vsights, .ref npa, .int vpadMany, .ref nac, .ref nam, .ref naw, .int vacts, .int vgusty, .int vleakAct, .int vleakMuch, .int vendOfCan, .int vbadAct, .int vbadWhy, .int vburnt, .int vboiled, .ref ncs, .ref nbw, .ref ndc, .ref nmk, .int vhadLeft, .int vhadToday, .int vhadBagged, .int vhadWarmed, .int vleaves, .int vdayThen, .int vcoldThen, .ref npo, .int vportionMany, .ref nta, .ref npl, .int vleakMany, .int vleakActs, .ref nmm, .ref ncu, .ref nke, .ref nik, .int vkeptAt, .int visWriting])), (nwi, .inl (cI, 14, .inl (fun _ => 0)))] (fun (r : Int32) (_ : Unit) => r = 0) (fun _ => [(n, .inr (8, [.int vleft, .int vmetres, .int vshut, .int vshield, .int 0, .int vbagged, .int vwarmed, .ref nwi, .ref nco, .int vmeals, .ref nqu, .ref nmi, .ref nde, .ref nsa, .ref nsm, .int vsights, .ref npa, .int vpadMany, .ref nac, .ref nam, .ref naw, .int vacts, .int vgusty, .int vleakAct, .int vleakMuch, .int vendOfCan, .int vbadAct, .int vbadWhy, .int vburnt, .int vboiled, .ref ncs, .ref nbw, .ref ndc, .ref nmk, .int vhadLeft, .int vhadToday, .int vhadBagged, .int vhadWarmed, .int vleaves, .int vdayThen, .int vcoldThen, .ref npo, .int vportionMany, .ref nta, .ref npl, .int vleakMany, .int vleakActs, .ref nmm, .ref ncu, .ref nke, .ref nik, .int vkeptAt, .int visWriting])), (nwi, .inl (cI, 14, .inl (fun _ => 0)))]) := by
  refine Met.ofW (cc := cX8_leastWind) (maxL := 4) (ret := (some .int)) (by decide) rfl ?_
  intro p e s m args below meth c s₁ B hml hv
  obtain ⟨rfl, hsz, hP, hKx, hD0⟩ := hv
  have hx := B.exec
  have hb := B.bytes
  have hr := B.returns
  have hts := atoms_spec (ws := wq yX8_leastWind cX8_leastWind 4 (some .int)) B.pre
  have hown : s.vm.findClass RX8 = some m.cls := findClass_of_methodNamed B.named
  have hlocks := B.notSynchronized
  subst hsz
  have hD := hD0.self (sz := s.heap.size)
  generalize hAe : va_A [(n, .inr (8, [.int vleft, .int vmetres, .int vshut, .int vshield, .int 0, .int vbagged, .int vwarmed, .ref nwi, .ref nco, .int vmeals, .ref nqu, .ref nmi, .ref nde, .ref nsa, .ref nsm, .int vsights, .ref npa, .int vpadMany, .ref nac, .ref nam, .ref naw, .int vacts, .int vgusty, .int vleakAct, .int vleakMuch, .int vendOfCan, .int vbadAct, .int vbadWhy, .int vburnt, .int vboiled, .ref ncs, .ref nbw, .ref ndc, .ref nmk, .int vhadLeft, .int vhadToday, .int vhadBagged, .int vhadWarmed, .int vleaves, .int vdayThen, .int vcoldThen, .ref npo, .int vportionMany, .ref nta, .ref npl, .int vleakMany, .int vleakActs, .ref nmm, .ref ncu, .ref nke, .ref nik, .int vkeptAt, .int visWriting])), (nwi, .inl (cI, 14, .inl (fun _ => 0)))] s.heap.size = A at hD hKx ⊢
  have hA : ∀ q : Nat, s.heap.size ≤ q → A q := fun q h => by rw [← hAe]; exact Or.inr h
  have hS : va_S A s.heap s.heap [] := va_S.rf
  have hP : va_P (dC, dI) vwCl [(n, .inr (8, [.int vleft, .int vmetres, .int vshut, .int vshield, .int 0, .int vbagged, .int vwarmed, .ref nwi, .ref nco, .int vmeals, .ref nqu, .ref nmi, .ref nde, .ref nsa, .ref nsm, .int vsights, .ref npa, .int vpadMany, .ref nac, .ref nam, .ref naw, .int vacts, .int vgusty, .int vleakAct, .int vleakMuch, .int vendOfCan, .int vbadAct, .int vbadWhy, .int vburnt, .int vboiled, .ref ncs, .ref nbw, .ref ndc, .ref nmk, .int vhadLeft, .int vhadToday, .int vhadBagged, .int vhadWarmed, .int vleaves, .int vdayThen, .int vcoldThen, .ref npo, .int vportionMany, .ref nta, .ref npl, .int vleakMany, .int vleakActs, .ref nmm, .ref ncu, .ref nke, .ref nik, .int vkeptAt, .int visWriting])), (nwi, .inl (cI, 14, .inl (fun _ => 0)))] s.heap := hP
  have hl := lv_entry ([.ref n, .int i0]) (n := 4) (Nat.le_of_ble_eq_true rfl)
  rw [lg_entry_eq]
  generalize (lg_sl ([.ref n, .int i0]) ++ List.replicate (4 - (lg_sl ([.ref n, .int i0])).length) Slot.unset).toArray = ls at hl ⊢
  have hl : lv_has ls 4 [(0, .ref n), (1, .int i0)] := hl
  have hK := hKx.1
  have hin8 := fun w9 h9 => List.mem_cons_of_mem (Cond.code yX8_leastWind cX8_leastWind 4 (some .int)) (inlX8 w9 h9)
  have hw0 := hts (.fieldLink RX8 101 "OneCanModel" "today" "I") (List.mem_cons_of_mem _ wm_393)
  have hw1 := hts (.fieldLink RX8 7 "OneCanModel" "wind" "[I") (List.mem_cons_of_mem _ wm_407)
  refine lv_iconst (v := 4) hx hb dX8_leastWind_0 (by decide) ?_
  refine lv_istore_n (lv' := [(2, .int 4), (0, .ref n), (1, .int i0)]) hx hb dX8_leastWind_1 rfl hl (by decide) rfl (fun ls hl => ?_)
  refine lv_aload_n hx hb dX8_leastWind_2 rfl (lv_at hl 1 rfl) ?_
  refine va_get (D := (dC, dI)) (ci := 8) (v := .int 0) (C := RX8) (T := TX8) (N := 53) hx hb hts hin8 hown hK hP 0 rfl rfl 4 (by decide) hw0 (fun _ h9 => h9) rfl dX8_leastWind_3 ?_
  refine lv_istore_n (lv' := [(3, .int 0), (2, .int 4), (0, .ref n), (1, .int i0)]) hx hb dX8_leastWind_6 rfl hl (by decide) rfl (fun ls hl => ?_)
  refine lv_iload_n hx hb dX8_leastWind_7 rfl (lv_at hl 0 rfl) ?_
  refine lv_iload_n hx hb dX8_leastWind_8 rfl (lv_at hl 3 rfl) ?_
  refine lv_icmp_gt (tgt := 39) hx hb dX8_leastWind_9 (by decide) (fun c1 => by exfalso; have t1 : i0.toInt < (0 : Int) := (tlt c1); omega) (fun c1 => ?_)
  refine lv_aload_n hx hb dX8_leastWind_12 rfl (lv_at hl 2 rfl) ?_
  refine va_get (D := (dC, dI)) (ci := 8) (v := .ref nwi) (C := RX8) (T := TX8) (N := 53) hx hb hts hin8 hown hK hP 0 rfl rfl 7 (by decide) hw1 (fun _ h9 => h9) rfl dX8_leastWind_13 ?_
  refine lv_iload_n hx hb dX8_leastWind_16 rfl (lv_at hl 0 rfl) ?_
  refine va_iald hx hb hK hP 1 0 rfl rfl (vin (by decide) (by decide)) dX8_leastWind_17 ?_
  refine lv_topi (fun x2 e2 => ?_)
  obtain rfl : x2 = 0 := e2.trans (by first | rfl | decide)
  refine lv_iload_n hx hb dX8_leastWind_18 rfl (lv_at hl 1 rfl) ?_
  refine lv_icmp_ge (tgt := 31) hx hb dX8_leastWind_19 (by decide) (fun c3 => absurd c3 (by decide)) (fun c3 => ?_)
  refine lv_aload_n hx hb dX8_leastWind_22 rfl (lv_at hl 2 rfl) ?_
  refine va_get (D := (dC, dI)) (ci := 8) (v := .ref nwi) (C := RX8) (T := TX8) (N := 53) hx hb hts hin8 hown hK hP 0 rfl rfl 7 (by decide) hw1 (fun _ h9 => h9) rfl dX8_leastWind_23 ?_
  refine lv_iload_n hx hb dX8_leastWind_26 rfl (lv_at hl 0 rfl) ?_
  refine va_iald hx hb hK hP 1 0 rfl rfl (vin (by decide) (by decide)) dX8_leastWind_27 ?_
  refine lv_topi (fun x4 e4 => ?_)
  obtain rfl : x4 = 0 := e4.trans (by first | rfl | decide)
  refine lv_goto (tgt := 32) hx hb dX8_leastWind_28 (by decide) ?_
  refine lv_istore_n (lv' := [(2, .int 0), (3, .int 0), (0, .ref n), (1, .int i0)]) hx hb dX8_leastWind_32 rfl hl (by decide) rfl (fun ls hl => ?_)
  refine lv_iinc (v := 1) (lv' := [(3, .int 1), (2, .int 0), (0, .ref n), (1, .int i0)]) hx hb dX8_leastWind_33 hl (k := 1) rfl (by decide) (by decide) rfl (fun ls hl => ?_)
  refine lv_goto (tgt := 7) hx hb dX8_leastWind_36 (by decide) ?_
  have z6 : (1 : Int32).toInt = 1 := rfl
  have hl0 := hl
  clear hl
  obtain ⟨y3, ex, hl⟩ : ∃ (y3 : Int32), (1 ≤ y3.toInt ∧ y3.toInt ≤ i0.toInt + 1) ∧ lv_has ls 4 [(3, .int y3), (2, .int 0), (0, .ref n), (1, .int i0)] := ⟨1, by omega, hl0⟩
  clear hl0
  obtain ⟨n5, hn⟩ : ∃ n : Nat, (n : Int) = i0.toInt + 1 - y3.toInt := ⟨(i0.toInt + 1 - y3.toInt).toNat, by omega⟩
  induction n5 generalizing y3  ls with
  | zero =>
    skip
    refine lv_iload_n hx hb dX8_leastWind_7 rfl (lv_at hl 0 rfl) ?_
    refine lv_iload_n hx hb dX8_leastWind_8 rfl (lv_at hl 3 rfl) ?_
    refine lv_icmp_gt (tgt := 39) hx hb dX8_leastWind_9 (by decide) (fun c7 => ?_) (fun c7 => by exfalso; have t7 : y3.toInt ≤ i0.toInt := (tnlt c7); omega)
    refine lv_iload_n hx hb dX8_leastWind_39 rfl (lv_at hl 1 rfl) ?_
    have hP9 := mx_subP (wc := [(n, .inr (8, [.int vleft, .int vmetres, .int vshut, .int vshield, .int 0, .int vbagged, .int vwarmed, .ref nwi, .ref nco, .int vmeals, .ref nqu, .ref nmi, .ref nde, .ref nsa, .ref nsm, .int vsights, .ref npa, .int vpadMany, .ref nac, .ref nam, .ref naw, .int vacts, .int vgusty, .int vleakAct, .int vleakMuch, .int vendOfCan, .int vbadAct, .int vbadWhy, .int vburnt, .int vboiled, .ref ncs, .ref nbw, .ref ndc, .ref nmk, .int vhadLeft, .int vhadToday, .int vhadBagged, .int vhadWarmed, .int vleaves, .int vdayThen, .int vcoldThen, .ref npo, .int vportionMany, .ref nta, .ref npl, .int vleakMany, .int vleakActs, .ref nmm, .ref ncu, .ref nke, .ref nik, .int vkeptAt, .int visWriting])), (nwi, .inl (cI, 14, .inl (fun _ => 0)))]) hP [0, 1] rfl
    have hD9 := hD.sub (ws' := [(n, .inr (8, [.int vleft, .int vmetres, .int vshut, .int vshield, .int 0, .int vbagged, .int vwarmed, .ref nwi, .ref nco, .int vmeals, .ref nqu, .ref nmi, .ref nde, .ref nsa, .ref nsm, .int vsights, .ref npa, .int vpadMany, .ref nac, .ref nam, .ref naw, .int vacts, .int vgusty, .int vleakAct, .int vleakMuch, .int vendOfCan, .int vbadAct, .int vbadWhy, .int vburnt, .int vboiled, .ref ncs, .ref nbw, .ref ndc, .ref nmk, .int vhadLeft, .int vhadToday, .int vhadBagged, .int vhadWarmed, .int vleaves, .int vdayThen, .int vcoldThen, .ref npo, .int vportionMany, .ref nta, .ref npl, .int vleakMany, .int vleakActs, .ref nmm, .ref ncu, .ref nke, .ref nik, .int vkeptAt, .int visWriting])), (nwi, .inl (cI, 14, .inl (fun _ => 0)))]) [0, 1] (by decide) rfl
    exact W.iret (v := 0) hx hb hr (fun t ht hW => ⟨⟨0, (), rfl, rfl, by rw [ht]; exact hP9, hD9⟩, hS.F ht⟩) hS.2.2 dX8_leastWind_40
  | succ n5 ih =>
    skip
    refine lv_iload_n hx hb dX8_leastWind_7 rfl (lv_at hl 0 rfl) ?_
    refine lv_iload_n hx hb dX8_leastWind_8 rfl (lv_at hl 3 rfl) ?_
    refine lv_icmp_gt (tgt := 39) hx hb dX8_leastWind_9 (by decide) (fun c8 => by exfalso; have t8 : i0.toInt < y3.toInt := (tlt c8); omega) (fun c8 => ?_)
    refine lv_aload_n hx hb dX8_leastWind_12 rfl (lv_at hl 2 rfl) ?_
    refine va_get (D := (dC, dI)) (ci := 8) (v := .ref nwi) (C := RX8) (T := TX8) (N := 53) hx hb hts hin8 hown hK hP 0 rfl rfl 7 (by decide) hw1 (fun _ h9 => h9) rfl dX8_leastWind_13 ?_
    refine lv_iload_n hx hb dX8_leastWind_16 rfl (lv_at hl 0 rfl) ?_
    refine va_iald hx hb hK hP 1 0 rfl rfl (vin (by omega) (by omega)) dX8_leastWind_17 ?_
    refine lv_topi (fun x9 e9 => ?_)
    obtain rfl : x9 = 0 := e9.trans rfl
    refine lv_iload_n hx hb dX8_leastWind_18 rfl (lv_at hl 1 rfl) ?_
    refine lv_icmp_ge (tgt := 31) hx hb dX8_leastWind_19 (by decide) (fun c10 => ?_) (fun c10 => absurd c10 (by decide))
    refine lv_iload_n hx hb dX8_leastWind_31 rfl (lv_at hl 1 rfl) ?_
    refine lv_istore_n (lv' := [(2, .int 0), (3, .int y3), (0, .ref n), (1, .int i0)]) hx hb dX8_leastWind_32 rfl hl (by decide) rfl (fun ls hl => ?_)
    obtain ⟨x11, e11⟩ : ∃ y : Int32, y = y3 + Int32.ofInt 1 := ⟨_, rfl⟩
    refine lv_iinc (v := x11) (lv' := [(3, .int x11), (2, .int 0), (0, .ref n), (1, .int i0)]) hx hb dX8_leastWind_33 hl (k := 1) rfl e11.symm (by decide) rfl (fun ls hl => ?_)
    have f11 : x11.toInt = y3.toInt + 1 := by rw [e11]; exact tinc (by decide) (by omega) (by omega)
    refine lv_goto (tgt := 7) hx hb dX8_leastWind_36 (by decide) ?_
    exact ih (ls := ls) (y3 := x11) (by omega) (show lv_has ls 4 [(3, .int x11), (2, .int 0), (0, .ref n), (1, .int i0)] from lv_sub hl [0, 1, 2, 3] rfl) (by omega)
set_option maxHeartbeats 4000000 in
set_option maxRecDepth 100000 in
theorem c_X8_isHot (l : Launch) (dC : Nat → ClassId) (dI : Nat → Nat → Nat) (cI cZ cK : ClassId) (tS aK aV : Nat) (n : Nat) (nwi : Nat) (nco : Nat) (nqu : Nat) (nmi : Nat) (nde : Nat) (nsa : Nat) (nsm : Nat) (npa : Nat) (nac : Nat) (nam : Nat) (naw : Nat) (ncs : Nat) (nbw : Nat) (ndc : Nat) (nmk : Nat) (npo : Nat) (nta : Nat) (npl : Nat) (nmm : Nat) (ncu : Nat) (nke : Nat) (nik : Nat) (vleft : Int32) (vshut : Int32) (vshield : Int32) (vtoday : Int32) (vbagged : Int32) (vwarmed : Int32) (vmeals : Int32) (vsights : Int32) (vpadMany : Int32) (vacts : Int32) (vgusty : Int32) (vleakAct : Int32) (vleakMuch : Int32) (vendOfCan : Int32) (vbadAct : Int32) (vbadWhy : Int32) (vburnt : Int32) (vboiled : Int32) (vhadLeft : Int32) (vhadToday : Int32) (vhadBagged : Int32) (vhadWarmed : Int32) (vleaves : Int32) (vdayThen : Int32) (vcoldThen : Int32) (vportionMany : Int32) (vleakMany : Int32) (vleakActs : Int32) (vkeptAt : Int32) (visWriting : Int32) (i0 : Int32) (sz : Nat) (hi0 : 0 ≤ i0.toInt ∧ i0.toInt ≤ 5) : Ci l yX8_isHot (wq yX8_isHot cX8_isHot 2 (some .boolean)) ({ frames := 1, cells := 0, slots := 0, locals := 20 }) dC dI cI cZ cK tS aK aV [.ref n, .int i0] sz [(n, .inr (8, [.int vleft, .int 0, .int vshut, .int vshield, .int vtoday, .int vbagged, .int vwarmed, .ref nwi, .ref nco, .int vmeals, .ref nqu, .ref nmi, .ref nde, .ref nsa, .ref nsm, .int vsights, .ref npa, .int vpadMany, .ref nac, .ref nam, .ref naw, .int vacts, .int vgusty, .int vleakAct, .int vleakMuch, .int vendOfCan, .int vbadAct, .int vbadWhy, .int vburnt, .int vboiled, .ref ncs, .ref nbw, .ref ndc, .ref nmk, .int vhadLeft, .int vhadToday, .int vhadBagged, .int vhadWarmed, .int vleaves, .int vdayThen, .int vcoldThen, .ref npo, .int vportionMany, .ref nta, .ref npl, .int vleakMany, .int vleakActs, .ref nmm, .ref ncu, .ref nke, .ref nik, .int vkeptAt, .int visWriting])), (nde, .inl (cI, 6, .inl (fun _ => 0)))] (fun (r : Int32) (_ : Unit) => r = 1) (fun _ => [(n, .inr (8, [.int vleft, .int 0, .int vshut, .int vshield, .int vtoday, .int vbagged, .int vwarmed, .ref nwi, .ref nco, .int vmeals, .ref nqu, .ref nmi, .ref nde, .ref nsa, .ref nsm, .int vsights, .ref npa, .int vpadMany, .ref nac, .ref nam, .ref naw, .int vacts, .int vgusty, .int vleakAct, .int vleakMuch, .int vendOfCan, .int vbadAct, .int vbadWhy, .int vburnt, .int vboiled, .ref ncs, .ref nbw, .ref ndc, .ref nmk, .int vhadLeft, .int vhadToday, .int vhadBagged, .int vhadWarmed, .int vleaves, .int vdayThen, .int vcoldThen, .ref npo, .int vportionMany, .ref nta, .ref npl, .int vleakMany, .int vleakActs, .ref nmm, .ref ncu, .ref nke, .ref nik, .int vkeptAt, .int visWriting])), (nde, .inl (cI, 6, .inl (fun _ => 0)))]) := by
  refine Met.ofW (cc := cX8_isHot) (maxL := 2) (ret := (some .boolean)) (by decide) rfl ?_
  intro p e s m args below meth c s₁ B hml hv
  obtain ⟨rfl, hsz, hP, hKx, hD0⟩ := hv
  have hx := B.exec
  have hb := B.bytes
  have hr := B.returns
  have hts := atoms_spec (ws := wq yX8_isHot cX8_isHot 2 (some .boolean)) B.pre
  have hown : s.vm.findClass RX8 = some m.cls := findClass_of_methodNamed B.named
  have hlocks := B.notSynchronized
  subst hsz
  have hD := hD0.self (sz := s.heap.size)
  generalize hAe : va_A [(n, .inr (8, [.int vleft, .int 0, .int vshut, .int vshield, .int vtoday, .int vbagged, .int vwarmed, .ref nwi, .ref nco, .int vmeals, .ref nqu, .ref nmi, .ref nde, .ref nsa, .ref nsm, .int vsights, .ref npa, .int vpadMany, .ref nac, .ref nam, .ref naw, .int vacts, .int vgusty, .int vleakAct, .int vleakMuch, .int vendOfCan, .int vbadAct, .int vbadWhy, .int vburnt, .int vboiled, .ref ncs, .ref nbw, .ref ndc, .ref nmk, .int vhadLeft, .int vhadToday, .int vhadBagged, .int vhadWarmed, .int vleaves, .int vdayThen, .int vcoldThen, .ref npo, .int vportionMany, .ref nta, .ref npl, .int vleakMany, .int vleakActs, .ref nmm, .ref ncu, .ref nke, .ref nik, .int vkeptAt, .int visWriting])), (nde, .inl (cI, 6, .inl (fun _ => 0)))] s.heap.size = A at hD hKx ⊢
  have hA : ∀ q : Nat, s.heap.size ≤ q → A q := fun q h => by rw [← hAe]; exact Or.inr h
  have hS : va_S A s.heap s.heap [] := va_S.rf
  have hP : va_P (dC, dI) vwCl [(n, .inr (8, [.int vleft, .int 0, .int vshut, .int vshield, .int vtoday, .int vbagged, .int vwarmed, .ref nwi, .ref nco, .int vmeals, .ref nqu, .ref nmi, .ref nde, .ref nsa, .ref nsm, .int vsights, .ref npa, .int vpadMany, .ref nac, .ref nam, .ref naw, .int vacts, .int vgusty, .int vleakAct, .int vleakMuch, .int vendOfCan, .int vbadAct, .int vbadWhy, .int vburnt, .int vboiled, .ref ncs, .ref nbw, .ref ndc, .ref nmk, .int vhadLeft, .int vhadToday, .int vhadBagged, .int vhadWarmed, .int vleaves, .int vdayThen, .int vcoldThen, .ref npo, .int vportionMany, .ref nta, .ref npl, .int vleakMany, .int vleakActs, .ref nmm, .ref ncu, .ref nke, .ref nik, .int vkeptAt, .int visWriting])), (nde, .inl (cI, 6, .inl (fun _ => 0)))] s.heap := hP
  have hl := lv_entry ([.ref n, .int i0]) (n := 2) (Nat.le_of_ble_eq_true rfl)
  rw [lg_entry_eq]
  generalize (lg_sl ([.ref n, .int i0]) ++ List.replicate (2 - (lg_sl ([.ref n, .int i0])).length) Slot.unset).toArray = ls at hl ⊢
  have hl : lv_has ls 2 [(0, .ref n), (1, .int i0)] := hl
  have hK := hKx.1
  have hin8 := fun w9 h9 => List.mem_cons_of_mem (Cond.code yX8_isHot cX8_isHot 2 (some .boolean)) (inlX8 w9 h9)
  have hw0 := hts (.fieldLink RX8 22 "OneCanModel" "degrees" "[I") (List.mem_cons_of_mem _ wm_413)
  refine lv_aload_n hx hb dX8_isHot_0 rfl (lv_at hl 0 rfl) ?_
  refine va_get (D := (dC, dI)) (ci := 8) (v := .ref nde) (C := RX8) (T := TX8) (N := 53) hx hb hts hin8 hown hK hP 0 rfl rfl 12 (by decide) hw0 (fun _ h9 => h9) rfl dX8_isHot_1 ?_
  refine lv_iload_n hx hb dX8_isHot_4 rfl (lv_at hl 1 rfl) ?_
  refine va_iald hx hb hK hP 1 0 rfl rfl (vin (by omega) (by omega)) dX8_isHot_5 ?_
  refine lv_topi (fun x1 e1 => ?_)
  obtain rfl : x1 = 0 := e1.trans rfl
  refine lv_aload_n hx hb dX8_isHot_6 rfl (lv_at hl 0 rfl) ?_
  refine mx_i (wr := [(nde, .inl (cI, 6, .inl (fun _ => 0)))]) (va_runV (As := []) (rest := [.int 0]) ⟨hx, hb, hml, hown, hts⟩ (c_X8_boilsAt l dC dI cI cZ cK tS aK aV n nwi nco nqu nmi nde nsa nsm npa nac nam naw ncs nbw ndc nmk npo nta npl nmm ncu nke nik vleft vshut vshield vtoday vbagged vwarmed vmeals vsights vpadMany vacts vgusty vleakAct vleakMuch vendOfCan vbadAct vbadWhy vburnt vboiled vhadLeft vhadToday vhadBagged vhadWarmed vleaves vdayThen vcoldThen vportionMany vleakMany vleakActs vkeptAt visWriting s.heap.size) (cwV 0 hts (gw_v (fun _ h9 => List.mem_cons_of_mem _ h9) wm_434 wm_435 wm_436 wm_385 wm_437) rfl rfl rfl (by decide +kernel) ⟨Nat.le_of_ble_eq_true rfl, Nat.le_of_ble_eq_true rfl⟩) (mx_preV (C := RX8) (T := TX8) (N := 53) (ci := 8) hKx hP hD hS hA [0] (by decide) rfl rfl rfl) rfl rfl hl.1 rfl (lv_room (Nat.le_of_ble_eq_true rfl)) dX8_isHot_7 ⟨Nat.le_of_ble_eq_true rfl, Nat.le_of_ble_eq_true rfl⟩) hP hD hS hA [0] [1] rfl rfl (by decide) (by decide) (fun r2 u2 H locs hq2 hP hD hS => ?_)
  replace hP : va_P (dC, dI) vwCl [(nde, .inl (cI, 6, .inl (fun _ => 0))), (n, .inr (8, [.int vleft, .int 0, .int vshut, .int vshield, .int vtoday, .int vbagged, .int vwarmed, .ref nwi, .ref nco, .int vmeals, .ref nqu, .ref nmi, .ref nde, .ref nsa, .ref nsm, .int vsights, .ref npa, .int vpadMany, .ref nac, .ref nam, .ref naw, .int vacts, .int vgusty, .int vleakAct, .int vleakMuch, .int vendOfCan, .int vbadAct, .int vbadWhy, .int vburnt, .int vboiled, .ref ncs, .ref nbw, .ref ndc, .ref nmk, .int vhadLeft, .int vhadToday, .int vhadBagged, .int vhadWarmed, .int vleaves, .int vdayThen, .int vcoldThen, .ref npo, .int vportionMany, .ref nta, .ref npl, .int vleakMany, .int vleakActs, .ref nmm, .ref ncu, .ref nke, .ref nik, .int vkeptAt, .int visWriting]))] H := hP
  replace hD : va_D A [(nde, .inl (cI, 6, .inl (fun _ => 0))), (n, .inr (8, [.int vleft, .int 0, .int vshut, .int vshield, .int vtoday, .int vbagged, .int vwarmed, .ref nwi, .ref nco, .int vmeals, .ref nqu, .ref nmi, .ref nde, .ref nsa, .ref nsm, .int vsights, .ref npa, .int vpadMany, .ref nac, .ref nam, .ref naw, .int vacts, .int vgusty, .int vleakAct, .int vleakMuch, .int vendOfCan, .int vbadAct, .int vbadWhy, .int vburnt, .int vboiled, .ref ncs, .ref nbw, .ref ndc, .ref nmk, .int vhadLeft, .int vhadToday, .int vhadBagged, .int vhadWarmed, .int vleaves, .int vdayThen, .int vcoldThen, .ref npo, .int vportionMany, .ref nta, .ref npl, .int vleakMany, .int vleakActs, .ref nmm, .ref ncu, .ref nke, .ref nik, .int vkeptAt, .int visWriting]))] := hD
  obtain rfl : r2 = 100 := hq2
  refine lv_icmp_gt (tgt := 17) hx hb dX8_isHot_10 (by decide) (fun c3 => absurd c3 (by decide)) (fun c3 => ?_)
  refine lv_iconst (v := 1) hx hb dX8_isHot_13 (by decide) ?_
  refine lv_goto (tgt := 18) hx hb dX8_isHot_14 (by decide) ?_
  have hP9 := mx_subP (wc := [(n, .inr (8, [.int vleft, .int 0, .int vshut, .int vshield, .int vtoday, .int vbagged, .int vwarmed, .ref nwi, .ref nco, .int vmeals, .ref nqu, .ref nmi, .ref nde, .ref nsa, .ref nsm, .int vsights, .ref npa, .int vpadMany, .ref nac, .ref nam, .ref naw, .int vacts, .int vgusty, .int vleakAct, .int vleakMuch, .int vendOfCan, .int vbadAct, .int vbadWhy, .int vburnt, .int vboiled, .ref ncs, .ref nbw, .ref ndc, .ref nmk, .int vhadLeft, .int vhadToday, .int vhadBagged, .int vhadWarmed, .int vleaves, .int vdayThen, .int vcoldThen, .ref npo, .int vportionMany, .ref nta, .ref npl, .int vleakMany, .int vleakActs, .ref nmm, .ref ncu, .ref nke, .ref nik, .int vkeptAt, .int visWriting])), (nde, .inl (cI, 6, .inl (fun _ => 0)))]) hP [1, 0] rfl
  have hD9 := hD.sub (ws' := [(n, .inr (8, [.int vleft, .int 0, .int vshut, .int vshield, .int vtoday, .int vbagged, .int vwarmed, .ref nwi, .ref nco, .int vmeals, .ref nqu, .ref nmi, .ref nde, .ref nsa, .ref nsm, .int vsights, .ref npa, .int vpadMany, .ref nac, .ref nam, .ref naw, .int vacts, .int vgusty, .int vleakAct, .int vleakMuch, .int vendOfCan, .int vbadAct, .int vbadWhy, .int vburnt, .int vboiled, .ref ncs, .ref nbw, .ref ndc, .ref nmk, .int vhadLeft, .int vhadToday, .int vhadBagged, .int vhadWarmed, .int vleaves, .int vdayThen, .int vcoldThen, .ref npo, .int vportionMany, .ref nta, .ref npl, .int vleakMany, .int vleakActs, .ref nmm, .ref ncu, .ref nke, .ref nik, .int vkeptAt, .int visWriting])), (nde, .inl (cI, 6, .inl (fun _ => 0)))]) [1, 0] (by decide) rfl
  exact W.zret (v := 1) hx hb hr rfl (fun t ht hW => ⟨⟨1, (), rfl, rfl, by rw [ht]; exact hP9, hD9⟩, hS.F ht⟩) hS.2.2 dX8_isHot_18
set_option maxHeartbeats 4000000 in
set_option maxRecDepth 100000 in
theorem c_X8_nextTaken0 (l : Launch) (dC : Nat → ClassId) (dI : Nat → Nat → Nat) (cI cZ cK : ClassId) (tS aK aV : Nat) (n : Nat) (nwi : Nat) (nco : Nat) (nqu : Nat) (nmi : Nat) (nde : Nat) (nsa : Nat) (nsm : Nat) (npa : Nat) (nac : Nat) (nam : Nat) (naw : Nat) (ncs : Nat) (nbw : Nat) (ndc : Nat) (nmk : Nat) (npo : Nat) (nta : Nat) (npl : Nat) (nmm : Nat) (ncu : Nat) (nke : Nat) (nik : Nat) (vleft : Int32) (vmetres : Int32) (vshut : Int32) (vshield : Int32) (vtoday : Int32) (vbagged : Int32) (vwarmed : Int32) (vmeals : Int32) (vsights : Int32) (vpadMany : Int32) (vacts : Int32) (vgusty : Int32) (vleakAct : Int32) (vleakMuch : Int32) (vendOfCan : Int32) (vbadAct : Int32) (vbadWhy : Int32) (vburnt : Int32) (vboiled : Int32) (vhadLeft : Int32) (vhadToday : Int32) (vhadBagged : Int32) (vhadWarmed : Int32) (vleaves : Int32) (vdayThen : Int32) (vcoldThen : Int32) (vportionMany : Int32) (vleakMany : Int32) (vleakActs : Int32) (vkeptAt : Int32) (visWriting : Int32) (sz : Nat) : Ci l yX8_nextTaken (wq yX8_nextTaken cX8_nextTaken 2 (some .boolean)) ({ frames := 0, cells := 0, slots := 0, locals := 0 }) dC dI cI cZ cK tS aK aV [.ref n] sz [(n, .inr (8, [.int vleft, .int vmetres, .int vshut, .int vshield, .int vtoday, .int vbagged, .int vwarmed, .ref nwi, .ref nco, .int vmeals, .ref nqu, .ref nmi, .ref nde, .ref nsa, .ref nsm, .int vsights, .ref npa, .int vpadMany, .ref nac, .ref nam, .ref naw, .int vacts, .int vgusty, .int vleakAct, .int vleakMuch, .int vendOfCan, .int vbadAct, .int vbadWhy, .int vburnt, .int vboiled, .ref ncs, .ref nbw, .ref ndc, .ref nmk, .int vhadLeft, .int vhadToday, .int vhadBagged, .int vhadWarmed, .int vleaves, .int vdayThen, .int vcoldThen, .ref npo, .int vportionMany, .ref nta, .ref npl, .int vleakMany, .int vleakActs, .ref nmm, .ref ncu, .ref nke, .ref nik, .int vkeptAt, .int visWriting])), (npo, .inl (cI, 6, .inl (upd (upd (upd (upd (upd (upd (upd (upd (upd (upd (upd (upd (fun _ => 0) 5 0) 4 0) 3 0) 2 0) 1 0) 0 0) 0 0) 1 0) 2 0) 3 0) 4 0) 5 0))), (nta, .inl (cI, 6, .inl (upd (upd (upd (upd (upd (upd (fun _ => 0) 0 0) 1 0) 2 0) 3 0) 4 0) 5 0)))] (fun (r : Int32) (_ : Unit) => r = 0) (fun _ => []) := by
  refine Met.ofW (cc := cX8_nextTaken) (maxL := 2) (ret := (some .boolean)) (by decide) rfl ?_
  intro p e s m args below meth c s₁ B hml hv
  obtain ⟨rfl, hsz, hP, hKx, hD0⟩ := hv
  have hx := B.exec
  have hb := B.bytes
  have hr := B.returns
  have hts := atoms_spec (ws := wq yX8_nextTaken cX8_nextTaken 2 (some .boolean)) B.pre
  have hown : s.vm.findClass RX8 = some m.cls := findClass_of_methodNamed B.named
  have hlocks := B.notSynchronized
  subst hsz
  have hD := hD0.self (sz := s.heap.size)
  generalize hAe : va_A [(n, .inr (8, [.int vleft, .int vmetres, .int vshut, .int vshield, .int vtoday, .int vbagged, .int vwarmed, .ref nwi, .ref nco, .int vmeals, .ref nqu, .ref nmi, .ref nde, .ref nsa, .ref nsm, .int vsights, .ref npa, .int vpadMany, .ref nac, .ref nam, .ref naw, .int vacts, .int vgusty, .int vleakAct, .int vleakMuch, .int vendOfCan, .int vbadAct, .int vbadWhy, .int vburnt, .int vboiled, .ref ncs, .ref nbw, .ref ndc, .ref nmk, .int vhadLeft, .int vhadToday, .int vhadBagged, .int vhadWarmed, .int vleaves, .int vdayThen, .int vcoldThen, .ref npo, .int vportionMany, .ref nta, .ref npl, .int vleakMany, .int vleakActs, .ref nmm, .ref ncu, .ref nke, .ref nik, .int vkeptAt, .int visWriting])), (npo, .inl (cI, 6, .inl (upd (upd (upd (upd (upd (upd (upd (upd (upd (upd (upd (upd (fun _ => 0) 5 0) 4 0) 3 0) 2 0) 1 0) 0 0) 0 0) 1 0) 2 0) 3 0) 4 0) 5 0))), (nta, .inl (cI, 6, .inl (upd (upd (upd (upd (upd (upd (fun _ => 0) 0 0) 1 0) 2 0) 3 0) 4 0) 5 0)))] s.heap.size = A at hD hKx ⊢
  have hA : ∀ q : Nat, s.heap.size ≤ q → A q := fun q h => by rw [← hAe]; exact Or.inr h
  have hS : va_S A s.heap s.heap [] := va_S.rf
  have hP : va_P (dC, dI) vwCl [(n, .inr (8, [.int vleft, .int vmetres, .int vshut, .int vshield, .int vtoday, .int vbagged, .int vwarmed, .ref nwi, .ref nco, .int vmeals, .ref nqu, .ref nmi, .ref nde, .ref nsa, .ref nsm, .int vsights, .ref npa, .int vpadMany, .ref nac, .ref nam, .ref naw, .int vacts, .int vgusty, .int vleakAct, .int vleakMuch, .int vendOfCan, .int vbadAct, .int vbadWhy, .int vburnt, .int vboiled, .ref ncs, .ref nbw, .ref ndc, .ref nmk, .int vhadLeft, .int vhadToday, .int vhadBagged, .int vhadWarmed, .int vleaves, .int vdayThen, .int vcoldThen, .ref npo, .int vportionMany, .ref nta, .ref npl, .int vleakMany, .int vleakActs, .ref nmm, .ref ncu, .ref nke, .ref nik, .int vkeptAt, .int visWriting])), (npo, .inl (cI, 6, .inl (upd (upd (upd (upd (upd (upd (upd (upd (upd (upd (upd (upd (fun _ => 0) 5 0) 4 0) 3 0) 2 0) 1 0) 0 0) 0 0) 1 0) 2 0) 3 0) 4 0) 5 0))), (nta, .inl (cI, 6, .inl (upd (upd (upd (upd (upd (upd (fun _ => 0) 0 0) 1 0) 2 0) 3 0) 4 0) 5 0)))] s.heap := hP
  have hl := lv_entry ([.ref n]) (n := 2) (Nat.le_of_ble_eq_true rfl)
  rw [lg_entry_eq]
  generalize (lg_sl ([.ref n]) ++ List.replicate (2 - (lg_sl ([.ref n])).length) Slot.unset).toArray = ls at hl ⊢
  have hl : lv_has ls 2 [(0, .ref n)] := hl
  have hK := hKx.1
  have hin8 := fun w9 h9 => List.mem_cons_of_mem (Cond.code yX8_nextTaken cX8_nextTaken 2 (some .boolean)) (inlX8 w9 h9)
  have hw0 := hts (.fieldLink RX8 58 "OneCanModel" "taken" "[I") (List.mem_cons_of_mem _ wm_488)
  have hw1 := hts (.fieldLink RX8 55 "OneCanModel" "portion" "[I") (List.mem_cons_of_mem _ wm_480)
  refine lv_iconst (v := 0) hx hb dX8_nextTaken_0 (by decide) ?_
  refine lv_istore_n (lv' := [(1, .int 0), (0, .ref n)]) hx hb dX8_nextTaken_1 rfl hl (by decide) rfl (fun ls hl => ?_)
  refine lv_iload_n hx hb dX8_nextTaken_2 rfl (lv_at hl 0 rfl) ?_
  refine lv_bipush (v := 6) hx hb dX8_nextTaken_3 (by decide) ?_
  refine lv_icmp_ge (tgt := 36) hx hb dX8_nextTaken_5 (by decide) (fun c1 => absurd c1 (by decide)) (fun c1 => ?_)
  refine lv_aload_n hx hb dX8_nextTaken_8 rfl (lv_at hl 1 rfl) ?_
  refine va_get (D := (dC, dI)) (ci := 8) (v := .ref nta) (C := RX8) (T := TX8) (N := 53) hx hb hts hin8 hown hK hP 0 rfl rfl 43 (by decide) hw0 (fun _ h9 => h9) rfl dX8_nextTaken_9 ?_
  refine lv_iload_n hx hb dX8_nextTaken_12 rfl (lv_at hl 0 rfl) ?_
  refine va_iald hx hb hK hP 2 0 rfl rfl (vin (by decide) (by decide)) dX8_nextTaken_13 ?_
  refine lv_topi (fun x2 e2 => ?_)
  obtain rfl : x2 = 0 := e2.trans (by first | rfl | decide)
  refine lv_aload_n hx hb dX8_nextTaken_14 rfl (lv_at hl 1 rfl) ?_
  refine va_get (D := (dC, dI)) (ci := 8) (v := .ref npo) (C := RX8) (T := TX8) (N := 53) hx hb hts hin8 hown hK hP 0 rfl rfl 41 (by decide) hw1 (fun _ h9 => h9) rfl dX8_nextTaken_15 ?_
  refine lv_iload_n hx hb dX8_nextTaken_18 rfl (lv_at hl 0 rfl) ?_
  refine va_iald hx hb hK hP 1 0 rfl rfl (vin (by decide) (by decide)) dX8_nextTaken_19 ?_
  refine lv_topi (fun x3 e3 => ?_)
  obtain rfl : x3 = 0 := e3.trans (by first | rfl | decide)
  refine lv_icmp_ne (tgt := 36) hx hb dX8_nextTaken_20 (by decide) (fun c4 => absurd c4 (by decide)) (fun c4 => ?_)
  refine lv_aload_n hx hb dX8_nextTaken_23 rfl (lv_at hl 1 rfl) ?_
  refine va_get (D := (dC, dI)) (ci := 8) (v := .ref nta) (C := RX8) (T := TX8) (N := 53) hx hb hts hin8 hown hK hP 0 rfl rfl 43 (by decide) hw0 (fun _ h9 => h9) rfl dX8_nextTaken_24 ?_
  refine lv_iload_n hx hb dX8_nextTaken_27 rfl (lv_at hl 0 rfl) ?_
  refine lv_iconst (v := 0) hx hb dX8_nextTaken_28 (by decide) ?_
  refine va_iast hx hb hK hP hD hS 2 0 rfl rfl (vin (by decide) (by decide)) dX8_nextTaken_29 (fun H locs hP hD hS => ?_)
  replace hP : va_P (dC, dI) vwCl [(n, .inr (8, [.int vleft, .int vmetres, .int vshut, .int vshield, .int vtoday, .int vbagged, .int vwarmed, .ref nwi, .ref nco, .int vmeals, .ref nqu, .ref nmi, .ref nde, .ref nsa, .ref nsm, .int vsights, .ref npa, .int vpadMany, .ref nac, .ref nam, .ref naw, .int vacts, .int vgusty, .int vleakAct, .int vleakMuch, .int vendOfCan, .int vbadAct, .int vbadWhy, .int vburnt, .int vboiled, .ref ncs, .ref nbw, .ref ndc, .ref nmk, .int vhadLeft, .int vhadToday, .int vhadBagged, .int vhadWarmed, .int vleaves, .int vdayThen, .int vcoldThen, .ref npo, .int vportionMany, .ref nta, .ref npl, .int vleakMany, .int vleakActs, .ref nmm, .ref ncu, .ref nke, .ref nik, .int vkeptAt, .int visWriting])), (npo, .inl (cI, 6, .inl (upd (upd (upd (upd (upd (upd (upd (upd (upd (upd (upd (upd (fun _ => 0) 5 0) 4 0) 3 0) 2 0) 1 0) 0 0) 0 0) 1 0) 2 0) 3 0) 4 0) 5 0))), (nta, .inl (cI, 6, .inl (upd (upd (upd (upd (upd (upd (upd (fun _ => 0) 0 0) 1 0) 2 0) 3 0) 4 0) 5 0) 0 0)))] H := hP
  replace hD : va_D A [(n, .inr (8, [.int vleft, .int vmetres, .int vshut, .int vshield, .int vtoday, .int vbagged, .int vwarmed, .ref nwi, .ref nco, .int vmeals, .ref nqu, .ref nmi, .ref nde, .ref nsa, .ref nsm, .int vsights, .ref npa, .int vpadMany, .ref nac, .ref nam, .ref naw, .int vacts, .int vgusty, .int vleakAct, .int vleakMuch, .int vendOfCan, .int vbadAct, .int vbadWhy, .int vburnt, .int vboiled, .ref ncs, .ref nbw, .ref ndc, .ref nmk, .int vhadLeft, .int vhadToday, .int vhadBagged, .int vhadWarmed, .int vleaves, .int vdayThen, .int vcoldThen, .ref npo, .int vportionMany, .ref nta, .ref npl, .int vleakMany, .int vleakActs, .ref nmm, .ref ncu, .ref nke, .ref nik, .int vkeptAt, .int visWriting])), (npo, .inl (cI, 6, .inl (upd (upd (upd (upd (upd (upd (upd (upd (upd (upd (upd (upd (fun _ => 0) 5 0) 4 0) 3 0) 2 0) 1 0) 0 0) 0 0) 1 0) 2 0) 3 0) 4 0) 5 0))), (nta, .inl (cI, 6, .inl (upd (upd (upd (upd (upd (upd (upd (fun _ => 0) 0 0) 1 0) 2 0) 3 0) 4 0) 5 0) 0 0)))] := hD
  refine lv_iinc (v := 1) (lv' := [(1, .int 1), (0, .ref n)]) hx hb dX8_nextTaken_30 hl (k := 0) rfl (by decide) (by decide) rfl (fun ls hl => ?_)
  refine lv_goto (tgt := 2) hx hb dX8_nextTaken_33 (by decide) ?_
  refine lv_iload_n hx hb dX8_nextTaken_2 rfl (lv_at hl 0 rfl) ?_
  refine lv_bipush (v := 6) hx hb dX8_nextTaken_3 (by decide) ?_
  refine lv_icmp_ge (tgt := 36) hx hb dX8_nextTaken_5 (by decide) (fun c5 => absurd c5 (by decide)) (fun c5 => ?_)
  refine lv_aload_n hx hb dX8_nextTaken_8 rfl (lv_at hl 1 rfl) ?_
  refine va_get (D := (dC, dI)) (ci := 8) (v := .ref nta) (C := RX8) (T := TX8) (N := 53) hx hb hts hin8 hown hK hP 0 rfl rfl 43 (by decide) hw0 (fun _ h9 => h9) rfl dX8_nextTaken_9 ?_
  refine lv_iload_n hx hb dX8_nextTaken_12 rfl (lv_at hl 0 rfl) ?_
  refine va_iald hx hb hK hP 2 0 rfl rfl (vin (by decide) (by decide)) dX8_nextTaken_13 ?_
  refine lv_topi (fun x6 e6 => ?_)
  obtain rfl : x6 = 0 := e6.trans (by first | rfl | decide)
  refine lv_aload_n hx hb dX8_nextTaken_14 rfl (lv_at hl 1 rfl) ?_
  refine va_get (D := (dC, dI)) (ci := 8) (v := .ref npo) (C := RX8) (T := TX8) (N := 53) hx hb hts hin8 hown hK hP 0 rfl rfl 41 (by decide) hw1 (fun _ h9 => h9) rfl dX8_nextTaken_15 ?_
  refine lv_iload_n hx hb dX8_nextTaken_18 rfl (lv_at hl 0 rfl) ?_
  refine va_iald hx hb hK hP 1 0 rfl rfl (vin (by decide) (by decide)) dX8_nextTaken_19 ?_
  refine lv_topi (fun x7 e7 => ?_)
  obtain rfl : x7 = 0 := e7.trans (by first | rfl | decide)
  refine lv_icmp_ne (tgt := 36) hx hb dX8_nextTaken_20 (by decide) (fun c8 => absurd c8 (by decide)) (fun c8 => ?_)
  refine lv_aload_n hx hb dX8_nextTaken_23 rfl (lv_at hl 1 rfl) ?_
  refine va_get (D := (dC, dI)) (ci := 8) (v := .ref nta) (C := RX8) (T := TX8) (N := 53) hx hb hts hin8 hown hK hP 0 rfl rfl 43 (by decide) hw0 (fun _ h9 => h9) rfl dX8_nextTaken_24 ?_
  refine lv_iload_n hx hb dX8_nextTaken_27 rfl (lv_at hl 0 rfl) ?_
  refine lv_iconst (v := 0) hx hb dX8_nextTaken_28 (by decide) ?_
  refine va_iast hx hb hK hP hD hS 2 0 rfl rfl (vin (by decide) (by decide)) dX8_nextTaken_29 (fun H locs hP hD hS => ?_)
  replace hP : va_P (dC, dI) vwCl [(n, .inr (8, [.int vleft, .int vmetres, .int vshut, .int vshield, .int vtoday, .int vbagged, .int vwarmed, .ref nwi, .ref nco, .int vmeals, .ref nqu, .ref nmi, .ref nde, .ref nsa, .ref nsm, .int vsights, .ref npa, .int vpadMany, .ref nac, .ref nam, .ref naw, .int vacts, .int vgusty, .int vleakAct, .int vleakMuch, .int vendOfCan, .int vbadAct, .int vbadWhy, .int vburnt, .int vboiled, .ref ncs, .ref nbw, .ref ndc, .ref nmk, .int vhadLeft, .int vhadToday, .int vhadBagged, .int vhadWarmed, .int vleaves, .int vdayThen, .int vcoldThen, .ref npo, .int vportionMany, .ref nta, .ref npl, .int vleakMany, .int vleakActs, .ref nmm, .ref ncu, .ref nke, .ref nik, .int vkeptAt, .int visWriting])), (npo, .inl (cI, 6, .inl (upd (upd (upd (upd (upd (upd (upd (upd (upd (upd (upd (upd (fun _ => 0) 5 0) 4 0) 3 0) 2 0) 1 0) 0 0) 0 0) 1 0) 2 0) 3 0) 4 0) 5 0))), (nta, .inl (cI, 6, .inl (upd (upd (upd (upd (upd (upd (upd (upd (fun _ => 0) 0 0) 1 0) 2 0) 3 0) 4 0) 5 0) 0 0) 1 0)))] H := hP
  replace hD : va_D A [(n, .inr (8, [.int vleft, .int vmetres, .int vshut, .int vshield, .int vtoday, .int vbagged, .int vwarmed, .ref nwi, .ref nco, .int vmeals, .ref nqu, .ref nmi, .ref nde, .ref nsa, .ref nsm, .int vsights, .ref npa, .int vpadMany, .ref nac, .ref nam, .ref naw, .int vacts, .int vgusty, .int vleakAct, .int vleakMuch, .int vendOfCan, .int vbadAct, .int vbadWhy, .int vburnt, .int vboiled, .ref ncs, .ref nbw, .ref ndc, .ref nmk, .int vhadLeft, .int vhadToday, .int vhadBagged, .int vhadWarmed, .int vleaves, .int vdayThen, .int vcoldThen, .ref npo, .int vportionMany, .ref nta, .ref npl, .int vleakMany, .int vleakActs, .ref nmm, .ref ncu, .ref nke, .ref nik, .int vkeptAt, .int visWriting])), (npo, .inl (cI, 6, .inl (upd (upd (upd (upd (upd (upd (upd (upd (upd (upd (upd (upd (fun _ => 0) 5 0) 4 0) 3 0) 2 0) 1 0) 0 0) 0 0) 1 0) 2 0) 3 0) 4 0) 5 0))), (nta, .inl (cI, 6, .inl (upd (upd (upd (upd (upd (upd (upd (upd (fun _ => 0) 0 0) 1 0) 2 0) 3 0) 4 0) 5 0) 0 0) 1 0)))] := hD
  refine lv_iinc (v := 2) (lv' := [(1, .int 2), (0, .ref n)]) hx hb dX8_nextTaken_30 hl (k := 0) rfl (by decide) (by decide) rfl (fun ls hl => ?_)
  refine lv_goto (tgt := 2) hx hb dX8_nextTaken_33 (by decide) ?_
  refine lv_iload_n hx hb dX8_nextTaken_2 rfl (lv_at hl 0 rfl) ?_
  refine lv_bipush (v := 6) hx hb dX8_nextTaken_3 (by decide) ?_
  refine lv_icmp_ge (tgt := 36) hx hb dX8_nextTaken_5 (by decide) (fun c9 => absurd c9 (by decide)) (fun c9 => ?_)
  refine lv_aload_n hx hb dX8_nextTaken_8 rfl (lv_at hl 1 rfl) ?_
  refine va_get (D := (dC, dI)) (ci := 8) (v := .ref nta) (C := RX8) (T := TX8) (N := 53) hx hb hts hin8 hown hK hP 0 rfl rfl 43 (by decide) hw0 (fun _ h9 => h9) rfl dX8_nextTaken_9 ?_
  refine lv_iload_n hx hb dX8_nextTaken_12 rfl (lv_at hl 0 rfl) ?_
  refine va_iald hx hb hK hP 2 0 rfl rfl (vin (by decide) (by decide)) dX8_nextTaken_13 ?_
  refine lv_topi (fun x10 e10 => ?_)
  obtain rfl : x10 = 0 := e10.trans (by first | rfl | decide)
  refine lv_aload_n hx hb dX8_nextTaken_14 rfl (lv_at hl 1 rfl) ?_
  refine va_get (D := (dC, dI)) (ci := 8) (v := .ref npo) (C := RX8) (T := TX8) (N := 53) hx hb hts hin8 hown hK hP 0 rfl rfl 41 (by decide) hw1 (fun _ h9 => h9) rfl dX8_nextTaken_15 ?_
  refine lv_iload_n hx hb dX8_nextTaken_18 rfl (lv_at hl 0 rfl) ?_
  refine va_iald hx hb hK hP 1 0 rfl rfl (vin (by decide) (by decide)) dX8_nextTaken_19 ?_
  refine lv_topi (fun x11 e11 => ?_)
  obtain rfl : x11 = 0 := e11.trans (by first | rfl | decide)
  refine lv_icmp_ne (tgt := 36) hx hb dX8_nextTaken_20 (by decide) (fun c12 => absurd c12 (by decide)) (fun c12 => ?_)
  refine lv_aload_n hx hb dX8_nextTaken_23 rfl (lv_at hl 1 rfl) ?_
  refine va_get (D := (dC, dI)) (ci := 8) (v := .ref nta) (C := RX8) (T := TX8) (N := 53) hx hb hts hin8 hown hK hP 0 rfl rfl 43 (by decide) hw0 (fun _ h9 => h9) rfl dX8_nextTaken_24 ?_
  refine lv_iload_n hx hb dX8_nextTaken_27 rfl (lv_at hl 0 rfl) ?_
  refine lv_iconst (v := 0) hx hb dX8_nextTaken_28 (by decide) ?_
  refine va_iast hx hb hK hP hD hS 2 0 rfl rfl (vin (by decide) (by decide)) dX8_nextTaken_29 (fun H locs hP hD hS => ?_)
  replace hP : va_P (dC, dI) vwCl [(n, .inr (8, [.int vleft, .int vmetres, .int vshut, .int vshield, .int vtoday, .int vbagged, .int vwarmed, .ref nwi, .ref nco, .int vmeals, .ref nqu, .ref nmi, .ref nde, .ref nsa, .ref nsm, .int vsights, .ref npa, .int vpadMany, .ref nac, .ref nam, .ref naw, .int vacts, .int vgusty, .int vleakAct, .int vleakMuch, .int vendOfCan, .int vbadAct, .int vbadWhy, .int vburnt, .int vboiled, .ref ncs, .ref nbw, .ref ndc, .ref nmk, .int vhadLeft, .int vhadToday, .int vhadBagged, .int vhadWarmed, .int vleaves, .int vdayThen, .int vcoldThen, .ref npo, .int vportionMany, .ref nta, .ref npl, .int vleakMany, .int vleakActs, .ref nmm, .ref ncu, .ref nke, .ref nik, .int vkeptAt, .int visWriting])), (npo, .inl (cI, 6, .inl (upd (upd (upd (upd (upd (upd (upd (upd (upd (upd (upd (upd (fun _ => 0) 5 0) 4 0) 3 0) 2 0) 1 0) 0 0) 0 0) 1 0) 2 0) 3 0) 4 0) 5 0))), (nta, .inl (cI, 6, .inl (upd (upd (upd (upd (upd (upd (upd (upd (upd (fun _ => 0) 0 0) 1 0) 2 0) 3 0) 4 0) 5 0) 0 0) 1 0) 2 0)))] H := hP
  replace hD : va_D A [(n, .inr (8, [.int vleft, .int vmetres, .int vshut, .int vshield, .int vtoday, .int vbagged, .int vwarmed, .ref nwi, .ref nco, .int vmeals, .ref nqu, .ref nmi, .ref nde, .ref nsa, .ref nsm, .int vsights, .ref npa, .int vpadMany, .ref nac, .ref nam, .ref naw, .int vacts, .int vgusty, .int vleakAct, .int vleakMuch, .int vendOfCan, .int vbadAct, .int vbadWhy, .int vburnt, .int vboiled, .ref ncs, .ref nbw, .ref ndc, .ref nmk, .int vhadLeft, .int vhadToday, .int vhadBagged, .int vhadWarmed, .int vleaves, .int vdayThen, .int vcoldThen, .ref npo, .int vportionMany, .ref nta, .ref npl, .int vleakMany, .int vleakActs, .ref nmm, .ref ncu, .ref nke, .ref nik, .int vkeptAt, .int visWriting])), (npo, .inl (cI, 6, .inl (upd (upd (upd (upd (upd (upd (upd (upd (upd (upd (upd (upd (fun _ => 0) 5 0) 4 0) 3 0) 2 0) 1 0) 0 0) 0 0) 1 0) 2 0) 3 0) 4 0) 5 0))), (nta, .inl (cI, 6, .inl (upd (upd (upd (upd (upd (upd (upd (upd (upd (fun _ => 0) 0 0) 1 0) 2 0) 3 0) 4 0) 5 0) 0 0) 1 0) 2 0)))] := hD
  refine lv_iinc (v := 3) (lv' := [(1, .int 3), (0, .ref n)]) hx hb dX8_nextTaken_30 hl (k := 0) rfl (by decide) (by decide) rfl (fun ls hl => ?_)
  refine lv_goto (tgt := 2) hx hb dX8_nextTaken_33 (by decide) ?_
  refine lv_iload_n hx hb dX8_nextTaken_2 rfl (lv_at hl 0 rfl) ?_
  refine lv_bipush (v := 6) hx hb dX8_nextTaken_3 (by decide) ?_
  refine lv_icmp_ge (tgt := 36) hx hb dX8_nextTaken_5 (by decide) (fun c13 => absurd c13 (by decide)) (fun c13 => ?_)
  refine lv_aload_n hx hb dX8_nextTaken_8 rfl (lv_at hl 1 rfl) ?_
  refine va_get (D := (dC, dI)) (ci := 8) (v := .ref nta) (C := RX8) (T := TX8) (N := 53) hx hb hts hin8 hown hK hP 0 rfl rfl 43 (by decide) hw0 (fun _ h9 => h9) rfl dX8_nextTaken_9 ?_
  refine lv_iload_n hx hb dX8_nextTaken_12 rfl (lv_at hl 0 rfl) ?_
  refine va_iald hx hb hK hP 2 0 rfl rfl (vin (by decide) (by decide)) dX8_nextTaken_13 ?_
  refine lv_topi (fun x14 e14 => ?_)
  obtain rfl : x14 = 0 := e14.trans (by first | rfl | decide)
  refine lv_aload_n hx hb dX8_nextTaken_14 rfl (lv_at hl 1 rfl) ?_
  refine va_get (D := (dC, dI)) (ci := 8) (v := .ref npo) (C := RX8) (T := TX8) (N := 53) hx hb hts hin8 hown hK hP 0 rfl rfl 41 (by decide) hw1 (fun _ h9 => h9) rfl dX8_nextTaken_15 ?_
  refine lv_iload_n hx hb dX8_nextTaken_18 rfl (lv_at hl 0 rfl) ?_
  refine va_iald hx hb hK hP 1 0 rfl rfl (vin (by decide) (by decide)) dX8_nextTaken_19 ?_
  refine lv_topi (fun x15 e15 => ?_)
  obtain rfl : x15 = 0 := e15.trans (by first | rfl | decide)
  refine lv_icmp_ne (tgt := 36) hx hb dX8_nextTaken_20 (by decide) (fun c16 => absurd c16 (by decide)) (fun c16 => ?_)
  refine lv_aload_n hx hb dX8_nextTaken_23 rfl (lv_at hl 1 rfl) ?_
  refine va_get (D := (dC, dI)) (ci := 8) (v := .ref nta) (C := RX8) (T := TX8) (N := 53) hx hb hts hin8 hown hK hP 0 rfl rfl 43 (by decide) hw0 (fun _ h9 => h9) rfl dX8_nextTaken_24 ?_
  refine lv_iload_n hx hb dX8_nextTaken_27 rfl (lv_at hl 0 rfl) ?_
  refine lv_iconst (v := 0) hx hb dX8_nextTaken_28 (by decide) ?_
  refine va_iast hx hb hK hP hD hS 2 0 rfl rfl (vin (by decide) (by decide)) dX8_nextTaken_29 (fun H locs hP hD hS => ?_)
  replace hP : va_P (dC, dI) vwCl [(n, .inr (8, [.int vleft, .int vmetres, .int vshut, .int vshield, .int vtoday, .int vbagged, .int vwarmed, .ref nwi, .ref nco, .int vmeals, .ref nqu, .ref nmi, .ref nde, .ref nsa, .ref nsm, .int vsights, .ref npa, .int vpadMany, .ref nac, .ref nam, .ref naw, .int vacts, .int vgusty, .int vleakAct, .int vleakMuch, .int vendOfCan, .int vbadAct, .int vbadWhy, .int vburnt, .int vboiled, .ref ncs, .ref nbw, .ref ndc, .ref nmk, .int vhadLeft, .int vhadToday, .int vhadBagged, .int vhadWarmed, .int vleaves, .int vdayThen, .int vcoldThen, .ref npo, .int vportionMany, .ref nta, .ref npl, .int vleakMany, .int vleakActs, .ref nmm, .ref ncu, .ref nke, .ref nik, .int vkeptAt, .int visWriting])), (npo, .inl (cI, 6, .inl (upd (upd (upd (upd (upd (upd (upd (upd (upd (upd (upd (upd (fun _ => 0) 5 0) 4 0) 3 0) 2 0) 1 0) 0 0) 0 0) 1 0) 2 0) 3 0) 4 0) 5 0))), (nta, .inl (cI, 6, .inl (upd (upd (upd (upd (upd (upd (upd (upd (upd (upd (fun _ => 0) 0 0) 1 0) 2 0) 3 0) 4 0) 5 0) 0 0) 1 0) 2 0) 3 0)))] H := hP
  replace hD : va_D A [(n, .inr (8, [.int vleft, .int vmetres, .int vshut, .int vshield, .int vtoday, .int vbagged, .int vwarmed, .ref nwi, .ref nco, .int vmeals, .ref nqu, .ref nmi, .ref nde, .ref nsa, .ref nsm, .int vsights, .ref npa, .int vpadMany, .ref nac, .ref nam, .ref naw, .int vacts, .int vgusty, .int vleakAct, .int vleakMuch, .int vendOfCan, .int vbadAct, .int vbadWhy, .int vburnt, .int vboiled, .ref ncs, .ref nbw, .ref ndc, .ref nmk, .int vhadLeft, .int vhadToday, .int vhadBagged, .int vhadWarmed, .int vleaves, .int vdayThen, .int vcoldThen, .ref npo, .int vportionMany, .ref nta, .ref npl, .int vleakMany, .int vleakActs, .ref nmm, .ref ncu, .ref nke, .ref nik, .int vkeptAt, .int visWriting])), (npo, .inl (cI, 6, .inl (upd (upd (upd (upd (upd (upd (upd (upd (upd (upd (upd (upd (fun _ => 0) 5 0) 4 0) 3 0) 2 0) 1 0) 0 0) 0 0) 1 0) 2 0) 3 0) 4 0) 5 0))), (nta, .inl (cI, 6, .inl (upd (upd (upd (upd (upd (upd (upd (upd (upd (upd (fun _ => 0) 0 0) 1 0) 2 0) 3 0) 4 0) 5 0) 0 0) 1 0) 2 0) 3 0)))] := hD
  refine lv_iinc (v := 4) (lv' := [(1, .int 4), (0, .ref n)]) hx hb dX8_nextTaken_30 hl (k := 0) rfl (by decide) (by decide) rfl (fun ls hl => ?_)
  refine lv_goto (tgt := 2) hx hb dX8_nextTaken_33 (by decide) ?_
  refine lv_iload_n hx hb dX8_nextTaken_2 rfl (lv_at hl 0 rfl) ?_
  refine lv_bipush (v := 6) hx hb dX8_nextTaken_3 (by decide) ?_
  refine lv_icmp_ge (tgt := 36) hx hb dX8_nextTaken_5 (by decide) (fun c17 => absurd c17 (by decide)) (fun c17 => ?_)
  refine lv_aload_n hx hb dX8_nextTaken_8 rfl (lv_at hl 1 rfl) ?_
  refine va_get (D := (dC, dI)) (ci := 8) (v := .ref nta) (C := RX8) (T := TX8) (N := 53) hx hb hts hin8 hown hK hP 0 rfl rfl 43 (by decide) hw0 (fun _ h9 => h9) rfl dX8_nextTaken_9 ?_
  refine lv_iload_n hx hb dX8_nextTaken_12 rfl (lv_at hl 0 rfl) ?_
  refine va_iald hx hb hK hP 2 0 rfl rfl (vin (by decide) (by decide)) dX8_nextTaken_13 ?_
  refine lv_topi (fun x18 e18 => ?_)
  obtain rfl : x18 = 0 := e18.trans (by first | rfl | decide)
  refine lv_aload_n hx hb dX8_nextTaken_14 rfl (lv_at hl 1 rfl) ?_
  refine va_get (D := (dC, dI)) (ci := 8) (v := .ref npo) (C := RX8) (T := TX8) (N := 53) hx hb hts hin8 hown hK hP 0 rfl rfl 41 (by decide) hw1 (fun _ h9 => h9) rfl dX8_nextTaken_15 ?_
  refine lv_iload_n hx hb dX8_nextTaken_18 rfl (lv_at hl 0 rfl) ?_
  refine va_iald hx hb hK hP 1 0 rfl rfl (vin (by decide) (by decide)) dX8_nextTaken_19 ?_
  refine lv_topi (fun x19 e19 => ?_)
  obtain rfl : x19 = 0 := e19.trans (by first | rfl | decide)
  refine lv_icmp_ne (tgt := 36) hx hb dX8_nextTaken_20 (by decide) (fun c20 => absurd c20 (by decide)) (fun c20 => ?_)
  refine lv_aload_n hx hb dX8_nextTaken_23 rfl (lv_at hl 1 rfl) ?_
  refine va_get (D := (dC, dI)) (ci := 8) (v := .ref nta) (C := RX8) (T := TX8) (N := 53) hx hb hts hin8 hown hK hP 0 rfl rfl 43 (by decide) hw0 (fun _ h9 => h9) rfl dX8_nextTaken_24 ?_
  refine lv_iload_n hx hb dX8_nextTaken_27 rfl (lv_at hl 0 rfl) ?_
  refine lv_iconst (v := 0) hx hb dX8_nextTaken_28 (by decide) ?_
  refine va_iast hx hb hK hP hD hS 2 0 rfl rfl (vin (by decide) (by decide)) dX8_nextTaken_29 (fun H locs hP hD hS => ?_)
  replace hP : va_P (dC, dI) vwCl [(n, .inr (8, [.int vleft, .int vmetres, .int vshut, .int vshield, .int vtoday, .int vbagged, .int vwarmed, .ref nwi, .ref nco, .int vmeals, .ref nqu, .ref nmi, .ref nde, .ref nsa, .ref nsm, .int vsights, .ref npa, .int vpadMany, .ref nac, .ref nam, .ref naw, .int vacts, .int vgusty, .int vleakAct, .int vleakMuch, .int vendOfCan, .int vbadAct, .int vbadWhy, .int vburnt, .int vboiled, .ref ncs, .ref nbw, .ref ndc, .ref nmk, .int vhadLeft, .int vhadToday, .int vhadBagged, .int vhadWarmed, .int vleaves, .int vdayThen, .int vcoldThen, .ref npo, .int vportionMany, .ref nta, .ref npl, .int vleakMany, .int vleakActs, .ref nmm, .ref ncu, .ref nke, .ref nik, .int vkeptAt, .int visWriting])), (npo, .inl (cI, 6, .inl (upd (upd (upd (upd (upd (upd (upd (upd (upd (upd (upd (upd (fun _ => 0) 5 0) 4 0) 3 0) 2 0) 1 0) 0 0) 0 0) 1 0) 2 0) 3 0) 4 0) 5 0))), (nta, .inl (cI, 6, .inl (upd (upd (upd (upd (upd (upd (upd (upd (upd (upd (upd (fun _ => 0) 0 0) 1 0) 2 0) 3 0) 4 0) 5 0) 0 0) 1 0) 2 0) 3 0) 4 0)))] H := hP
  replace hD : va_D A [(n, .inr (8, [.int vleft, .int vmetres, .int vshut, .int vshield, .int vtoday, .int vbagged, .int vwarmed, .ref nwi, .ref nco, .int vmeals, .ref nqu, .ref nmi, .ref nde, .ref nsa, .ref nsm, .int vsights, .ref npa, .int vpadMany, .ref nac, .ref nam, .ref naw, .int vacts, .int vgusty, .int vleakAct, .int vleakMuch, .int vendOfCan, .int vbadAct, .int vbadWhy, .int vburnt, .int vboiled, .ref ncs, .ref nbw, .ref ndc, .ref nmk, .int vhadLeft, .int vhadToday, .int vhadBagged, .int vhadWarmed, .int vleaves, .int vdayThen, .int vcoldThen, .ref npo, .int vportionMany, .ref nta, .ref npl, .int vleakMany, .int vleakActs, .ref nmm, .ref ncu, .ref nke, .ref nik, .int vkeptAt, .int visWriting])), (npo, .inl (cI, 6, .inl (upd (upd (upd (upd (upd (upd (upd (upd (upd (upd (upd (upd (fun _ => 0) 5 0) 4 0) 3 0) 2 0) 1 0) 0 0) 0 0) 1 0) 2 0) 3 0) 4 0) 5 0))), (nta, .inl (cI, 6, .inl (upd (upd (upd (upd (upd (upd (upd (upd (upd (upd (upd (fun _ => 0) 0 0) 1 0) 2 0) 3 0) 4 0) 5 0) 0 0) 1 0) 2 0) 3 0) 4 0)))] := hD
  refine lv_iinc (v := 5) (lv' := [(1, .int 5), (0, .ref n)]) hx hb dX8_nextTaken_30 hl (k := 0) rfl (by decide) (by decide) rfl (fun ls hl => ?_)
  refine lv_goto (tgt := 2) hx hb dX8_nextTaken_33 (by decide) ?_
  refine lv_iload_n hx hb dX8_nextTaken_2 rfl (lv_at hl 0 rfl) ?_
  refine lv_bipush (v := 6) hx hb dX8_nextTaken_3 (by decide) ?_
  refine lv_icmp_ge (tgt := 36) hx hb dX8_nextTaken_5 (by decide) (fun c21 => absurd c21 (by decide)) (fun c21 => ?_)
  refine lv_aload_n hx hb dX8_nextTaken_8 rfl (lv_at hl 1 rfl) ?_
  refine va_get (D := (dC, dI)) (ci := 8) (v := .ref nta) (C := RX8) (T := TX8) (N := 53) hx hb hts hin8 hown hK hP 0 rfl rfl 43 (by decide) hw0 (fun _ h9 => h9) rfl dX8_nextTaken_9 ?_
  refine lv_iload_n hx hb dX8_nextTaken_12 rfl (lv_at hl 0 rfl) ?_
  refine va_iald hx hb hK hP 2 0 rfl rfl (vin (by decide) (by decide)) dX8_nextTaken_13 ?_
  refine lv_topi (fun x22 e22 => ?_)
  obtain rfl : x22 = 0 := e22.trans (by first | rfl | decide)
  refine lv_aload_n hx hb dX8_nextTaken_14 rfl (lv_at hl 1 rfl) ?_
  refine va_get (D := (dC, dI)) (ci := 8) (v := .ref npo) (C := RX8) (T := TX8) (N := 53) hx hb hts hin8 hown hK hP 0 rfl rfl 41 (by decide) hw1 (fun _ h9 => h9) rfl dX8_nextTaken_15 ?_
  refine lv_iload_n hx hb dX8_nextTaken_18 rfl (lv_at hl 0 rfl) ?_
  refine va_iald hx hb hK hP 1 0 rfl rfl (vin (by decide) (by decide)) dX8_nextTaken_19 ?_
  refine lv_topi (fun x23 e23 => ?_)
  obtain rfl : x23 = 0 := e23.trans (by first | rfl | decide)
  refine lv_icmp_ne (tgt := 36) hx hb dX8_nextTaken_20 (by decide) (fun c24 => absurd c24 (by decide)) (fun c24 => ?_)
  refine lv_aload_n hx hb dX8_nextTaken_23 rfl (lv_at hl 1 rfl) ?_
  refine va_get (D := (dC, dI)) (ci := 8) (v := .ref nta) (C := RX8) (T := TX8) (N := 53) hx hb hts hin8 hown hK hP 0 rfl rfl 43 (by decide) hw0 (fun _ h9 => h9) rfl dX8_nextTaken_24 ?_
  refine lv_iload_n hx hb dX8_nextTaken_27 rfl (lv_at hl 0 rfl) ?_
  refine lv_iconst (v := 0) hx hb dX8_nextTaken_28 (by decide) ?_
  refine va_iast hx hb hK hP hD hS 2 0 rfl rfl (vin (by decide) (by decide)) dX8_nextTaken_29 (fun H locs hP hD hS => ?_)
  replace hP : va_P (dC, dI) vwCl [(n, .inr (8, [.int vleft, .int vmetres, .int vshut, .int vshield, .int vtoday, .int vbagged, .int vwarmed, .ref nwi, .ref nco, .int vmeals, .ref nqu, .ref nmi, .ref nde, .ref nsa, .ref nsm, .int vsights, .ref npa, .int vpadMany, .ref nac, .ref nam, .ref naw, .int vacts, .int vgusty, .int vleakAct, .int vleakMuch, .int vendOfCan, .int vbadAct, .int vbadWhy, .int vburnt, .int vboiled, .ref ncs, .ref nbw, .ref ndc, .ref nmk, .int vhadLeft, .int vhadToday, .int vhadBagged, .int vhadWarmed, .int vleaves, .int vdayThen, .int vcoldThen, .ref npo, .int vportionMany, .ref nta, .ref npl, .int vleakMany, .int vleakActs, .ref nmm, .ref ncu, .ref nke, .ref nik, .int vkeptAt, .int visWriting])), (npo, .inl (cI, 6, .inl (upd (upd (upd (upd (upd (upd (upd (upd (upd (upd (upd (upd (fun _ => 0) 5 0) 4 0) 3 0) 2 0) 1 0) 0 0) 0 0) 1 0) 2 0) 3 0) 4 0) 5 0))), (nta, .inl (cI, 6, .inl (upd (upd (upd (upd (upd (upd (upd (upd (upd (upd (upd (upd (fun _ => 0) 0 0) 1 0) 2 0) 3 0) 4 0) 5 0) 0 0) 1 0) 2 0) 3 0) 4 0) 5 0)))] H := hP
  replace hD : va_D A [(n, .inr (8, [.int vleft, .int vmetres, .int vshut, .int vshield, .int vtoday, .int vbagged, .int vwarmed, .ref nwi, .ref nco, .int vmeals, .ref nqu, .ref nmi, .ref nde, .ref nsa, .ref nsm, .int vsights, .ref npa, .int vpadMany, .ref nac, .ref nam, .ref naw, .int vacts, .int vgusty, .int vleakAct, .int vleakMuch, .int vendOfCan, .int vbadAct, .int vbadWhy, .int vburnt, .int vboiled, .ref ncs, .ref nbw, .ref ndc, .ref nmk, .int vhadLeft, .int vhadToday, .int vhadBagged, .int vhadWarmed, .int vleaves, .int vdayThen, .int vcoldThen, .ref npo, .int vportionMany, .ref nta, .ref npl, .int vleakMany, .int vleakActs, .ref nmm, .ref ncu, .ref nke, .ref nik, .int vkeptAt, .int visWriting])), (npo, .inl (cI, 6, .inl (upd (upd (upd (upd (upd (upd (upd (upd (upd (upd (upd (upd (fun _ => 0) 5 0) 4 0) 3 0) 2 0) 1 0) 0 0) 0 0) 1 0) 2 0) 3 0) 4 0) 5 0))), (nta, .inl (cI, 6, .inl (upd (upd (upd (upd (upd (upd (upd (upd (upd (upd (upd (upd (fun _ => 0) 0 0) 1 0) 2 0) 3 0) 4 0) 5 0) 0 0) 1 0) 2 0) 3 0) 4 0) 5 0)))] := hD
  refine lv_iinc (v := 6) (lv' := [(1, .int 6), (0, .ref n)]) hx hb dX8_nextTaken_30 hl (k := 0) rfl (by decide) (by decide) rfl (fun ls hl => ?_)
  refine lv_goto (tgt := 2) hx hb dX8_nextTaken_33 (by decide) ?_
  refine lv_iload_n hx hb dX8_nextTaken_2 rfl (lv_at hl 0 rfl) ?_
  refine lv_bipush (v := 6) hx hb dX8_nextTaken_3 (by decide) ?_
  refine lv_icmp_ge (tgt := 36) hx hb dX8_nextTaken_5 (by decide) (fun c25 => ?_) (fun c25 => absurd c25 (by decide))
  refine lv_iload_n hx hb dX8_nextTaken_36 rfl (lv_at hl 0 rfl) ?_
  refine lv_bipush (v := 6) hx hb dX8_nextTaken_37 (by decide) ?_
  refine lv_icmp_ge (tgt := 52) hx hb dX8_nextTaken_39 (by decide) (fun c26 => ?_) (fun c26 => absurd c26 (by decide))
  refine lv_iload_n hx hb dX8_nextTaken_52 rfl (lv_at hl 0 rfl) ?_
  refine lv_bipush (v := 6) hx hb dX8_nextTaken_53 (by decide) ?_
  refine lv_icmp_ge (tgt := 62) hx hb dX8_nextTaken_55 (by decide) (fun c27 => ?_) (fun c27 => absurd c27 (by decide))
  refine lv_iconst (v := 0) hx hb dX8_nextTaken_62 (by decide) ?_
  have hP9 := mx_subP (wc := []) hP [] rfl
  have hD9 := hD.sub (ws' := []) [] (by decide) rfl
  exact W.zret (v := 0) hx hb hr rfl (fun t ht hW => ⟨⟨0, (), rfl, rfl, by rw [ht]; exact hP9, hD9⟩, hS.F ht⟩) hS.2.2 dX8_nextTaken_63
