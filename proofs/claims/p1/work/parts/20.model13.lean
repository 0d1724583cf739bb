set_option maxHeartbeats 4000000 in
set_option maxRecDepth 100000 in
theorem c_X8_gustNo (l : Launch) (dC : Nat → ClassId) (dI : Nat → Nat → Nat) (cI cZ cK : ClassId) (tS aK aV : Nat) (n : Nat) (nwi : Nat) (nco : Nat) (nqu : Nat) (nmi : Nat) (nde : Nat) (nsa : Nat) (nsm : Nat) (npa : Nat) (nac : Nat) (nam : Nat) (naw : Nat) (ncs : Nat) (nbw : Nat) (ndc : Nat) (nmk : Nat) (npo : Nat) (nta : Nat) (npl : Nat) (nmm : Nat) (ncu : Nat) (nke : Nat) (nik : Nat) (i0 : Int32) (i1 : Int32) (i2 : Int32) (sz : Nat) (hi0 : i0.toInt < 0 ∨ 10 < i0.toInt ∨ i1.toInt < 0 ∨ 1 < i1.toInt ∨ i2.toInt < 0 ∨ 1 < i2.toInt) : Cl l yX8_gust (wq yX8_gust cX8_gust 13 (some .long)) ({ frames := 1, cells := 0, slots := 0, locals := 25 }) dC dI cI cZ cK tS aK aV [.ref n, .int i0, .int i1, .int i2] sz [(n, .inr (8, [.int 800, .int 0, .int 0, .int 0, .int 0, .int 0, .int 0, .ref nwi, .ref nco, .int 0, .ref nqu, .ref nmi, .ref nde, .ref nsa, .ref nsm, .int 0, .ref npa, .int 0, .ref nac, .ref nam, .ref naw, .int 0, .int 0, .int 0, .int 0, .int 0, .int 0, .int 0, .int 0, .int 0, .ref ncs, .ref nbw, .ref ndc, .ref nmk, .int 0, .int 0, .int 0, .int 0, .int 0, .int 0, .int 0, .ref npo, .int 0, .ref nta, .ref npl, .int 0, .int 0, .ref nmm, .ref ncu, .ref nke, .ref nik, .int 0, .int 0]))] (fun (r : Int64) (_ : Unit) => r = (-1000000000000000002)) (fun _ => []) := by
  refine Met.ofW (cc := cX8_gust) (maxL := 13) (ret := (some .long)) (by decide) rfl ?_
  intro p e s m args below meth c s₁ B hml hv
  obtain ⟨rfl, hsz, hP, hKx, hD0⟩ := hv
  have hx := B.exec
  have hb := B.bytes
  have hr := B.returns
  have hts := atoms_spec (ws := wq yX8_gust cX8_gust 13 (some .long)) B.pre
  have hown : s.vm.findClass RX8 = some m.cls := findClass_of_methodNamed B.named
  have hlocks := B.notSynchronized
  subst hsz
  have hD := hD0.self (sz := s.heap.size)
  generalize hAe : va_A [(n, .inr (8, [.int 800, .int 0, .int 0, .int 0, .int 0, .int 0, .int 0, .ref nwi, .ref nco, .int 0, .ref nqu, .ref nmi, .ref nde, .ref nsa, .ref nsm, .int 0, .ref npa, .int 0, .ref nac, .ref nam, .ref naw, .int 0, .int 0, .int 0, .int 0, .int 0, .int 0, .int 0, .int 0, .int 0, .ref ncs, .ref nbw, .ref ndc, .ref nmk, .int 0, .int 0, .int 0, .int 0, .int 0, .int 0, .int 0, .ref npo, .int 0, .ref nta, .ref npl, .int 0, .int 0, .ref nmm, .ref ncu, .ref nke, .ref nik, .int 0, .int 0]))] s.heap.size = A at hD hKx ⊢
  have hA : ∀ q : Nat, s.heap.size ≤ q → A q := fun q h => by rw [← hAe]; exact Or.inr h
  have hS : va_S A s.heap s.heap [] := va_S.rf
  have hP : va_P (dC, dI) vwCl [(n, .inr (8, [.int 800, .int 0, .int 0, .int 0, .int 0, .int 0, .int 0, .ref nwi, .ref nco, .int 0, .ref nqu, .ref nmi, .ref nde, .ref nsa, .ref nsm, .int 0, .ref npa, .int 0, .ref nac, .ref nam, .ref naw, .int 0, .int 0, .int 0, .int 0, .int 0, .int 0, .int 0, .int 0, .int 0, .ref ncs, .ref nbw, .ref ndc, .ref nmk, .int 0, .int 0, .int 0, .int 0, .int 0, .int 0, .int 0, .ref npo, .int 0, .ref nta, .ref npl, .int 0, .int 0, .ref nmm, .ref ncu, .ref nke, .ref nik, .int 0, .int 0]))] s.heap := hP
  have hl := lv_entry ([.ref n, .int i0, .int i1, .int i2]) (n := 13) (Nat.le_of_ble_eq_true rfl)
  rw [lg_entry_eq]
  generalize (lg_sl ([.ref n, .int i0, .int i1, .int i2]) ++ List.replicate (13 - (lg_sl ([.ref n, .int i0, .int i1, .int i2])).length) Slot.unset).toArray = ls at hl ⊢
  have hl : lv_has ls 13 [(0, .ref n), (1, .int i0), (2, .int i1), (3, .int i2)] := hl
  have hK := hKx.1
  have hw0 := hts (.constantLong RX8 302 10) (List.mem_cons_of_mem _ wm_523)
  have hw1 := hts (.constantLong RX8 304 (-1000000000000000002)) (List.mem_cons_of_mem _ wm_531)
  refine lv_iload_n hx hb dX8_gust_0 rfl (lv_at hl 1 rfl) ?_
  refine lv_i2l (v := i0.toInt64) hx hb dX8_gust_1 rfl ?_
  refine lv_lconst (v := 0) hx hb dX8_gust_2 (by decide) ?_
  refine lv_ldc2 (v := 10) hx hb hown hw0 dX8_gust_3 ?_
  refine mx_i (wr := [(n, .inr (8, [.int 800, .int 0, .int 0, .int 0, .int 0, .int 0, .int 0, .ref nwi, .ref nco, .int 0, .ref nqu, .ref nmi, .ref nde, .ref nsa, .ref nsm, .int 0, .ref npa, .int 0, .ref nac, .ref nam, .ref naw, .int 0, .int 0, .int 0, .int 0, .int 0, .int 0, .int 0, .int 0, .int 0, .ref ncs, .ref nbw, .ref ndc, .ref nmk, .int 0, .int 0, .int 0, .int 0, .int 0, .int 0, .int 0, .ref npo, .int 0, .ref nta, .ref npl, .int 0, .int 0, .ref nmm, .ref ncu, .ref nke, .ref nik, .int 0, .int 0]))]) (va_runS (As := [.long (i0.toInt64), .long 0, .long 10]) (rest := []) ⟨hx, hb, hml, hown, hts⟩ (c_X8_in l dC dI cI cZ cK tS aK aV (i0.toInt64) 0 10 s.heap.size) (va_cwS 3 hts (gw_s (fun _ h9 => List.mem_cons_of_mem _ h9) wm_383 wm_384 wm_385 wm_386) rfl rfl rfl (by decide +kernel) ⟨Nat.le_of_ble_eq_true rfl, Nat.le_of_ble_eq_true rfl⟩) (mx_preS hKx hP hD hS hA [] (by decide) rfl) rfl rfl hl.1 rfl (lv_room (Nat.le_of_ble_eq_true rfl)) dX8_gust_6 ⟨Nat.le_of_ble_eq_true rfl, Nat.le_of_ble_eq_true rfl⟩) hP hD hS hA [] [0] rfl rfl (by decide) (by decide) (fun r1 u1 H locs hq1 hP hD hS => ?_)
  replace hP : va_P (dC, dI) vwCl [(n, .inr (8, [.int 800, .int 0, .int 0, .int 0, .int 0, .int 0, .int 0, .ref nwi, .ref nco, .int 0, .ref nqu, .ref nmi, .ref nde, .ref nsa, .ref nsm, .int 0, .ref npa, .int 0, .ref nac, .ref nam, .ref naw, .int 0, .int 0, .int 0, .int 0, .int 0, .int 0, .int 0, .int 0, .int 0, .ref ncs, .ref nbw, .ref ndc, .ref nmk, .int 0, .int 0, .int 0, .int 0, .int 0, .int 0, .int 0, .ref npo, .int 0, .ref nta, .ref npl, .int 0, .int 0, .ref nmm, .ref ncu, .ref nke, .ref nik, .int 0, .int 0]))] H := hP
  replace hD : va_D A [(n, .inr (8, [.int 800, .int 0, .int 0, .int 0, .int 0, .int 0, .int 0, .ref nwi, .ref nco, .int 0, .ref nqu, .ref nmi, .ref nde, .ref nsa, .ref nsm, .int 0, .ref npa, .int 0, .ref nac, .ref nam, .ref naw, .int 0, .int 0, .int 0, .int 0, .int 0, .int 0, .int 0, .int 0, .int 0, .ref ncs, .ref nbw, .ref ndc, .ref nmk, .int 0, .int 0, .int 0, .int 0, .int 0, .int 0, .int 0, .ref npo, .int 0, .ref nta, .ref npl, .int 0, .int 0, .ref nmm, .ref ncu, .ref nke, .ref nik, .int 0, .int 0]))] := hD
  rcases hq1 with ⟨rfl, hf1⟩ | ⟨rfl, hf1⟩
  · have hf1 : (0 : Int) ≤ i0.toInt ∧ i0.toInt ≤ (10 : Int) := (by have h9 := hf1; simp only [Int32.toInt_toInt64] at h9; exact h9)
    refine lv_if_eq (tgt := 32) hx hb dX8_gust_9 (by decide) (fun c2 => absurd c2 (by decide)) (fun c2 => ?_)
    refine lv_iload_n hx hb dX8_gust_12 rfl (lv_at hl 2 rfl) ?_
    refine lv_i2l (v := i1.toInt64) hx hb dX8_gust_13 rfl ?_
    refine lv_lconst (v := 0) hx hb dX8_gust_14 (by decide) ?_
    refine lv_lconst (v := 1) hx hb dX8_gust_15 (by decide) ?_
    refine mx_i (wr := [(n, .inr (8, [.int 800, .int 0, .int 0, .int 0, .int 0, .int 0, .int 0, .ref nwi, .ref nco, .int 0, .ref nqu, .ref nmi, .ref nde, .ref nsa, .ref nsm, .int 0, .ref npa, .int 0, .ref nac, .ref nam, .ref naw, .int 0, .int 0, .int 0, .int 0, .int 0, .int 0, .int 0, .int 0, .int 0, .ref ncs, .ref nbw, .ref ndc, .ref nmk, .int 0, .int 0, .int 0, .int 0, .int 0, .int 0, .int 0, .ref npo, .int 0, .ref nta, .ref npl, .int 0, .int 0, .ref nmm, .ref ncu, .ref nke, .ref nik, .int 0, .int 0]))]) (va_runS (As := [.long (i1.toInt64), .long 0, .long 1]) (rest := []) ⟨hx, hb, hml, hown, hts⟩ (c_X8_in l dC dI cI cZ cK tS aK aV (i1.toInt64) 0 1 H.size) (va_cwS 3 hts (gw_s (fun _ h9 => List.mem_cons_of_mem _ h9) wm_383 wm_384 wm_385 wm_386) rfl rfl rfl (by decide +kernel) ⟨Nat.le_of_ble_eq_true rfl, Nat.le_of_ble_eq_true rfl⟩) (mx_preS hKx hP hD hS hA [] (by decide) rfl) rfl rfl hl.1 rfl (lv_room (Nat.le_of_ble_eq_true rfl)) dX8_gust_16 ⟨Nat.le_of_ble_eq_true rfl, Nat.le_of_ble_eq_true rfl⟩) hP hD hS hA [] [0] rfl rfl (by decide) (by decide) (fun r3 u3 H locs hq3 hP hD hS => ?_)
    replace hP : va_P (dC, dI) vwCl [(n, .inr (8, [.int 800, .int 0, .int 0, .int 0, .int 0, .int 0, .int 0, .ref nwi, .ref nco, .int 0, .ref nqu, .ref nmi, .ref nde, .ref nsa, .ref nsm, .int 0, .ref npa, .int 0, .ref nac, .ref nam, .ref naw, .int 0, .int 0, .int 0, .int 0, .int 0, .int 0, .int 0, .int 0, .int 0, .ref ncs, .ref nbw, .ref ndc, .ref nmk, .int 0, .int 0, .int 0, .int 0, .int 0, .int 0, .int 0, .ref npo, .int 0, .ref nta, .ref npl, .int 0, .int 0, .ref nmm, .ref ncu, .ref nke, .ref nik, .int 0, .int 0]))] H := hP
    replace hD : va_D A [(n, .inr (8, [.int 800, .int 0, .int 0, .int 0, .int 0, .int 0, .int 0, .ref nwi, .ref nco, .int 0, .ref nqu, .ref nmi, .ref nde, .ref nsa, .ref nsm, .int 0, .ref npa, .int 0, .ref nac, .ref nam, .ref naw, .int 0, .int 0, .int 0, .int 0, .int 0, .int 0, .int 0, .int 0, .int 0, .ref ncs, .ref nbw, .ref ndc, .ref nmk, .int 0, .int 0, .int 0, .int 0, .int 0, .int 0, .int 0, .ref npo, .int 0, .ref nta, .ref npl, .int 0, .int 0, .ref nmm, .ref ncu, .ref nke, .ref nik, .int 0, .int 0]))] := hD
    rcases hq3 with ⟨rfl, hf3⟩ | ⟨rfl, hf3⟩
    · have hf3 : (0 : Int) ≤ i1.toInt ∧ i1.toInt ≤ (1 : Int) := (by have h9 := hf3; simp only [Int32.toInt_toInt64] at h9; exact h9)
      refine lv_if_eq (tgt := 32) hx hb dX8_gust_19 (by decide) (fun c4 => absurd c4 (by decide)) (fun c4 => ?_)
      refine lv_iload_n hx hb dX8_gust_22 rfl (lv_at hl 3 rfl) ?_
      refine lv_i2l (v := i2.toInt64) hx hb dX8_gust_23 rfl ?_
      refine lv_lconst (v := 0) hx hb dX8_gust_24 (by decide) ?_
      refine lv_lconst (v := 1) hx hb dX8_gust_25 (by decide) ?_
      refine mx_i (wr := [(n, .inr (8, [.int 800, .int 0, .int 0, .int 0, .int 0, .int 0, .int 0, .ref nwi, .ref nco, .int 0, .ref nqu, .ref nmi, .ref nde, .ref nsa, .ref nsm, .int 0, .ref npa, .int 0, .ref nac, .ref nam, .ref naw, .int 0, .int 0, .int 0, .int 0, .int 0, .int 0, .int 0, .int 0, .int 0, .ref ncs, .ref nbw, .ref ndc, .ref nmk, .int 0, .int 0, .int 0, .int 0, .int 0, .int 0, .int 0, .ref npo, .int 0, .ref nta, .ref npl, .int 0, .int 0, .ref nmm, .ref ncu, .ref nke, .ref nik, .int 0, .int 0]))]) (va_runS (As := [.long (i2.toInt64), .long 0, .long 1]) (rest := []) ⟨hx, hb, hml, hown, hts⟩ (c_X8_in l dC dI cI cZ cK tS aK aV (i2.toInt64) 0 1 H.size) (va_cwS 3 hts (gw_s (fun _ h9 => List.mem_cons_of_mem _ h9) wm_383 wm_384 wm_385 wm_386) rfl rfl rfl (by decide +kernel) ⟨Nat.le_of_ble_eq_true rfl, Nat.le_of_ble_eq_true rfl⟩) (mx_preS hKx hP hD hS hA [] (by decide) rfl) rfl rfl hl.1 rfl (lv_room (Nat.le_of_ble_eq_true rfl)) dX8_gust_26 ⟨Nat.le_of_ble_eq_true rfl, Nat.le_of_ble_eq_true rfl⟩) hP hD hS hA [] [0] rfl rfl (by decide) (by decide) (fun r5 u5 H locs hq5 hP hD hS => ?_)
      replace hP : va_P (dC, dI) vwCl [(n, .inr (8, [.int 800, .int 0, .int 0, .int 0, .int 0, .int 0, .int 0, .ref nwi, .ref nco, .int 0, .ref nqu, .ref nmi, .ref nde, .ref nsa, .ref nsm, .int 0, .ref npa, .int 0, .ref nac, .ref nam, .ref naw, .int 0, .int 0, .int 0, .int 0, .int 0, .int 0, .int 0, .int 0, .int 0, .ref ncs, .ref nbw, .ref ndc, .ref nmk, .int 0, .int 0, .int 0, .int 0, .int 0, .int 0, .int 0, .ref npo, .int 0, .ref nta, .ref npl, .int 0, .int 0, .ref nmm, .ref ncu, .ref nke, .ref nik, .int 0, .int 0]))] H := hP
      replace hD : va_D A [(n, .inr (8, [.int 800, .int 0, .int 0, .int 0, .int 0, .int 0, .int 0, .ref nwi, .ref nco, .int 0, .ref nqu, .ref nmi, .ref nde, .ref nsa, .ref nsm, .int 0, .ref npa, .int 0, .ref nac, .ref nam, .ref naw, .int 0, .int 0, .int 0, .int 0, .int 0, .int 0, .int 0, .int 0, .int 0, .ref ncs, .ref nbw, .ref ndc, .ref nmk, .int 0, .int 0, .int 0, .int 0, .int 0, .int 0, .int 0, .ref npo, .int 0, .ref nta, .ref npl, .int 0, .int 0, .ref nmm, .ref ncu, .ref nke, .ref nik, .int 0, .int 0]))] := hD
      rcases hq5 with ⟨rfl, hf5⟩ | ⟨rfl, hf5⟩
      · have hf5 : (0 : Int) ≤ i2.toInt ∧ i2.toInt ≤ (1 : Int) := (by have h9 := hf5; simp only [Int32.toInt_toInt64] at h9; exact h9)
        refine lv_if_ne (tgt := 36) hx hb dX8_gust_29 (by decide) (fun c6 => ?_) (fun c6 => absurd c6 (by decide))
        exfalso; omega
      · have hf5 : i2.toInt < (0 : Int) ∨ (1 : Int) < i2.toInt := (by have h9 := hf5; simp only [Int32.toInt_toInt64] at h9; exact h9)
        refine lv_if_ne (tgt := 36) hx hb dX8_gust_29 (by decide) (fun c7 => absurd c7 (by decide)) (fun c7 => ?_)
        refine lv_ldc2 (v := (-1000000000000000002)) hx hb hown hw1 dX8_gust_32 ?_
        have hP9 := mx_subP (wc := []) hP [] rfl
        have hD9 := hD.sub (ws' := []) [] (by decide) rfl
        exact W.lret (v := (-1000000000000000002)) hx hb hr (fun t ht hW => ⟨⟨(-1000000000000000002), (), rfl, rfl, by rw [ht]; exact hP9, hD9⟩, hS.F ht⟩) hS.2.2 dX8_gust_35
    · have hf3 : i1.toInt < (0 : Int) ∨ (1 : Int) < i1.toInt := (by have h9 := hf3; simp only [Int32.toInt_toInt64] at h9; exact h9)
      refine lv_if_eq (tgt := 32) hx hb dX8_gust_19 (by decide) (fun c8 => ?_) (fun c8 => absurd c8 (by decide))
      refine lv_ldc2 (v := (-1000000000000000002)) hx hb hown hw1 dX8_gust_32 ?_
      have hP9 := mx_subP (wc := []) hP [] rfl
      have hD9 := hD.sub (ws' := []) [] (by decide) rfl
      exact W.lret (v := (-1000000000000000002)) hx hb hr (fun t ht hW => ⟨⟨(-1000000000000000002), (), rfl, rfl, by rw [ht]; exact hP9, hD9⟩, hS.F ht⟩) hS.2.2 dX8_gust_35
  · have hf1 : i0.toInt < (0 : Int) ∨ (10 : Int) < i0.toInt := (by have h9 := hf1; simp only [Int32.toInt_toInt64] at h9; exact h9)
    refine lv_if_eq (tgt := 32) hx hb dX8_gust_9 (by decide) (fun c9 => ?_) (fun c9 => absurd c9 (by decide))
    refine lv_ldc2 (v := (-1000000000000000002)) hx hb hown hw1 dX8_gust_32 ?_
    have hP9 := mx_subP (wc := []) hP [] rfl
    have hD9 := hD.sub (ws' := []) [] (by decide) rfl
    exact W.lret (v := (-1000000000000000002)) hx hb hr (fun t ht hW => ⟨⟨(-1000000000000000002), (), rfl, rfl, by rw [ht]; exact hP9, hD9⟩, hS.F ht⟩) hS.2.2 dX8_gust_35
set_option maxHeartbeats 4000000 in
set_option maxRecDepth 100000 in
theorem c_X8_week (l : Launch) (dC : Nat → ClassId) (dI : Nat → Nat → Nat) (cI cZ cK : ClassId) (tS aK aV : Nat) (n : Nat) (nwi : Nat) (nco : Nat) (nqu : Nat) (nmi : Nat) (nde : Nat) (nsa : Nat) (nsm : Nat) (npa : Nat) (nac : Nat) (nam : Nat) (naw : Nat) (ncs : Nat) (nbw : Nat) (ndc : Nat) (nmk : Nat) (npo : Nat) (nta : Nat) (npl : Nat) (nmm : Nat) (ncu : Nat) (nke : Nat) (nik : Nat) (i0 : Int32) (i1 : Int32) (i2 : Int32) (sz : Nat) : Ci l yX8_week (wq yX8_week cX8_week 12 (some .int)) ({ frames := 2, cells := 0, slots := 0, locals := 46 }) dC dI cI cZ cK tS aK aV [.ref n, .int i0, .int i1, .int i2] sz [(n, .inr (8, [.int 800, .int 0, .int 0, .int 0, .int 0, .int 0, .int 0, .ref nwi, .ref nco, .int 0, .ref nqu, .ref nmi, .ref nde, .ref nsa, .ref nsm, .int 0, .ref npa, .int 0, .ref nac, .ref nam, .ref naw, .int 0, .int 0, .int 0, .int 0, .int 0, .int 0, .int 0, .int 0, .int 0, .ref ncs, .ref nbw, .ref ndc, .ref nmk, .int 0, .int 0, .int 0, .int 0, .int 0, .int 0, .int 0, .ref npo, .int 0, .ref nta, .ref npl, .int 0, .int 0, .ref nmm, .ref ncu, .ref nke, .ref nik, .int 0, .int 0]))] (fun (r : Int32) (_ : Unit) => (r = 800 ∧ (0 ≤ i0.toInt ∧ i0.toInt ≤ 9999 ∧ 1 ≤ i1.toInt ∧ i1.toInt ≤ 50 ∧ i2.toInt = 0)) ∨ (r = 0 ∧ (0 ≤ i0.toInt ∧ i0.toInt ≤ 9999 ∧ 1 ≤ i1.toInt ∧ i1.toInt ≤ 50 ∧ 1 ≤ i2.toInt ∧ i2.toInt ≤ 2)) ∨ (r = (-2) ∧ (i0.toInt < 0 ∨ 9999 < i0.toInt ∨ i1.toInt < 1 ∨ 50 < i1.toInt ∨ i2.toInt < 0 ∨ 2 < i2.toInt))) (fun _ => []) := by
  refine Met.ofW (cc := cX8_week) (maxL := 12) (ret := (some .int)) (by decide) rfl ?_
  intro p e s m args below meth c s₁ B hml hv
  obtain ⟨rfl, hsz, hP, hKx, hD0⟩ := hv
  have hx := B.exec
  have hb := B.bytes
  have hr := B.returns
  have hts := atoms_spec (ws := wq yX8_week cX8_week 12 (some .int)) B.pre
  have hown : s.vm.findClass RX8 = some m.cls := findClass_of_methodNamed B.named
  have hlocks := B.notSynchronized
  subst hsz
  have hD := hD0.self (sz := s.heap.size)
  generalize hAe : va_A [(n, .inr (8, [.int 800, .int 0, .int 0, .int 0, .int 0, .int 0, .int 0, .ref nwi, .ref nco, .int 0, .ref nqu, .ref nmi, .ref nde, .ref nsa, .ref nsm, .int 0, .ref npa, .int 0, .ref nac, .ref nam, .ref naw, .int 0, .int 0, .int 0, .int 0, .int 0, .int 0, .int 0, .int 0, .int 0, .ref ncs, .ref nbw, .ref ndc, .ref nmk, .int 0, .int 0, .int 0, .int 0, .int 0, .int 0, .int 0, .ref npo, .int 0, .ref nta, .ref npl, .int 0, .int 0, .ref nmm, .ref ncu, .ref nke, .ref nik, .int 0, .int 0]))] s.heap.size = A at hD hKx ⊢
  have hA : ∀ q : Nat, s.heap.size ≤ q → A q := fun q h => by rw [← hAe]; exact Or.inr h
  have hS : va_S A s.heap s.heap [] := va_S.rf
  have hP : va_P (dC, dI) vwCl [(n, .inr (8, [.int 800, .int 0, .int 0, .int 0, .int 0, .int 0, .int 0, .ref nwi, .ref nco, .int 0, .ref nqu, .ref nmi, .ref nde, .ref nsa, .ref nsm, .int 0, .ref npa, .int 0, .ref nac, .ref nam, .ref naw, .int 0, .int 0, .int 0, .int 0, .int 0, .int 0, .int 0, .int 0, .int 0, .ref ncs, .ref nbw, .ref ndc, .ref nmk, .int 0, .int 0, .int 0, .int 0, .int 0, .int 0, .int 0, .ref npo, .int 0, .ref nta, .ref npl, .int 0, .int 0, .ref nmm, .ref ncu, .ref nke, .ref nik, .int 0, .int 0]))] s.heap := hP
  have hl := lv_entry ([.ref n, .int i0, .int i1, .int i2]) (n := 12) (Nat.le_of_ble_eq_true rfl)
  rw [lg_entry_eq]
  generalize (lg_sl ([.ref n, .int i0, .int i1, .int i2]) ++ List.replicate (12 - (lg_sl ([.ref n, .int i0, .int i1, .int i2])).length) Slot.unset).toArray = ls at hl ⊢
  have hl : lv_has ls 12 [(0, .ref n), (1, .int i0), (2, .int i1), (3, .int i2)] := hl
  have hK := hKx.1
  have hin8 := fun w9 h9 => List.mem_cons_of_mem (Cond.code yX8_week cX8_week 12 (some .int)) (inlX8 w9 h9)
  have hw0 := hts (.constantLong RX8 324 9999) (List.mem_cons_of_mem _ wm_532)
  have hw1 := hts (.constantLong RX8 326 50) (List.mem_cons_of_mem _ wm_533)
  have hw2 := hts (.constantLong RX8 245 2) (List.mem_cons_of_mem _ wm_477)
  have hw3 := hts (.fieldLink RX8 77 "OneCanModel" "left" "I") (List.mem_cons_of_mem _ wm_389)
  have hw4 := hts (.constantLong RX8 328 75) (List.mem_cons_of_mem _ wm_534)
  have hw5 := hts (.constantLong RX8 330 74) (List.mem_cons_of_mem _ wm_535)
  have hw6 := hts (.constantLong RX8 332 65537) (List.mem_cons_of_mem _ wm_536)
  refine lv_iload_n hx hb dX8_week_0 rfl (lv_at hl 1 rfl) ?_
  refine lv_i2l (v := i0.toInt64) hx hb dX8_week_1 rfl ?_
  refine lv_lconst (v := 0) hx hb dX8_week_2 (by decide) ?_
  refine lv_ldc2 (v := 9999) hx hb hown hw0 dX8_week_3 ?_
  refine mx_i (wr := [(n, .inr (8, [.int 800, .int 0, .int 0, .int 0, .int 0, .int 0, .int 0, .ref nwi, .ref nco, .int 0, .ref nqu, .ref nmi, .ref nde, .ref nsa, .ref nsm, .int 0, .ref npa, .int 0, .ref nac, .ref nam, .ref naw, .int 0, .int 0, .int 0, .int 0, .int 0, .int 0, .int 0, .int 0, .int 0, .ref ncs, .ref nbw, .ref ndc, .ref nmk, .int 0, .int 0, .int 0, .int 0, .int 0, .int 0, .int 0, .ref npo, .int 0, .ref nta, .ref npl, .int 0, .int 0, .ref nmm, .ref ncu, .ref nke, .ref nik, .int 0, .int 0]))]) (va_runS (As := [.long (i0.toInt64), .long 0, .long 9999]) (rest := []) ⟨hx, hb, hml, hown, hts⟩ (c_X8_in l dC dI cI cZ cK tS aK aV (i0.toInt64) 0 9999 s.heap.size) (va_cwS 3 hts (gw_s (fun _ h9 => List.mem_cons_of_mem _ h9) wm_383 wm_384 wm_385 wm_386) rfl rfl rfl (by decide +kernel) ⟨Nat.le_of_ble_eq_true rfl, Nat.le_of_ble_eq_true rfl⟩) (mx_preS hKx hP hD hS hA [] (by decide) rfl) rfl rfl hl.1 rfl (lv_room (Nat.le_of_ble_eq_true rfl)) dX8_week_6 ⟨Nat.le_of_ble_eq_true rfl, Nat.le_of_ble_eq_true rfl⟩) hP hD hS hA [] [0] rfl rfl (by decide) (by decide) (fun r1 u1 H locs hq1 hP hD hS => ?_)
  replace hP : va_P (dC, dI) vwCl [(n, .inr (8, [.int 800, .int 0, .int 0, .int 0, .int 0, .int 0, .int 0, .ref nwi, .ref nco, .int 0, .ref nqu, .ref nmi, .ref nde, .ref nsa, .ref nsm, .int 0, .ref npa, .int 0, .ref nac, .ref nam, .ref naw, .int 0, .int 0, .int 0, .int 0, .int 0, .int 0, .int 0, .int 0, .int 0, .ref ncs, .ref nbw, .ref ndc, .ref nmk, .int 0, .int 0, .int 0, .int 0, .int 0, .int 0, .int 0, .ref npo, .int 0, .ref nta, .ref npl, .int 0, .int 0, .ref nmm, .ref ncu, .ref nke, .ref nik, .int 0, .int 0]))] H := hP
  replace hD : va_D A [(n, .inr (8, [.int 800, .int 0, .int 0, .int 0, .int 0, .int 0, .int 0, .ref nwi, .ref nco, .int 0, .ref nqu, .ref nmi, .ref nde, .ref nsa, .ref nsm, .int 0, .ref npa, .int 0, .ref nac, .ref nam, .ref naw, .int 0, .int 0, .int 0, .int 0, .int 0, .int 0, .int 0, .int 0, .int 0, .ref ncs, .ref nbw, .ref ndc, .ref nmk, .int 0, .int 0, .int 0, .int 0, .int 0, .int 0, .int 0, .ref npo, .int 0, .ref nta, .ref npl, .int 0, .int 0, .ref nmm, .ref ncu, .ref nke, .ref nik, .int 0, .int 0]))] := hD
  rcases hq1 with ⟨rfl, hf1⟩ | ⟨rfl, hf1⟩
  · have hf1 : (0 : Int) ≤ i0.toInt ∧ i0.toInt ≤ (9999 : Int) := (by have h9 := hf1; simp only [Int32.toInt_toInt64] at h9; exact h9)
    refine lv_if_eq (tgt := 36) hx hb dX8_week_9 (by decide) (fun c2 => absurd c2 (by decide)) (fun c2 => ?_)
    refine lv_iload_n hx hb dX8_week_12 rfl (lv_at hl 2 rfl) ?_
    refine lv_i2l (v := i1.toInt64) hx hb dX8_week_13 rfl ?_
    refine lv_lconst (v := 1) hx hb dX8_week_14 (by decide) ?_
    refine lv_ldc2 (v := 50) hx hb hown hw1 dX8_week_15 ?_
    refine mx_i (wr := [(n, .inr (8, [.int 800, .int 0, .int 0, .int 0, .int 0, .int 0, .int 0, .ref nwi, .ref nco, .int 0, .ref nqu, .ref nmi, .ref nde, .ref nsa, .ref nsm, .int 0, .ref npa, .int 0, .ref nac, .ref nam, .ref naw, .int 0, .int 0, .int 0, .int 0, .int 0, .int 0, .int 0, .int 0, .int 0, .ref ncs, .ref nbw, .ref ndc, .ref nmk, .int 0, .int 0, .int 0, .int 0, .int 0, .int 0, .int 0, .ref npo, .int 0, .ref nta, .ref npl, .int 0, .int 0, .ref nmm, .ref ncu, .ref nke, .ref nik, .int 0, .int 0]))]) (va_runS (As := [.long (i1.toInt64), .long 1, .long 50]) (rest := []) ⟨hx, hb, hml, hown, hts⟩ (c_X8_in l dC dI cI cZ cK tS aK aV (i1.toInt64) 1 50 H.size) (va_cwS 3 hts (gw_s (fun _ h9 => List.mem_cons_of_mem _ h9) wm_383 wm_384 wm_385 wm_386) rfl rfl rfl (by decide +kernel) ⟨Nat.le_of_ble_eq_true rfl, Nat.le_of_ble_eq_true rfl⟩) (mx_preS hKx hP hD hS hA [] (by decide) rfl) rfl rfl hl.1 rfl (lv_room (Nat.le_of_ble_eq_true rfl)) dX8_week_18 ⟨Nat.le_of_ble_eq_true rfl, Nat.le_of_ble_eq_true rfl⟩) hP hD hS hA [] [0] rfl rfl (by decide) (by decide) (fun r3 u3 H locs hq3 hP hD hS => ?_)
    replace hP : va_P (dC, dI) vwCl [(n, .inr (8, [.int 800, .int 0, .int 0, .int 0, .int 0, .int 0, .int 0, .ref nwi, .ref nco, .int 0, .ref nqu, .ref nmi, .ref nde, .ref nsa, .ref nsm, .int 0, .ref npa, .int 0, .ref nac, .ref nam, .ref naw, .int 0, .int 0, .int 0, .int 0, .int 0, .int 0, .int 0, .int 0, .int 0, .ref ncs, .ref nbw, .ref ndc, .ref nmk, .int 0, .int 0, .int 0, .int 0, .int 0, .int 0, .int 0, .ref npo, .int 0, .ref nta, .ref npl, .int 0, .int 0, .ref nmm, .ref ncu, .ref nke, .ref nik, .int 0, .int 0]))] H := hP
    replace hD : va_D A [(n, .inr (8, [.int 800, .int 0, .int 0, .int 0, .int 0, .int 0, .int 0, .ref nwi, .ref nco, .int 0, .ref nqu, .ref nmi, .ref nde, .ref nsa, .ref nsm, .int 0, .ref npa, .int 0, .ref nac, .ref nam, .ref naw, .int 0, .int 0, .int 0, .int 0, .int 0, .int 0, .int 0, .int 0, .int 0, .ref ncs, .ref nbw, .ref ndc, .ref nmk, .int 0, .int 0, .int 0, .int 0, .int 0, .int 0, .int 0, .ref npo, .int 0, .ref nta, .ref npl, .int 0, .int 0, .ref nmm, .ref ncu, .ref nke, .ref nik, .int 0, .int 0]))] := hD
    rcases hq3 with ⟨rfl, hf3⟩ | ⟨rfl, hf3⟩
    · have hf3 : (1 : Int) ≤ i1.toInt ∧ i1.toInt ≤ (50 : Int) := (by have h9 := hf3; simp only [Int32.toInt_toInt64] at h9; exact h9)
      refine lv_if_eq (tgt := 36) hx hb dX8_week_21 (by decide) (fun c4 => absurd c4 (by decide)) (fun c4 => ?_)
      refine lv_iload_n hx hb dX8_week_24 rfl (lv_at hl 3 rfl) ?_
      refine lv_i2l (v := i2.toInt64) hx hb dX8_week_25 rfl ?_
      refine lv_lconst (v := 0) hx hb dX8_week_26 (by decide) ?_
      refine lv_ldc2 (v := 2) hx hb hown hw2 dX8_week_27 ?_
      refine mx_i (wr := [(n, .inr (8, [.int 800, .int 0, .int 0, .int 0, .int 0, .int 0, .int 0, .ref nwi, .ref nco, .int 0, .ref nqu, .ref nmi, .ref nde, .ref nsa, .ref nsm, .int 0, .ref npa, .int 0, .ref nac, .ref nam, .ref naw, .int 0, .int 0, .int 0, .int 0, .int 0, .int 0, .int 0, .int 0, .int 0, .ref ncs, .ref nbw, .ref ndc, .ref nmk, .int 0, .int 0, .int 0, .int 0, .int 0, .int 0, .int 0, .ref npo, .int 0, .ref nta, .ref npl, .int 0, .int 0, .ref nmm, .ref ncu, .ref nke, .ref nik, .int 0, .int 0]))]) (va_runS (As := [.long (i2.toInt64), .long 0, .long 2]) (rest := []) ⟨hx, hb, hml, hown, hts⟩ (c_X8_in l dC dI cI cZ cK tS aK aV (i2.toInt64) 0 2 H.size) (va_cwS 3 hts (gw_s (fun _ h9 => List.mem_cons_of_mem _ h9) wm_383 wm_384 wm_385 wm_386) rfl rfl rfl (by decide +kernel) ⟨Nat.le_of_ble_eq_true rfl, Nat.le_of_ble_eq_true rfl⟩) (mx_preS hKx hP hD hS hA [] (by decide) rfl) rfl rfl hl.1 rfl (lv_room (Nat.le_of_ble_eq_true rfl)) dX8_week_30 ⟨Nat.le_of_ble_eq_true rfl, Nat.le_of_ble_eq_true rfl⟩) hP hD hS hA [] [0] rfl rfl (by decide) (by decide) (fun r5 u5 H locs hq5 hP hD hS => ?_)
      replace hP : va_P (dC, dI) vwCl [(n, .inr (8, [.int 800, .int 0, .int 0, .int 0, .int 0, .int 0, .int 0, .ref nwi, .ref nco, .int 0, .ref nqu, .ref nmi, .ref nde, .ref nsa, .ref nsm, .int 0, .ref npa, .int 0, .ref nac, .ref nam, .ref naw, .int 0, .int 0, .int 0, .int 0, .int 0, .int 0, .int 0, .int 0, .int 0, .ref ncs, .ref nbw, .ref ndc, .ref nmk, .int 0, .int 0, .int 0, .int 0, .int 0, .int 0, .int 0, .ref npo, .int 0, .ref nta, .ref npl, .int 0, .int 0, .ref nmm, .ref ncu, .ref nke, .ref nik, .int 0, .int 0]))] H := hP
      replace hD : va_D A [(n, .inr (8, [.int 800, .int 0, .int 0, .int 0, .int 0, .int 0, .int 0, .ref nwi, .ref nco, .int 0, .ref nqu, .ref nmi, .ref nde, .ref nsa, .ref nsm, .int 0, .ref npa, .int 0, .ref nac, .ref nam, .ref naw, .int 0, .int 0, .int 0, .int 0, .int 0, .int 0, .int 0, .int 0, .int 0, .ref ncs, .ref nbw, .ref ndc, .ref nmk, .int 0, .int 0, .int 0, .int 0, .int 0, .int 0, .int 0, .ref npo, .int 0, .ref nta, .ref npl, .int 0, .int 0, .ref nmm, .ref ncu, .ref nke, .ref nik, .int 0, .int 0]))] := hD
      rcases hq5 with ⟨rfl, hf5⟩ | ⟨rfl, hf5⟩
      · have hf5 : (0 : Int) ≤ i2.toInt ∧ i2.toInt ≤ (2 : Int) := (by have h9 := hf5; simp only [Int32.toInt_toInt64] at h9; exact h9)
        refine lv_if_ne (tgt := 39) hx hb dX8_week_33 (by decide) (fun c6 => ?_) (fun c6 => absurd c6 (by decide))
        refine lv_iload_n hx hb dX8_week_39 rfl (lv_at hl 1 rfl) ?_
        refine lv_istore (lv' := [(4, .int i0), (0, .ref n), (1, .int i0), (2, .int i1), (3, .int i2)]) hx hb dX8_week_40 hl (by decide) rfl (fun ls hl => ?_)
        refine lv_aload_n hx hb dX8_week_42 rfl (lv_at hl 1 rfl) ?_
        refine va_get (D := (dC, dI)) (ci := 8) (v := .int 800) (C := RX8) (T := TX8) (N := 53) hx hb hts hin8 hown hK hP 0 rfl rfl 0 (by decide) hw3 (fun _ h9 => h9) rfl dX8_week_43 ?_
        refine lv_istore (lv' := [(5, .int 800), (4, .int i0), (0, .ref n), (1, .int i0), (2, .int i1), (3, .int i2)]) hx hb dX8_week_46 hl (by decide) rfl (fun ls hl => ?_)
        refine lv_iconst (v := 0) hx hb dX8_week_48 (by decide) ?_
        refine lv_istore (lv' := [(6, .int 0), (5, .int 800), (4, .int i0), (0, .ref n), (1, .int i0), (2, .int i1), (3, .int i2)]) hx hb dX8_week_49 hl (by decide) rfl (fun ls hl => ?_)
        refine lv_iconst (v := 0) hx hb dX8_week_51 (by decide) ?_
        refine lv_istore (lv' := [(7, .int 0), (6, .int 0), (5, .int 800), (4, .int i0), (0, .ref n), (1, .int i0), (2, .int i1), (3, .int i2)]) hx hb dX8_week_52 hl (by decide) rfl (fun ls hl => ?_)
        refine lv_iconst (v := 0) hx hb dX8_week_54 (by decide) ?_
        refine lv_istore (lv' := [(8, .int 0), (7, .int 0), (6, .int 0), (5, .int 800), (4, .int i0), (0, .ref n), (1, .int i0), (2, .int i1), (3, .int i2)]) hx hb dX8_week_55 hl (by decide) rfl (fun ls hl => ?_)
        have z8 : (0 : Int32).toInt = 0 := rfl
        have hl0 := hl
        clear hl
        have hP0 := hP
        clear hP
        have hD0 := hD
        clear hD
        obtain ⟨y4, y8, ex, hl, hP, hD⟩ : ∃ (y4 y8 : Int32), (0 ≤ y8.toInt ∧ y8.toInt ≤ 2 * i1.toInt) ∧ lv_has ls 12 [(8, .int y8), (7, .int 0), (6, .int 0), (5, .int 800), (4, .int y4), (0, .ref n), (1, .int i0), (2, .int i1), (3, .int i2)] ∧ va_P (dC, dI) vwCl [(n, .inr (8, [.int 800, .int 0, .int 0, .int 0, .int 0, .int 0, .int 0, .ref nwi, .ref nco, .int 0, .ref nqu, .ref nmi, .ref nde, .ref nsa, .ref nsm, .int 0, .ref npa, .int 0, .ref nac, .ref nam, .ref naw, .int 0, .int 0, .int 0, .int 0, .int 0, .int 0, .int 0, .int 0, .int 0, .ref ncs, .ref nbw, .ref ndc, .ref nmk, .int 0, .int 0, .int 0, .int 0, .int 0, .int 0, .int 0, .ref npo, .int 0, .ref nta, .ref npl, .int 0, .int 0, .ref nmm, .ref ncu, .ref nke, .ref nik, .int 0, .int 0]))] H ∧ va_D A [(n, .inr (8, [.int 800, .int 0, .int 0, .int 0, .int 0, .int 0, .int 0, .ref nwi, .ref nco, .int 0, .ref nqu, .ref nmi, .ref nde, .ref nsa, .ref nsm, .int 0, .ref npa, .int 0, .ref nac, .ref nam, .ref naw, .int 0, .int 0, .int 0, .int 0, .int 0, .int 0, .int 0, .int 0, .int 0, .ref ncs, .ref nbw, .ref ndc, .ref nmk, .int 0, .int 0, .int 0, .int 0, .int 0, .int 0, .int 0, .ref npo, .int 0, .ref nta, .ref npl, .int 0, .int 0, .ref nmm, .ref ncu, .ref nke, .ref nik, .int 0, .int 0]))] := ⟨i0, 0, by omega, hl0, hP0, hD0⟩
        clear hl0 hP0 hD0
        obtain ⟨n7, hn⟩ : ∃ n : Nat, (n : Int) = 2 * i1.toInt - y8.toInt := ⟨(2 * i1.toInt - y8.toInt).toNat, by omega⟩
        induction n7 generalizing y4 y8  ls H locs with
        | zero =>
          skip
          refine lv_iload hx hb dX8_week_57 (lv_at hl 0 rfl) ?_
          refine lv_iconst (v := 2) hx hb dX8_week_59 (by decide) ?_
          refine lv_iload_n hx hb dX8_week_60 rfl (lv_at hl 7 rfl) ?_
          refine lv_imul hx hb dX8_week_61 ?_
          refine lv_topi (fun x9 e9 => ?_)
          have f9 : x9.toInt = (2 : Int) * i1.toInt := by rw [e9]; exact tmul (by have z8 : (2 : Int32).toInt = 2 := rfl; rw [z8]; omega) (by have z8 : (2 : Int32).toInt = 2 := rfl; rw [z8]; omega)
          refine lv_icmp_ge (tgt := 199) hx hb dX8_week_62 (by decide) (fun c10 => ?_) (fun c10 => by exfalso; have t10 : y8.toInt < x9.toInt := (tnle c10); omega)
          refine lv_iload_n hx hb dX8_week_199 rfl (lv_at hl 8 rfl) ?_
          refine lv_if_ne (tgt := 208) hx hb dX8_week_200 (by decide) (fun c11 => ?_) (fun c11 => ?_)
          · have t11 : i2.toInt ≠ (0 : Int) := (tne c11)
            refine lv_iload_n hx hb dX8_week_208 rfl (lv_at hl 8 rfl) ?_
            refine lv_iconst (v := 1) hx hb dX8_week_209 (by decide) ?_
            refine lv_icmp_ne (tgt := 218) hx hb dX8_week_210 (by decide) (fun c12 => ?_) (fun c12 => ?_)
            · have t12 : i2.toInt ≠ (1 : Int) := (tne c12)
              refine lv_iload hx hb dX8_week_218 (lv_at hl 1 rfl) ?_
              have hP9 := mx_subP (wc := []) hP [] rfl
              have hD9 := hD.sub (ws' := []) [] (by decide) rfl
              exact W.iret (v := 0) hx hb hr (fun t ht hW => ⟨⟨0, (), rfl, (by first | exact Or.inl (⟨rfl, by omega⟩) | exact Or.inr (Or.inl (⟨rfl, by omega⟩)) | exact Or.inr (Or.inr (⟨rfl, by omega⟩))), by rw [ht]; exact hP9, hD9⟩, hS.F ht⟩) hS.2.2 dX8_week_220
            · have t12 : i2.toInt = (1 : Int) := (teq c12)
              refine lv_iload hx hb dX8_week_213 (lv_at hl 2 rfl) ?_
              refine lv_goto (tgt := 220) hx hb dX8_week_215 (by decide) ?_
              have hP9 := mx_subP (wc := []) hP [] rfl
              have hD9 := hD.sub (ws' := []) [] (by decide) rfl
              exact W.iret (v := 0) hx hb hr (fun t ht hW => ⟨⟨0, (), rfl, (by first | exact Or.inl (⟨rfl, by omega⟩) | exact Or.inr (Or.inl (⟨rfl, by omega⟩)) | exact Or.inr (Or.inr (⟨rfl, by omega⟩))), by rw [ht]; exact hP9, hD9⟩, hS.F ht⟩) hS.2.2 dX8_week_220
          · have t11 : i2.toInt = (0 : Int) := (teq c11)
            refine lv_iload hx hb dX8_week_203 (lv_at hl 3 rfl) ?_
            refine lv_goto (tgt := 220) hx hb dX8_week_205 (by decide) ?_
            have hP9 := mx_subP (wc := []) hP [] rfl
            have hD9 := hD.sub (ws' := []) [] (by decide) rfl
            exact W.iret (v := 800) hx hb hr (fun t ht hW => ⟨⟨800, (), rfl, (by first | exact Or.inl (⟨rfl, by omega⟩) | exact Or.inr (Or.inl (⟨rfl, by omega⟩)) | exact Or.inr (Or.inr (⟨rfl, by omega⟩))), by rw [ht]; exact hP9, hD9⟩, hS.F ht⟩) hS.2.2 dX8_week_220
        | succ n7 ih =>
          skip
          refine lv_iload hx hb dX8_week_57 (lv_at hl 0 rfl) ?_
          refine lv_iconst (v := 2) hx hb dX8_week_59 (by decide) ?_
          refine lv_iload_n hx hb dX8_week_60 rfl (lv_at hl 7 rfl) ?_
          refine lv_imul hx hb dX8_week_61 ?_
          refine lv_topi (fun x13 e13 => ?_)
          have f13 : x13.toInt = (2 : Int) * i1.toInt := by rw [e13]; exact tmul (by have z8 : (2 : Int32).toInt = 2 := rfl; rw [z8]; omega) (by have z8 : (2 : Int32).toInt = 2 := rfl; rw [z8]; omega)
          refine lv_icmp_ge (tgt := 199) hx hb dX8_week_62 (by decide) (fun c14 => by exfalso; have t14 : x13.toInt ≤ y8.toInt := (tle c14); omega) (fun c14 => ?_)
          refine lv_ldc2 (v := 75) hx hb hown hw4 dX8_week_65 ?_
          refine lv_iload hx hb dX8_week_68 (lv_at hl 4 rfl) ?_
          refine lv_i2l (v := y4.toInt64) hx hb dX8_week_70 rfl ?_
          refine lv_lmul hx hb dX8_week_71 ?_
          refine lv_topl (fun x15 e15 => ?_)
          refine lv_ldc2 (v := 74) hx hb hown hw5 dX8_week_72 ?_
          refine lv_ladd hx hb dX8_week_75 ?_
          refine lv_topl (fun x16 e16 => ?_)
          refine lv_ldc2 (v := 65537) hx hb hown hw6 dX8_week_76 ?_
          refine lv_lrem hx hb dX8_week_79 (by decide) ?_
          refine lv_topl (fun x17 e17 => ?_)
          refine lv_l2i (v := x17.toInt32) hx hb dX8_week_80 rfl ?_
          refine lv_istore (lv' := [(4, .int (x17.toInt32)), (8, .int y8), (7, .int 0), (6, .int 0), (5, .int 800), (0, .ref n), (1, .int i0), (2, .int i1), (3, .int i2)]) hx hb dX8_week_81 hl (by decide) rfl (fun ls hl => ?_)
          refine lv_iload hx hb dX8_week_83 (lv_at hl 0 rfl) ?_
          refine lv_bipush (v := 6) hx hb dX8_week_85 (by decide) ?_
          refine lv_irem hx hb dX8_week_87 (by decide) ?_
          refine lv_topi (fun x18 e18 => ?_)
          refine lv_istore (lv' := [(9, .int x18), (4, .int (x17.toInt32)), (8, .int y8), (7, .int 0), (6, .int 0), (5, .int 800), (0, .ref n), (1, .int i0), (2, .int i1), (3, .int i2)]) hx hb dX8_week_88 hl (by decide) rfl (fun ls hl => ?_)
          refine lv_aload_n hx hb dX8_week_90 rfl (lv_at hl 6 rfl) ?_
          refine lv_iload hx hb dX8_week_91 (lv_at hl 0 rfl) ?_
          refine mx_i (wr := []) (va_runV (As := [.int x18]) (rest := []) ⟨hx, hb, hml, hown, hts⟩ (c_X8_isMeal l dC dI cI cZ cK tS aK aV n nwi nco nqu nmi nde nsa nsm npa nac nam naw ncs nbw ndc nmk npo nta npl nmm ncu nke nik 800 0 0 0 0 0 0 0 0 0 0 0 0 0 0 0 0 0 0 0 0 0 0 0 0 0 0 0 0 0 x18 H.size) (cwV 1 hts (gw_v (fun _ h9 => List.mem_cons_of_mem _ h9) wm_425 wm_426 wm_427 wm_385 wm_428) rfl rfl rfl (by decide +kernel) ⟨Nat.le_of_ble_eq_true rfl, Nat.le_of_ble_eq_true rfl⟩) (mx_preV (C := RX8) (T := TX8) (N := 53) (ci := 8) hKx hP hD hS hA [0] (by decide) rfl rfl rfl) rfl rfl hl.1 rfl (lv_room (Nat.le_of_ble_eq_true rfl)) dX8_week_93 ⟨Nat.le_of_ble_eq_true rfl, Nat.le_of_ble_eq_true rfl⟩) hP hD hS hA [0] [] rfl rfl (by decide) (by decide) (fun r19 u19 H locs hq19 hP hD hS => ?_)
          replace hP : va_P (dC, dI) vwCl [(n, .inr (8, [.int 800, .int 0, .int 0, .int 0, .int 0, .int 0, .int 0, .ref nwi, .ref nco, .int 0, .ref nqu, .ref nmi, .ref nde, .ref nsa, .ref nsm, .int 0, .ref npa, .int 0, .ref nac, .ref nam, .ref naw, .int 0, .int 0, .int 0, .int 0, .int 0, .int 0, .int 0, .int 0, .int 0, .ref ncs, .ref nbw, .ref ndc, .ref nmk, .int 0, .int 0, .int 0, .int 0, .int 0, .int 0, .int 0, .ref npo, .int 0, .ref nta, .ref npl, .int 0, .int 0, .ref nmm, .ref ncu, .ref nke, .ref nik, .int 0, .int 0]))] H := hP
          replace hD : va_D A [(n, .inr (8, [.int 800, .int 0, .int 0, .int 0, .int 0, .int 0, .int 0, .ref nwi, .ref nco, .int 0, .ref nqu, .ref nmi, .ref nde, .ref nsa, .ref nsm, .int 0, .ref npa, .int 0, .ref nac, .ref nam, .ref naw, .int 0, .int 0, .int 0, .int 0, .int 0, .int 0, .int 0, .int 0, .int 0, .ref ncs, .ref nbw, .ref ndc, .ref nmk, .int 0, .int 0, .int 0, .int 0, .int 0, .int 0, .int 0, .ref npo, .int 0, .ref nta, .ref npl, .int 0, .int 0, .ref nmm, .ref ncu, .ref nke, .ref nik, .int 0, .int 0]))] := hD
          obtain rfl : r19 = 0 := hq19
          refine lv_if_eq (tgt := 193) hx hb dX8_week_96 (by decide) (fun c20 => ?_) (fun c20 => absurd c20 (by decide))
          obtain ⟨x21, e21⟩ : ∃ y : Int32, y = y8 + Int32.ofInt 1 := ⟨_, rfl⟩
          refine lv_iinc (v := x21) (lv' := [(8, .int x21), (9, .int x18), (4, .int (x17.toInt32)), (7, .int 0), (6, .int 0), (5, .int 800), (0, .ref n), (1, .int i0), (2, .int i1), (3, .int i2)]) hx hb dX8_week_193 hl (k := 2) rfl e21.symm (by decide) rfl (fun ls hl => ?_)
          have f21 : x21.toInt = y8.toInt + 1 := by rw [e21]; exact tinc (by decide) (by omega) (by omega)
          refine lv_goto (tgt := 57) hx hb dX8_week_196 (by decide) ?_
          exact ih (H := H) (locs := locs) (ls := ls) (y4 := x17.toInt32) (y8 := x21)  hS (by omega) (show lv_has ls 12 [(8, .int x21), (7, .int 0), (6, .int 0), (5, .int 800), (4, .int (x17.toInt32)), (0, .ref n), (1, .int i0), (2, .int i1), (3, .int i2)] from lv_sub hl [0, 3, 4, 5, 2, 6, 7, 8, 9] rfl) (mx_subP (wc := [(n, .inr (8, [.int 800, .int 0, .int 0, .int 0, .int 0, .int 0, .int 0, .ref nwi, .ref nco, .int 0, .ref nqu, .ref nmi, .ref nde, .ref nsa, .ref nsm, .int 0, .ref npa, .int 0, .ref nac, .ref nam, .ref naw, .int 0, .int 0, .int 0, .int 0, .int 0, .int 0, .int 0, .int 0, .int 0, .ref ncs, .ref nbw, .ref ndc, .ref nmk, .int 0, .int 0, .int 0, .int 0, .int 0, .int 0, .int 0, .ref npo, .int 0, .ref nta, .ref npl, .int 0, .int 0, .ref nmm, .ref ncu, .ref nke, .ref nik, .int 0, .int 0]))]) hP [0] rfl) (by omega)
      · have hf5 : i2.toInt < (0 : Int) ∨ (2 : Int) < i2.toInt := (by have h9 := hf5; simp only [Int32.toInt_toInt64] at h9; exact h9)
        refine lv_if_ne (tgt := 39) hx hb dX8_week_33 (by decide) (fun c22 => absurd c22 (by decide)) (fun c22 => ?_)
        refine lv_bipush (v := (-2)) hx hb dX8_week_36 (by decide) ?_
        have hP9 := mx_subP (wc := []) hP [] rfl
        have hD9 := hD.sub (ws' := []) [] (by decide) rfl
        exact W.iret (v := (-2)) hx hb hr (fun t ht hW => ⟨⟨(-2), (), rfl, (by first | exact Or.inl (⟨rfl, by omega⟩) | exact Or.inr (Or.inl (⟨rfl, by omega⟩)) | exact Or.inr (Or.inr (⟨rfl, by omega⟩))), by rw [ht]; exact hP9, hD9⟩, hS.F ht⟩) hS.2.2 dX8_week_38
    · have hf3 : i1.toInt < (1 : Int) ∨ (50 : Int) < i1.toInt := (by have h9 := hf3; simp only [Int32.toInt_toInt64] at h9; exact h9)
      refine lv_if_eq (tgt := 36) hx hb dX8_week_21 (by decide) (fun c23 => ?_) (fun c23 => absurd c23 (by decide))
      refine lv_bipush (v := (-2)) hx hb dX8_week_36 (by decide) ?_
      have hP9 := mx_subP (wc := []) hP [] rfl
      have hD9 := hD.sub (ws' := []) [] (by decide) rfl
      exact W.iret (v := (-2)) hx hb hr (fun t ht hW => ⟨⟨(-2), (), rfl, (by first | exact Or.inl (⟨rfl, by omega⟩) | exact Or.inr (Or.inl (⟨rfl, by omega⟩)) | exact Or.inr (Or.inr (⟨rfl, by omega⟩))), by rw [ht]; exact hP9, hD9⟩, hS.F ht⟩) hS.2.2 dX8_week_38
  · have hf1 : i0.toInt < (0 : Int) ∨ (9999 : Int) < i0.toInt := (by have h9 := hf1; simp only [Int32.toInt_toInt64] at h9; exact h9)
    refine lv_if_eq (tgt := 36) hx hb dX8_week_9 (by decide) (fun c24 => ?_) (fun c24 => absurd c24 (by decide))
    refine lv_bipush (v := (-2)) hx hb dX8_week_36 (by decide) ?_
    have hP9 := mx_subP (wc := []) hP [] rfl
    have hD9 := hD.sub (ws' := []) [] (by decide) rfl
    exact W.iret (v := (-2)) hx hb hr (fun t ht hW => ⟨⟨(-2), (), rfl, (by first | exact Or.inl (⟨rfl, by omega⟩) | exact Or.inr (Or.inl (⟨rfl, by omega⟩)) | exact Or.inr (Or.inr (⟨rfl, by omega⟩))), by rw [ht]; exact hP9, hD9⟩, hS.F ht⟩) hS.2.2 dX8_week_38
set_option maxHeartbeats 4000000 in
set_option maxRecDepth 100000 in
theorem c_X8_pass (l : Launch) (dC : Nat → ClassId) (dI : Nat → Nat → Nat) (cI cZ cK : ClassId) (tS aK aV : Nat) (n : Nat) (nwi : Nat) (nco : Nat) (nqu : Nat) (nmi : Nat) (nde : Nat) (nsa : Nat) (nsm : Nat) (npa : Nat) (nac : Nat) (nam : Nat) (naw : Nat) (ncs : Nat) (nbw : Nat) (ndc : Nat) (nmk : Nat) (npo : Nat) (nta : Nat) (npl : Nat) (nmm : Nat) (ncu : Nat) (nke : Nat) (nik : Nat) (vleft : Int32) (vmetres : Int32) (vshut : Int32) (vshield : Int32) (vtoday : Int32) (vbagged : Int32) (vwarmed : Int32) (vmeals : Int32) (vsights : Int32) (vpadMany : Int32) (vacts : Int32) (vgusty : Int32) (vleakAct : Int32) (vleakMuch : Int32) (vendOfCan : Int32) (vbadAct : Int32) (vbadWhy : Int32) (vburnt : Int32) (vboiled : Int32) (vhadLeft : Int32) (vhadToday : Int32) (vhadBagged : Int32) (vhadWarmed : Int32) (vleaves : Int32) (vdayThen : Int32) (vcoldThen : Int32) (vportionMany : Int32) (vleakMany : Int32) (vleakActs : Int32) (vkeptAt : Int32) (fk : Nat → Int32) (i0 : Int32) (sz : Nat) (hi0 : 0 ≤ vkeptAt.toInt ∧ vkeptAt.toInt ≤ 159) : Ci l yX8_pass (wq yX8_pass cX8_pass 3 (some .int)) ({ frames := 0, cells := 0, slots := 0, locals := 0 }) dC dI cI cZ cK tS aK aV [.ref n, .int i0] sz [(n, .inr (8, [.int vleft, .int vmetres, .int vshut, .int vshield, .int vtoday, .int vbagged, .int vwarmed, .ref nwi, .ref nco, .int vmeals, .ref nqu, .ref nmi, .ref nde, .ref nsa, .ref nsm, .int vsights, .ref npa, .int vpadMany, .ref nac, .ref nam, .ref naw, .int vacts, .int vgusty, .int vleakAct, .int vleakMuch, .int vendOfCan, .int vbadAct, .int vbadWhy, .int vburnt, .int vboiled, .ref ncs, .ref nbw, .ref ndc, .ref nmk, .int vhadLeft, .int vhadToday, .int vhadBagged, .int vhadWarmed, .int vleaves, .int vdayThen, .int vcoldThen, .ref npo, .int vportionMany, .ref nta, .ref npl, .int vleakMany, .int vleakActs, .ref nmm, .ref ncu, .ref nke, .ref nik, .int vkeptAt, .int 1])), (nke, .inl (cI, 160, .inl fk))] (fun (r : Int32) (_ : Nat → Int32) => r = i0) (fun u => [(n, .inr (8, [.int vleft, .int vmetres, .int vshut, .int vshield, .int vtoday, .int vbagged, .int vwarmed, .ref nwi, .ref nco, .int vmeals, .ref nqu, .ref nmi, .ref nde, .ref nsa, .ref nsm, .int vsights, .ref npa, .int vpadMany, .ref nac, .ref nam, .ref naw, .int vacts, .int vgusty, .int vleakAct, .int vleakMuch, .int vendOfCan, .int vbadAct, .int vbadWhy, .int vburnt, .int vboiled, .ref ncs, .ref nbw, .ref ndc, .ref nmk, .int vhadLeft, .int vhadToday, .int vhadBagged, .int vhadWarmed, .int vleaves, .int vdayThen, .int vcoldThen, .ref npo, .int vportionMany, .ref nta, .ref npl, .int vleakMany, .int vleakActs, .ref nmm, .ref ncu, .ref nke, .ref nik, .int (vkeptAt + 1), .int 1])), (nke, .inl (cI, 160, .inl u))]) := by
  refine Met.ofW (cc := cX8_pass) (maxL := 3) (ret := (some .int)) (by decide) rfl ?_
  intro p e s m args below meth c s₁ B hml hv
  obtain ⟨rfl, hsz, hP, hKx, hD0⟩ := hv
  have hx := B.exec
  have hb := B.bytes
  have hr := B.returns
  have hts := atoms_spec (ws := wq yX8_pass cX8_pass 3 (some .int)) B.pre
  have hown : s.vm.findClass RX8 = some m.cls := findClass_of_methodNamed B.named
  have hlocks := B.notSynchronized
  subst hsz
  have hD := hD0.self (sz := s.heap.size)
  generalize hAe : va_A [(n, .inr (8, [.int vleft, .int vmetres, .int vshut, .int vshield, .int vtoday, .int vbagged, .int vwarmed, .ref nwi, .ref nco, .int vmeals, .ref nqu, .ref nmi, .ref nde, .ref nsa, .ref nsm, .int vsights, .ref npa, .int vpadMany, .ref nac, .ref nam, .ref naw, .int vacts, .int vgusty, .int vleakAct, .int vleakMuch, .int vendOfCan, .int vbadAct, .int vbadWhy, .int vburnt, .int vboiled, .ref ncs, .ref nbw, .ref ndc, .ref nmk, .int vhadLeft, .int vhadToday, .int vhadBagged, .int vhadWarmed, .int vleaves, .int vdayThen, .int vcoldThen, .ref npo, .int vportionMany, .ref nta, .ref npl, .int vleakMany, .int vleakActs, .ref nmm, .ref ncu, .ref nke, .ref nik, .int vkeptAt, .int 1])), (nke, .inl (cI, 160, .inl fk))] s.heap.size = A at hD hKx ⊢
  have hA : ∀ q : Nat, s.heap.size ≤ q → A q := fun q h => by rw [← hAe]; exact Or.inr h
  have hS : va_S A s.heap s.heap [] := va_S.rf
  have hP : va_P (dC, dI) vwCl [(n, .inr (8, [.int vleft, .int vmetres, .int vshut, .int vshield, .int vtoday, .int vbagged, .int vwarmed, .ref nwi, .ref nco, .int vmeals, .ref nqu, .ref nmi, .ref nde, .ref nsa, .ref nsm, .int vsights, .ref npa, .int vpadMany, .ref nac, .ref nam, .ref naw, .int vacts, .int vgusty, .int vleakAct, .int vleakMuch, .int vendOfCan, .int vbadAct, .int vbadWhy, .int vburnt, .int vboiled, .ref ncs, .ref nbw, .ref ndc, .ref nmk, .int vhadLeft, .int vhadToday, .int vhadBagged, .int vhadWarmed, .int vleaves, .int vdayThen, .int vcoldThen, .ref npo, .int vportionMany, .ref nta, .ref npl, .int vleakMany, .int vleakActs, .ref nmm, .ref ncu, .ref nke, .ref nik, .int vkeptAt, .int 1])), (nke, .inl (cI, 160, .inl fk))] s.heap := hP
  have hl := lv_entry ([.ref n, .int i0]) (n := 3) (Nat.le_of_ble_eq_true rfl)
  rw [lg_entry_eq]
  generalize (lg_sl ([.ref n, .int i0]) ++ List.replicate (3 - (lg_sl ([.ref n, .int i0])).length) Slot.unset).toArray = ls at hl ⊢
  have hl : lv_has ls 3 [(0, .ref n), (1, .int i0)] := hl
  have hK := hKx.1
  have hin8 := fun w9 h9 => List.mem_cons_of_mem (Cond.code yX8_pass cX8_pass 3 (some .int)) (inlX8 w9 h9)
  have hw0 := hts (.fieldLink RX8 334 "OneCanModel" "isWriting" "Z") (List.mem_cons_of_mem _ wm_537)
  have hw1 := hts (.fieldLink RX8 70 "OneCanModel" "kept" "[I") (List.mem_cons_of_mem _ wm_538)
  have hw2 := hts (.fieldLink RX8 338 "OneCanModel" "keptAt" "I") (List.mem_cons_of_mem _ wm_539)
  refine lv_aload_n hx hb dX8_pass_0 rfl (lv_at hl 0 rfl) ?_
  refine va_get (D := (dC, dI)) (ci := 8) (v := .int 1) (C := RX8) (T := TX8) (N := 53) hx hb hts hin8 hown hK hP 0 rfl rfl 52 (by decide) hw0 (fun _ h9 => h9) rfl dX8_pass_1 ?_
  refine lv_if_eq (tgt := 11) hx hb dX8_pass_4 (by decide) (fun c1 => absurd c1 (by decide)) (fun c1 => ?_)
  refine lv_iload_n hx hb dX8_pass_7 rfl (lv_at hl 1 rfl) ?_
  refine lv_goto (tgt := 20) hx hb dX8_pass_8 (by decide) ?_
  refine lv_istore_n (lv' := [(2, .int i0), (0, .ref n), (1, .int i0)]) hx hb dX8_pass_20 rfl hl (by decide) rfl (fun ls hl => ?_)
  refine lv_aload_n hx hb dX8_pass_21 rfl (lv_at hl 1 rfl) ?_
  refine va_get (D := (dC, dI)) (ci := 8) (v := .ref nke) (C := RX8) (T := TX8) (N := 53) hx hb hts hin8 hown hK hP 0 rfl rfl 49 (by decide) hw1 (fun _ h9 => h9) rfl dX8_pass_22 ?_
  refine lv_aload_n hx hb dX8_pass_25 rfl (lv_at hl 1 rfl) ?_
  refine va_get (D := (dC, dI)) (ci := 8) (v := .int vkeptAt) (C := RX8) (T := TX8) (N := 53) hx hb hts hin8 hown hK hP 0 rfl rfl 51 (by decide) hw2 (fun _ h9 => h9) rfl dX8_pass_26 ?_
  refine lv_iload_n hx hb dX8_pass_29 rfl (lv_at hl 0 rfl) ?_
  refine va_iast hx hb hK hP hD hS 1 0 rfl rfl (vin (by omega) (by omega)) dX8_pass_30 (fun H locs hP hD hS => ?_)
  replace hP : va_P (dC, dI) vwCl [(n, .inr (8, [.int vleft, .int vmetres, .int vshut, .int vshield, .int vtoday, .int vbagged, .int vwarmed, .ref nwi, .ref nco, .int vmeals, .ref nqu, .ref nmi, .ref nde, .ref nsa, .ref nsm, .int vsights, .ref npa, .int vpadMany, .ref nac, .ref nam, .ref naw, .int vacts, .int vgusty, .int vleakAct, .int vleakMuch, .int vendOfCan, .int vbadAct, .int vbadWhy, .int vburnt, .int vboiled, .ref ncs, .ref nbw, .ref ndc, .ref nmk, .int vhadLeft, .int vhadToday, .int vhadBagged, .int vhadWarmed, .int vleaves, .int vdayThen, .int vcoldThen, .ref npo, .int vportionMany, .ref nta, .ref npl, .int vleakMany, .int vleakActs, .ref nmm, .ref ncu, .ref nke, .ref nik, .int vkeptAt, .int 1])), (nke, .inl (cI, 160, .inl (upd fk vkeptAt.toNatClampNeg i0)))] H := hP
  replace hD : va_D A [(n, .inr (8, [.int vleft, .int vmetres, .int vshut, .int vshield, .int vtoday, .int vbagged, .int vwarmed, .ref nwi, .ref nco, .int vmeals, .ref nqu, .ref nmi, .ref nde, .ref nsa, .ref nsm, .int vsights, .ref npa, .int vpadMany, .ref nac, .ref nam, .ref naw, .int vacts, .int vgusty, .int vleakAct, .int vleakMuch, .int vendOfCan, .int vbadAct, .int vbadWhy, .int vburnt, .int vboiled, .ref ncs, .ref nbw, .ref ndc, .ref nmk, .int vhadLeft, .int vhadToday, .int vhadBagged, .int vhadWarmed, .int vleaves, .int vdayThen, .int vcoldThen, .ref npo, .int vportionMany, .ref nta, .ref npl, .int vleakMany, .int vleakActs, .ref nmm, .ref ncu, .ref nke, .ref nik, .int vkeptAt, .int 1])), (nke, .inl (cI, 160, .inl (upd fk vkeptAt.toNatClampNeg i0)))] := hD
  refine lv_aload_n hx hb dX8_pass_31 rfl (lv_at hl 1 rfl) ?_
  refine lv_dup hx hb dX8_pass_32 rfl ?_
  refine va_get (D := (dC, dI)) (ci := 8) (v := .int vkeptAt) (C := RX8) (T := TX8) (N := 53) hx hb hts hin8 hown hK hP 0 rfl rfl 51 (by decide) hw2 (fun _ h9 => h9) rfl dX8_pass_33 ?_
  refine lv_iconst (v := 1) hx hb dX8_pass_36 (by decide) ?_
  refine lv_iadd hx hb dX8_pass_37 ?_
  refine va_put (D := (dC, dI)) (ci := 8) (v := .int (vkeptAt + 1)) (ty := .int) (C := RX8) (T := TX8) (N := 53) hx hb hts hin8 tyX8 tyX8_ok nmX8 hown hK hP hD hS 0 rfl rfl 51 (by decide) hw2 (fun _ h9 => h9) rfl (by decide +kernel) rfl rfl (Nat.le_of_ble_eq_true rfl) dX8_pass_38 (fun H locs hP hD hS => ?_)
  replace hP : va_P (dC, dI) vwCl [(n, .inr (8, [.int vleft, .int vmetres, .int vshut, .int vshield, .int vtoday, .int vbagged, .int vwarmed, .ref nwi, .ref nco, .int vmeals, .ref nqu, .ref nmi, .ref nde, .ref nsa, .ref nsm, .int vsights, .ref npa, .int vpadMany, .ref nac, .ref nam, .ref naw, .int vacts, .int vgusty, .int vleakAct, .int vleakMuch, .int vendOfCan, .int vbadAct, .int vbadWhy, .int vburnt, .int vboiled, .ref ncs, .ref nbw, .ref ndc, .ref nmk, .int vhadLeft, .int vhadToday, .int vhadBagged, .int vhadWarmed, .int vleaves, .int vdayThen, .int vcoldThen, .ref npo, .int vportionMany, .ref nta, .ref npl, .int vleakMany, .int vleakActs, .ref nmm, .ref ncu, .ref nke, .ref nik, .int (vkeptAt + 1), .int 1])), (nke, .inl (cI, 160, .inl (upd fk vkeptAt.toNatClampNeg i0)))] H := hP
  replace hD : va_D A [(n, .inr (8, [.int vleft, .int vmetres, .int vshut, .int vshield, .int vtoday, .int vbagged, .int vwarmed, .ref nwi, .ref nco, .int vmeals, .ref nqu, .ref nmi, .ref nde, .ref nsa, .ref nsm, .int vsights, .ref npa, .int vpadMany, .ref nac, .ref nam, .ref naw, .int vacts, .int vgusty, .int vleakAct, .int vleakMuch, .int vendOfCan, .int vbadAct, .int vbadWhy, .int vburnt, .int vboiled, .ref ncs, .ref nbw, .ref ndc, .ref nmk, .int vhadLeft, .int vhadToday, .int vhadBagged, .int vhadWarmed, .int vleaves, .int vdayThen, .int vcoldThen, .ref npo, .int vportionMany, .ref nta, .ref npl, .int vleakMany, .int vleakActs, .ref nmm, .ref ncu, .ref nke, .ref nik, .int (vkeptAt + 1), .int 1])), (nke, .inl (cI, 160, .inl (upd fk vkeptAt.toNatClampNeg i0)))] := hD
  refine lv_iload_n hx hb dX8_pass_41 rfl (lv_at hl 0 rfl) ?_
  have hP9 := mx_subP (wc := [(n, .inr (8, [.int vleft, .int vmetres, .int vshut, .int vshield, .int vtoday, .int vbagged, .int vwarmed, .ref nwi, .ref nco, .int vmeals, .ref nqu, .ref nmi, .ref nde, .ref nsa, .ref nsm, .int vsights, .ref npa, .int vpadMany, .ref nac, .ref nam, .ref naw, .int vacts, .int vgusty, .int vleakAct, .int vleakMuch, .int vendOfCan, .int vbadAct, .int vbadWhy, .int vburnt, .int vboiled, .ref ncs, .ref nbw, .ref ndc, .ref nmk, .int vhadLeft, .int vhadToday, .int vhadBagged, .int vhadWarmed, .int vleaves, .int vdayThen, .int vcoldThen, .ref npo, .int vportionMany, .ref nta, .ref npl, .int vleakMany, .int vleakActs, .ref nmm, .ref ncu, .ref nke, .ref nik, .int (vkeptAt + 1), .int 1])), (nke, .inl (cI, 160, .inl (upd fk vkeptAt.toNatClampNeg i0)))]) hP [0, 1] rfl
  have hD9 := hD.sub (ws' := [(n, .inr (8, [.int vleft, .int vmetres, .int vshut, .int vshield, .int vtoday, .int vbagged, .int vwarmed, .ref nwi, .ref nco, .int vmeals, .ref nqu, .ref nmi, .ref nde, .ref nsa, .ref nsm, .int vsights, .ref npa, .int vpadMany, .ref nac, .ref nam, .ref naw, .int vacts, .int vgusty, .int vleakAct, .int vleakMuch, .int vendOfCan, .int vbadAct, .int vbadWhy, .int vburnt, .int vboiled, .ref ncs, .ref nbw, .ref ndc, .ref nmk, .int vhadLeft, .int vhadToday, .int vhadBagged, .int vhadWarmed, .int vleaves, .int vdayThen, .int vcoldThen, .ref npo, .int vportionMany, .ref nta, .ref npl, .int vleakMany, .int vleakActs, .ref nmm, .ref ncu, .ref nke, .ref nik, .int (vkeptAt + 1), .int 1])), (nke, .inl (cI, 160, .inl (upd fk vkeptAt.toNatClampNeg i0)))]) [0, 1] (by decide) rfl
  exact W.iret (v := i0) hx hb hr (fun t ht hW => ⟨⟨i0, (upd fk vkeptAt.toNatClampNeg i0), rfl, rfl, by rw [ht]; exact hP9, hD9⟩, hS.F ht⟩) hS.2.2 dX8_pass_42
