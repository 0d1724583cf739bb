set_option maxHeartbeats 4000000 in
set_option maxRecDepth 100000 in
theorem c_X8_gust_0_0 (l : Launch) (dC : Nat → ClassId) (dI : Nat → Nat → Nat) (cI cZ cK : ClassId) (tS aK aV : Nat) (n : Nat) (nwi : Nat) (nco : Nat) (nqu : Nat) (nmi : Nat) (nde : Nat) (nsa : Nat) (nsm : Nat) (npa : Nat) (nac : Nat) (nam : Nat) (naw : Nat) (ncs : Nat) (nbw : Nat) (ndc : Nat) (nmk : Nat) (npo : Nat) (nta : Nat) (npl : Nat) (nmm : Nat) (ncu : Nat) (nke : Nat) (nik : Nat) (i0 : Int32) (sz : Nat) (hi0 : 0 ≤ i0.toInt ∧ i0.toInt ≤ 10) : Cl l yX8_gust (wq yX8_gust cX8_gust 13 (some .long)) ({ frames := 2, cells := 0, slots := 0, locals := 43 }) dC dI cI cZ cK tS aK aV [.ref n, .int i0, .int 0, .int 0] sz [(n, .inr (8, [.int 800, .int 0, .int 0, .int 0, .int 0, .int 0, .int 0, .ref nwi, .ref nco, .int 0, .ref nqu, .ref nmi, .ref nde, .ref nsa, .ref nsm, .int 0, .ref npa, .int 0, .ref nac, .ref nam, .ref naw, .int 0, .int 0, .int 0, .int 0, .int 0, .int 0, .int 0, .int 0, .int 0, .ref ncs, .ref nbw, .ref ndc, .ref nmk, .int 0, .int 0, .int 0, .int 0, .int 0, .int 0, .int 0, .ref npo, .int 0, .ref nta, .ref npl, .int 0, .int 0, .ref nmm, .ref ncu, .ref nke, .ref nik, .int 0, .int 0])), (ndc, .inl (cI, 14, .inl (fun _ => 0))), (nmk, .inl (cI, 61, .inl (fun _ => 0)))] (fun (r : Int64) (_ : Unit) => r = 1) (fun _ => []) := by
  refine Met.ofW (cc := cX8_gust) (maxL := 13) (ret := (some .long)) (by decide) rfl ?_
  intro p e s m args below meth c s₁ B hml hv
  obtain ⟨rfl, hsz, hP, hKx, hD0⟩ := hv
  have hx := B.exec
  have hb := B.bytes
  have hr := B.returns
  have hts := atoms_spec (ws := wq yX8_gust cX8_gust 13 (some .long)) B.pre
  have hown : s.vm.findClass RX8 = some m.cls := findClass_of_methodNamed B.named
  have hlocks := B.notSynchronized
  subst hsz
  have hD := hD0.self (sz := s.heap.size)
  generalize hAe : va_A [(n, .inr (8, [.int 800, .int 0, .int 0, .int 0, .int 0, .int 0, .int 0, .ref nwi, .ref nco, .int 0, .ref nqu, .ref nmi, .ref nde, .ref nsa, .ref nsm, .int 0, .ref npa, .int 0, .ref nac, .ref nam, .ref naw, .int 0, .int 0, .int 0, .int 0, .int 0, .int 0, .int 0, .int 0, .int 0, .ref ncs, .ref nbw, .ref ndc, .ref nmk, .int 0, .int 0, .int 0, .int 0, .int 0, .int 0, .int 0, .ref npo, .int 0, .ref nta, .ref npl, .int 0, .int 0, .ref nmm, .ref ncu, .ref nke, .ref nik, .int 0, .int 0])), (ndc, .inl (cI, 14, .inl (fun _ => 0))), (nmk, .inl (cI, 61, .inl (fun _ => 0)))] s.heap.size = A at hD hKx ⊢
  have hA : ∀ q : Nat, s.heap.size ≤ q → A q := fun q h => by rw [← hAe]; exact Or.inr h
  have hS : va_S A s.heap s.heap [] := va_S.rf
  have hP : va_P (dC, dI) vwCl [(n, .inr (8, [.int 800, .int 0, .int 0, .int 0, .int 0, .int 0, .int 0, .ref nwi, .ref nco, .int 0, .ref nqu, .ref nmi, .ref nde, .ref nsa, .ref nsm, .int 0, .ref npa, .int 0, .ref nac, .ref nam, .ref naw, .int 0, .int 0, .int 0, .int 0, .int 0, .int 0, .int 0, .int 0, .int 0, .ref ncs, .ref nbw, .ref ndc, .ref nmk, .int 0, .int 0, .int 0, .int 0, .int 0, .int 0, .int 0, .ref npo, .int 0, .ref nta, .ref npl, .int 0, .int 0, .ref nmm, .ref ncu, .ref nke, .ref nik, .int 0, .int 0])), (ndc, .inl (cI, 14, .inl (fun _ => 0))), (nmk, .inl (cI, 61, .inl (fun _ => 0)))] s.heap := hP
  have hl := lv_entry ([.ref n, .int i0, .int 0, .int 0]) (n := 13) (Nat.le_of_ble_eq_true rfl)
  rw [lg_entry_eq]
  generalize (lg_sl ([.ref n, .int i0, .int 0, .int 0]) ++ List.replicate (13 - (lg_sl ([.ref n, .int i0, .int 0, .int 0])).length) Slot.unset).toArray = ls at hl ⊢
  have hl : lv_has ls 13 [(0, .ref n), (1, .int i0), (2, .int 0), (3, .int 0)] := hl
  have hK := hKx.1
  have hin8 := fun w9 h9 => List.mem_cons_of_mem (Cond.code yX8_gust cX8_gust 13 (some .long)) (inlX8 w9 h9)
  have hw0 := hts (.constantLong RX8 302 10) (List.mem_cons_of_mem _ wm_523)
  have hw1 := hts (.fieldLink RX8 231 "OneCanModel" "dayThen" "I") (List.mem_cons_of_mem _ wm_466)
  have hw2 := hts (.fieldLink RX8 101 "OneCanModel" "today" "I") (List.mem_cons_of_mem _ wm_393)
  have hw3 := hts (.fieldLink RX8 153 "OneCanModel" "gusty" "I") (List.mem_cons_of_mem _ wm_443)
  refine lv_iload_n hx hb dX8_gust_0 rfl (lv_at hl 1 rfl) ?_
  refine lv_i2l (v := i0.toInt64) hx hb dX8_gust_1 rfl ?_
  refine lv_lconst (v := 0) hx hb dX8_gust_2 (by decide) ?_
  refine lv_ldc2 (v := 10) hx hb hown hw0 dX8_gust_3 ?_
  refine mx_i (wr := [(n, .inr (8, [.int 800, .int 0, .int 0, .int 0, .int 0, .int 0, .int 0, .ref nwi, .ref nco, .int 0, .ref nqu, .ref nmi, .ref nde, .ref nsa, .ref nsm, .int 0, .ref npa, .int 0, .ref nac, .ref nam, .ref naw, .int 0, .int 0, .int 0, .int 0, .int 0, .int 0, .int 0, .int 0, .int 0, .ref ncs, .ref nbw, .ref ndc, .ref nmk, .int 0, .int 0, .int 0, .int 0, .int 0, .int 0, .int 0, .ref npo, .int 0, .ref nta, .ref npl, .int 0, .int 0, .ref nmm, .ref ncu, .ref nke, .ref nik, .int 0, .int 0])), (ndc, .inl (cI, 14, .inl (fun _ => 0))), (nmk, .inl (cI, 61, .inl (fun _ => 0)))]) (va_runS (As := [.long (i0.toInt64), .long 0, .long 10]) (rest := []) ⟨hx, hb, hml, hown, hts⟩ (c_X8_in l dC dI cI cZ cK tS aK aV (i0.toInt64) 0 10 s.heap.size) (va_cwS 3 hts (gw_s (fun _ h9 => List.mem_cons_of_mem _ h9) wm_383 wm_384 wm_385 wm_386) rfl rfl rfl (by decide +kernel) ⟨Nat.le_of_ble_eq_true rfl, Nat.le_of_ble_eq_true rfl⟩) (mx_preS hKx hP hD hS hA [] (by decide) rfl) rfl rfl hl.1 rfl (lv_room (Nat.le_of_ble_eq_true rfl)) dX8_gust_6 ⟨Nat.le_of_ble_eq_true rfl, Nat.le_of_ble_eq_true rfl⟩) hP hD hS hA [] [0, 1, 2] rfl rfl (by decide) (by decide) (fun r1 u1 H locs hq1 hP hD hS => ?_)
  replace hP : va_P (dC, dI) vwCl [(n, .inr (8, [.int 800, .int 0, .int 0, .int 0, .int 0, .int 0, .int 0, .ref nwi, .ref nco, .int 0, .ref nqu, .ref nmi, .ref nde, .ref nsa, .ref nsm, .int 0, .ref npa, .int 0, .ref nac, .ref nam, .ref naw, .int 0, .int 0, .int 0, .int 0, .int 0, .int 0, .int 0, .int 0, .int 0, .ref ncs, .ref nbw, .ref ndc, .ref nmk, .int 0, .int 0, .int 0, .int 0, .int 0, .int 0, .int 0, .ref npo, .int 0, .ref nta, .ref npl, .int 0, .int 0, .ref nmm, .ref ncu, .ref nke, .ref nik, .int 0, .int 0])), (ndc, .inl (cI, 14, .inl (fun _ => 0))), (nmk, .inl (cI, 61, .inl (fun _ => 0)))] H := hP
  replace hD : va_D A [(n, .inr (8, [.int 800, .int 0, .int 0, .int 0, .int 0, .int 0, .int 0, .ref nwi, .ref nco, .int 0, .ref nqu, .ref nmi, .ref nde, .ref nsa, .ref nsm, .int 0, .ref npa, .int 0, .ref nac, .ref nam, .ref naw, .int 0, .int 0, .int 0, .int 0, .int 0, .int 0, .int 0, .int 0, .int 0, .ref ncs, .ref nbw, .ref ndc, .ref nmk, .int 0, .int 0, .int 0, .int 0, .int 0, .int 0, .int 0, .ref npo, .int 0, .ref nta, .ref npl, .int 0, .int 0, .ref nmm, .ref ncu, .ref nke, .ref nik, .int 0, .int 0])), (ndc, .inl (cI, 14, .inl (fun _ => 0))), (nmk, .inl (cI, 61, .inl (fun _ => 0)))] := hD
  rcases hq1 with ⟨rfl, hf1⟩ | ⟨rfl, hf1⟩
  · have hf1 : (0 : Int) ≤ i0.toInt ∧ i0.toInt ≤ (10 : Int) := (by have h9 := hf1; simp only [Int32.toInt_toInt64] at h9; exact h9)
    refine lv_if_eq (tgt := 32) hx hb dX8_gust_9 (by decide) (fun c2 => absurd c2 (by decide)) (fun c2 => ?_)
    refine lv_iload_n hx hb dX8_gust_12 rfl (lv_at hl 2 rfl) ?_
    refine lv_i2l (v := 0) hx hb dX8_gust_13 (by decide) ?_
    refine lv_lconst (v := 0) hx hb dX8_gust_14 (by decide) ?_
    refine lv_lconst (v := 1) hx hb dX8_gust_15 (by decide) ?_
    refine mx_i (wr := [(n, .inr (8, [.int 800, .int 0, .int 0, .int 0, .int 0, .int 0, .int 0, .ref nwi, .ref nco, .int 0, .ref nqu, .ref nmi, .ref nde, .ref nsa, .ref nsm, .int 0, .ref npa, .int 0, .ref nac, .ref nam, .ref naw, .int 0, .int 0, .int 0, .int 0, .int 0, .int 0, .int 0, .int 0, .int 0, .ref ncs, .ref nbw, .ref ndc, .ref nmk, .int 0, .int 0, .int 0, .int 0, .int 0, .int 0, .int 0, .ref npo, .int 0, .ref nta, .ref npl, .int 0, .int 0, .ref nmm, .ref ncu, .ref nke, .ref nik, .int 0, .int 0])), (ndc, .inl (cI, 14, .inl (fun _ => 0))), (nmk, .inl (cI, 61, .inl (fun _ => 0)))]) (va_runS (As := [.long 0, .long 0, .long 1]) (rest := []) ⟨hx, hb, hml, hown, hts⟩ (c_X8_in l dC dI cI cZ cK tS aK aV 0 0 1 H.size) (va_cwS 3 hts (gw_s (fun _ h9 => List.mem_cons_of_mem _ h9) wm_383 wm_384 wm_385 wm_386) rfl rfl rfl (by decide +kernel) ⟨Nat.le_of_ble_eq_true rfl, Nat.le_of_ble_eq_true rfl⟩) (mx_preS hKx hP hD hS hA [] (by decide) rfl) rfl rfl hl.1 rfl (lv_room (Nat.le_of_ble_eq_true rfl)) dX8_gust_16 ⟨Nat.le_of_ble_eq_true rfl, Nat.le_of_ble_eq_true rfl⟩) hP hD hS hA [] [0, 1, 2] rfl rfl (by decide) (by decide) (fun r3 u3 H locs hq3 hP hD hS => ?_)
    replace hP : va_P (dC, dI) vwCl [(n, .inr (8, [.int 800, .int 0, .int 0, .int 0, .int 0, .int 0, .int 0, .ref nwi, .ref nco, .int 0, .ref nqu, .ref nmi, .ref nde, .ref nsa, .ref nsm, .int 0, .ref npa, .int 0, .ref nac, .ref nam, .ref naw, .int 0, .int 0, .int 0, .int 0, .int 0, .int 0, .int 0, .int 0, .int 0, .ref ncs, .ref nbw, .ref ndc, .ref nmk, .int 0, .int 0, .int 0, .int 0, .int 0, .int 0, .int 0, .ref npo, .int 0, .ref nta, .ref npl, .int 0, .int 0, .ref nmm, .ref ncu, .ref nke, .ref nik, .int 0, .int 0])), (ndc, .inl (cI, 14, .inl (fun _ => 0))), (nmk, .inl (cI, 61, .inl (fun _ => 0)))] H := hP
    replace hD : va_D A [(n, .inr (8, [.int 800, .int 0, .int 0, .int 0, .int 0, .int 0, .int 0, .ref nwi, .ref nco, .int 0, .ref nqu, .ref nmi, .ref nde, .ref nsa, .ref nsm, .int 0, .ref npa, .int 0, .ref nac, .ref nam, .ref naw, .int 0, .int 0, .int 0, .int 0, .int 0, .int 0, .int 0, .int 0, .int 0, .ref ncs, .ref nbw, .ref ndc, .ref nmk, .int 0, .int 0, .int 0, .int 0, .int 0, .int 0, .int 0, .ref npo, .int 0, .ref nta, .ref npl, .int 0, .int 0, .ref nmm, .ref ncu, .ref nke, .ref nik, .int 0, .int 0])), (ndc, .inl (cI, 14, .inl (fun _ => 0))), (nmk, .inl (cI, 61, .inl (fun _ => 0)))] := hD
    rcases hq3 with ⟨rfl, hf3⟩ | ⟨rfl, hf3⟩
    · have hf3 : (0 : Int) ≤ (0 : Int) ∧ (0 : Int) ≤ (1 : Int) := hf3
      refine lv_if_eq (tgt := 32) hx hb dX8_gust_19 (by decide) (fun c4 => absurd c4 (by decide)) (fun c4 => ?_)
      refine lv_iload_n hx hb dX8_gust_22 rfl (lv_at hl 3 rfl) ?_
      refine lv_i2l (v := 0) hx hb dX8_gust_23 (by decide) ?_
      refine lv_lconst (v := 0) hx hb dX8_gust_24 (by decide) ?_
      refine lv_lconst (v := 1) hx hb dX8_gust_25 (by decide) ?_
      refine mx_i (wr := [(n, .inr (8, [.int 800, .int 0, .int 0, .int 0, .int 0, .int 0, .int 0, .ref nwi, .ref nco, .int 0, .ref nqu, .ref nmi, .ref nde, .ref nsa, .ref nsm, .int 0, .ref npa, .int 0, .ref nac, .ref nam, .ref naw, .int 0, .int 0, .int 0, .int 0, .int 0, .int 0, .int 0, .int 0, .int 0, .ref ncs, .ref nbw, .ref ndc, .ref nmk, .int 0, .int 0, .int 0, .int 0, .int 0, .int 0, .int 0, .ref npo, .int 0, .ref nta, .ref npl, .int 0, .int 0, .ref nmm, .ref ncu, .ref nke, .ref nik, .int 0, .int 0])), (ndc, .inl (cI, 14, .inl (fun _ => 0))), (nmk, .inl (cI, 61, .inl (fun _ => 0)))]) (va_runS (As := [.long 0, .long 0, .long 1]) (rest := []) ⟨hx, hb, hml, hown, hts⟩ (c_X8_in l dC dI cI cZ cK tS aK aV 0 0 1 H.size) (va_cwS 3 hts (gw_s (fun _ h9 => List.mem_cons_of_mem _ h9) wm_383 wm_384 wm_385 wm_386) rfl rfl rfl (by decide +kernel) ⟨Nat.le_of_ble_eq_true rfl, Nat.le_of_ble_eq_true rfl⟩) (mx_preS hKx hP hD hS hA [] (by decide) rfl) rfl rfl hl.1 rfl (lv_room (Nat.le_of_ble_eq_true rfl)) dX8_gust_26 ⟨Nat.le_of_ble_eq_true rfl, Nat.le_of_ble_eq_true rfl⟩) hP hD hS hA [] [0, 1, 2] rfl rfl (by decide) (by decide) (fun r5 u5 H locs hq5 hP hD hS => ?_)
      replace hP : va_P (dC, dI) vwCl [(n, .inr (8, [.int 800, .int 0, .int 0, .int 0, .int 0, .int 0, .int 0, .ref nwi, .ref nco, .int 0, .ref nqu, .ref nmi, .ref nde, .ref nsa, .ref nsm, .int 0, .ref npa, .int 0, .ref nac, .ref nam, .ref naw, .int 0, .int 0, .int 0, .int 0, .int 0, .int 0, .int 0, .int 0, .int 0, .ref ncs, .ref nbw, .ref ndc, .ref nmk, .int 0, .int 0, .int 0, .int 0, .int 0, .int 0, .int 0, .ref npo, .int 0, .ref nta, .ref npl, .int 0, .int 0, .ref nmm, .ref ncu, .ref nke, .ref nik, .int 0, .int 0])), (ndc, .inl (cI, 14, .inl (fun _ => 0))), (nmk, .inl (cI, 61, .inl (fun _ => 0)))] H := hP
      replace hD : va_D A [(n, .inr (8, [.int 800, .int 0, .int 0, .int 0, .int 0, .int 0, .int 0, .ref nwi, .ref nco, .int 0, .ref nqu, .ref nmi, .ref nde, .ref nsa, .ref nsm, .int 0, .ref npa, .int 0, .ref nac, .ref nam, .ref naw, .int 0, .int 0, .int 0, .int 0, .int 0, .int 0, .int 0, .int 0, .int 0, .ref ncs, .ref nbw, .ref ndc, .ref nmk, .int 0, .int 0, .int 0, .int 0, .int 0, .int 0, .int 0, .ref npo, .int 0, .ref nta, .ref npl, .int 0, .int 0, .ref nmm, .ref ncu, .ref nke, .ref nik, .int 0, .int 0])), (ndc, .inl (cI, 14, .inl (fun _ => 0))), (nmk, .inl (cI, 61, .inl (fun _ => 0)))] := hD
      rcases hq5 with ⟨rfl, hf5⟩ | ⟨rfl, hf5⟩
      · have hf5 : (0 : Int) ≤ (0 : Int) ∧ (0 : Int) ≤ (1 : Int) := hf5
        refine lv_if_ne (tgt := 36) hx hb dX8_gust_29 (by decide) (fun c6 => ?_) (fun c6 => absurd c6 (by decide))
        rcases (show i0 = 0 ∨ i0 = 1 ∨ i0 = 2 ∨ i0 = 3 ∨ i0 = 4 ∨ i0 = 5 ∨ i0 = 6 ∨ i0 = 7 ∨ i0 = 8 ∨ i0 = 9 ∨ i0 = 10 from by rcases (show i0.toInt = 0 ∨ i0.toInt = 1 ∨ i0.toInt = 2 ∨ i0.toInt = 3 ∨ i0.toInt = 4 ∨ i0.toInt = 5 ∨ i0.toInt = 6 ∨ i0.toInt = 7 ∨ i0.toInt = 8 ∨ i0.toInt = 9 ∨ i0.toInt = 10 by omega) with h9 | h9 | h9 | h9 | h9 | h9 | h9 | h9 | h9 | h9 | h9 <;> first | exact Or.inl (ceq h9) | exact Or.inr (Or.inl (ceq h9)) | exact Or.inr (Or.inr (Or.inl (ceq h9))) | exact Or.inr (Or.inr (Or.inr (Or.inl (ceq h9)))) | exact Or.inr (Or.inr (Or.inr (Or.inr (Or.inl (ceq h9))))) | exact Or.inr (Or.inr (Or.inr (Or.inr (Or.inr (Or.inl (ceq h9)))))) | exact Or.inr (Or.inr (Or.inr (Or.inr (Or.inr (Or.inr (Or.inl (ceq h9))))))) | exact Or.inr (Or.inr (Or.inr (Or.inr (Or.inr (Or.inr (Or.inr (Or.inl (ceq h9)))))))) | exact Or.inr (Or.inr (Or.inr (Or.inr (Or.inr (Or.inr (Or.inr (Or.inr (Or.inl (ceq h9))))))))) | exact Or.inr (Or.inr (Or.inr (Or.inr (Or.inr (Or.inr (Or.inr (Or.inr (Or.inr (Or.inl (ceq h9)))))))))) | exact Or.inr (Or.inr (Or.inr (Or.inr (Or.inr (Or.inr (Or.inr (Or.inr (Or.inr (Or.inr (ceq h9))))))))))) with rfl | rfl | rfl | rfl | rfl | rfl | rfl | rfl | rfl | rfl | rfl
        · have z9 : (0 : Int32).toInt = 0 := rfl
          refine lv_aload_n hx hb dX8_gust_36 rfl (lv_at hl 0 rfl) ?_
          refine mx_i (wr := [(ndc, .inl (cI, 14, .inl (fun _ => 0))), (nmk, .inl (cI, 61, .inl (fun _ => 0)))]) (va_runV (As := []) (rest := []) ⟨hx, hb, hml, hown, hts⟩ (c_X8_faultIn l dC dI cI cZ cK tS aK aV n nwi nco nqu nmi nde nsa nsm npa nac nam naw ncs nbw ndc nmk npo nta npl nmm ncu nke nik 800 0 0 0 0 0 0 0 0 0 0 0 0 0 0 0 0 0 0 0 0 0 0 0 0 0 0 0 0 0 H.size) (cwV 0 hts (gw_v (fun _ h9 => List.mem_cons_of_mem _ h9) wm_453 wm_454 wm_455 wm_385 wm_456) rfl rfl rfl (by decide +kernel) ⟨Nat.le_of_ble_eq_true rfl, Nat.le_of_ble_eq_true rfl⟩) (mx_preV (C := RX8) (T := TX8) (N := 53) (ci := 8) hKx hP hD hS hA [0] (by decide) rfl rfl rfl) rfl rfl hl.1 rfl (lv_room (Nat.le_of_ble_eq_true rfl)) dX8_gust_37 ⟨Nat.le_of_ble_eq_true rfl, Nat.le_of_ble_eq_true rfl⟩) hP hD hS hA [0] [1, 2] rfl rfl (by decide) (by decide) (fun r7 u7 H locs hq7 hP hD hS => ?_)
          replace hP : va_P (dC, dI) vwCl [(ndc, .inl (cI, 14, .inl (fun _ => 0))), (nmk, .inl (cI, 61, .inl (fun _ => 0))), (n, .inr (8, [.int 800, .int 0, .int 0, .int 0, .int 0, .int 0, .int 0, .ref nwi, .ref nco, .int 0, .ref nqu, .ref nmi, .ref nde, .ref nsa, .ref nsm, .int 0, .ref npa, .int 0, .ref nac, .ref nam, .ref naw, .int 0, .int 0, .int 0, .int 0, .int 0, .int 0, .int 0, .int 0, .int 0, .ref ncs, .ref nbw, .ref ndc, .ref nmk, .int 0, .int 0, .int 0, .int 0, .int 0, .int 0, .int 0, .ref npo, .int 0, .ref nta, .ref npl, .int 0, .int 0, .ref nmm, .ref ncu, .ref nke, .ref nik, .int 0, .int 0]))] H := hP
          replace hD : va_D A [(ndc, .inl (cI, 14, .inl (fun _ => 0))), (nmk, .inl (cI, 61, .inl (fun _ => 0))), (n, .inr (8, [.int 800, .int 0, .int 0, .int 0, .int 0, .int 0, .int 0, .ref nwi, .ref nco, .int 0, .ref nqu, .ref nmi, .ref nde, .ref nsa, .ref nsm, .int 0, .ref npa, .int 0, .ref nac, .ref nam, .ref naw, .int 0, .int 0, .int 0, .int 0, .int 0, .int 0, .int 0, .int 0, .int 0, .ref ncs, .ref nbw, .ref ndc, .ref nmk, .int 0, .int 0, .int 0, .int 0, .int 0, .int 0, .int 0, .ref npo, .int 0, .ref nta, .ref npl, .int 0, .int 0, .ref nmm, .ref ncu, .ref nke, .ref nik, .int 0, .int 0]))] := hD
          obtain rfl : r7 = (-6) := hq7
          refine lv_if_lt (tgt := 47) hx hb dX8_gust_40 (by decide) (fun c8 => ?_) (fun c8 => absurd c8 (by decide))
          refine lv_aload_n hx hb dX8_gust_47 rfl (lv_at hl 0 rfl) ?_
          refine mx_v (wr := [(ndc, .inl (cI, 14, .inl (fun _ => 0))), (nmk, .inl (cI, 61, .inl (fun _ => 0)))]) (va_runV (As := []) (rest := []) ⟨hx, hb, hml, hown, hts⟩ (c_X8_keepNow l dC dI cI cZ cK tS aK aV n nwi nco nqu nmi nde nsa nsm npa nac nam naw ncs nbw ndc nmk npo nta npl nmm ncu nke nik 800 0 0 0 0 0 0 0 0 0 0 0 0 0 0 0 0 0 0 0 0 0 0 0 0 0 0 0 0 0 0 H.size) (cwV 0 hts (gw_v (fun _ h9 => List.mem_cons_of_mem _ h9) wm_457 wm_458 wm_459 wm_385 wm_460) rfl rfl rfl (by decide +kernel) ⟨Nat.le_of_ble_eq_true rfl, Nat.le_of_ble_eq_true rfl⟩) (mx_preV (C := RX8) (T := TX8) (N := 53) (ci := 8) hKx hP hD hS hA [2] (by decide) rfl rfl rfl) rfl rfl hl.1 rfl (lv_room (Nat.le_of_ble_eq_true rfl)) dX8_gust_48 ⟨Nat.le_of_ble_eq_true rfl, Nat.le_of_ble_eq_true rfl⟩) hP hD hS hA [2] [0, 1] rfl rfl (by decide) (by decide) (fun u9 H locs hq9 hP hD hS => ?_)
          replace hP : va_P (dC, dI) vwCl [(ndc, .inl (cI, 14, .inl (fun _ => 0))), (nmk, .inl (cI, 61, .inl (fun _ => 0))), (n, .inr (8, [.int 800, .int 0, .int 0, .int 0, .int 0, .int 0, .int 0, .ref nwi, .ref nco, .int 0, .ref nqu, .ref nmi, .ref nde, .ref nsa, .ref nsm, .int 0, .ref npa, .int 0, .ref nac, .ref nam, .ref naw, .int 0, .int 0, .int (-6), .int 0, .int 4000, .int 0, .int 0, .int 0, .int 0, .ref ncs, .ref nbw, .ref ndc, .ref nmk, .int 800, .int 0, .int 0, .int 0, .int 0, .int 0, .int 0, .ref npo, .int 0, .ref nta, .ref npl, .int 0, .int 0, .ref nmm, .ref ncu, .ref nke, .ref nik, .int 0, .int 0]))] H := hP
          replace hD : va_D A [(ndc, .inl (cI, 14, .inl (fun _ => 0))), (nmk, .inl (cI, 61, .inl (fun _ => 0))), (n, .inr (8, [.int 800, .int 0, .int 0, .int 0, .int 0, .int 0, .int 0, .ref nwi, .ref nco, .int 0, .ref nqu, .ref nmi, .ref nde, .ref nsa, .ref nsm, .int 0, .ref npa, .int 0, .ref nac, .ref nam, .ref naw, .int 0, .int 0, .int (-6), .int 0, .int 4000, .int 0, .int 0, .int 0, .int 0, .ref ncs, .ref nbw, .ref ndc, .ref nmk, .int 800, .int 0, .int 0, .int 0, .int 0, .int 0, .int 0, .ref npo, .int 0, .ref nta, .ref npl, .int 0, .int 0, .ref nmm, .ref ncu, .ref nke, .ref nik, .int 0, .int 0]))] := hD
          refine lv_aload_n hx hb dX8_gust_51 rfl (lv_at hl 0 rfl) ?_
          refine mx_i (wr := []) (va_runV (As := []) (rest := []) ⟨hx, hb, hml, hown, hts⟩ (c_X8_canWithoutEnd l dC dI cI cZ cK tS aK aV n nwi nco nqu nmi nde nsa nsm npa nac nam naw ncs nbw ndc nmk npo nta npl nmm ncu nke nik 800 0 0 0 0 0 0 0 0 0 0 (-6) 0 4000 0 0 0 0 800 0 0 0 0 0 0 0 0 0 0 0 (fun _ => 0) (fun _ => 0) H.size) (cwV 0 hts (gw_v (fun _ h9 => List.mem_cons_of_mem _ h9) wm_519 wm_520 wm_521 wm_385 wm_522) rfl rfl rfl (by decide +kernel) ⟨Nat.le_of_ble_eq_true rfl, Nat.le_of_ble_eq_true rfl⟩) (mx_preV (C := RX8) (T := TX8) (N := 53) (ci := 8) hKx hP hD hS hA [2, 0, 1] (by decide) rfl rfl rfl) rfl rfl hl.1 rfl (lv_room (Nat.le_of_ble_eq_true rfl)) dX8_gust_52 ⟨Nat.le_of_ble_eq_true rfl, Nat.le_of_ble_eq_true rfl⟩) hP hD hS hA [2, 0, 1] [] rfl rfl (by decide) (by decide) (fun r10 u10 H locs hq10 hP hD hS => ?_)
          replace hP : va_P (dC, dI) vwCl [(n, .inr (8, [.int 800, .int 0, .int 0, .int 0, .int 0, .int 0, .int 0, .ref nwi, .ref nco, .int 0, .ref nqu, .ref nmi, .ref nde, .ref nsa, .ref nsm, .int 0, .ref npa, .int 0, .ref nac, .ref nam, .ref naw, .int 0, .int 0, .int (-6), .int 0, .int 4000, .int (-6), .int (-6), .int 0, .int 0, .ref ncs, .ref nbw, .ref ndc, .ref nmk, .int 800, .int 0, .int 0, .int 0, .int 0, .int 0, .int 0, .ref npo, .int 0, .ref nta, .ref npl, .int 0, .int 0, .ref nmm, .ref ncu, .ref nke, .ref nik, .int 0, .int 0])), (ndc, .inl (cI, 14, .inl (upd (upd (upd (upd (upd (upd (upd (upd (upd (upd (upd (upd (upd (upd (fun _ => 0) 0 0) 1 0) 2 0) 3 0) 4 0) 5 0) 6 0) 7 0) 8 0) 9 0) 10 0) 11 0) 12 0) 13 0))), (nmk, .inl (cI, 61, .inl (upd (fun _ => 0) 0 5000000)))] H := hP
          replace hD : va_D A [(n, .inr (8, [.int 800, .int 0, .int 0, .int 0, .int 0, .int 0, .int 0, .ref nwi, .ref nco, .int 0, .ref nqu, .ref nmi, .ref nde, .ref nsa, .ref nsm, .int 0, .ref npa, .int 0, .ref nac, .ref nam, .ref naw, .int 0, .int 0, .int (-6), .int 0, .int 4000, .int (-6), .int (-6), .int 0, .int 0, .ref ncs, .ref nbw, .ref ndc, .ref nmk, .int 800, .int 0, .int 0, .int 0, .int 0, .int 0, .int 0, .ref npo, .int 0, .ref nta, .ref npl, .int 0, .int 0, .ref nmm, .ref ncu, .ref nke, .ref nik, .int 0, .int 0])), (ndc, .inl (cI, 14, .inl (upd (upd (upd (upd (upd (upd (upd (upd (upd (upd (upd (upd (upd (upd (fun _ => 0) 0 0) 1 0) 2 0) 3 0) 4 0) 5 0) 6 0) 7 0) 8 0) 9 0) 10 0) 11 0) 12 0) 13 0))), (nmk, .inl (cI, 61, .inl (upd (fun _ => 0) 0 5000000)))] := hD
          obtain rfl : r10 = 1 := hq10
          refine lv_if_ne (tgt := 62) hx hb dX8_gust_55 (by decide) (fun c11 => ?_) (fun c11 => absurd c11 (by decide))
          refine lv_aload_n hx hb dX8_gust_62 rfl (lv_at hl 0 rfl) ?_
          refine va_get (D := (dC, dI)) (ci := 8) (v := .int 0) (C := RX8) (T := TX8) (N := 53) hx hb hts hin8 hown hK hP 0 rfl rfl 39 (by decide) hw1 (fun _ h9 => h9) rfl dX8_gust_63 ?_
          refine lv_aload_n hx hb dX8_gust_66 rfl (lv_at hl 0 rfl) ?_
          refine va_get (D := (dC, dI)) (ci := 8) (v := .int 0) (C := RX8) (T := TX8) (N := 53) hx hb hts hin8 hown hK hP 0 rfl rfl 4 (by decide) hw2 (fun _ h9 => h9) rfl dX8_gust_67 ?_
          refine lv_isub hx hb dX8_gust_70 ?_
          refine lv_topi (fun x12 e12 => ?_)
          obtain rfl : x12 = 0 := e12.trans (by decide)
          refine lv_iconst (v := 1) hx hb dX8_gust_71 (by decide) ?_
          refine lv_iadd hx hb dX8_gust_72 ?_
          refine lv_topi (fun x13 e13 => ?_)
          obtain rfl : x13 = 1 := e13.trans (by decide)
          refine lv_istore (lv' := [(4, .int 1), (0, .ref n), (1, .int 0), (2, .int 0), (3, .int 0)]) hx hb dX8_gust_73 hl (by decide) rfl (fun ls hl => ?_)
          refine lv_iload hx hb dX8_gust_75 (lv_at hl 0 rfl) ?_
          refine lv_bipush (v := 8) hx hb dX8_gust_77 (by decide) ?_
          refine lv_icmp_le (tgt := 86) hx hb dX8_gust_79 (by decide) (fun c14 => ?_) (fun c14 => absurd c14 (by decide))
          refine lv_lconst (v := 0) hx hb dX8_gust_86 (by decide) ?_
          refine lv_lstore (lv' := [(5, .long 0), (4, .int 1), (0, .ref n), (1, .int 0), (2, .int 0), (3, .int 0)]) hx hb dX8_gust_87 hl (by decide) rfl (fun ls hl => ?_)
          refine lv_lconst (v := 0) hx hb dX8_gust_89 (by decide) ?_
          refine lv_lstore (lv' := [(7, .long 0), (5, .long 0), (4, .int 1), (0, .ref n), (1, .int 0), (2, .int 0), (3, .int 0)]) hx hb dX8_gust_90 hl (by decide) rfl (fun ls hl => ?_)
          refine lv_iconst (v := 0) hx hb dX8_gust_92 (by decide) ?_
          refine lv_istore (lv' := [(9, .int 0), (7, .long 0), (5, .long 0), (4, .int 1), (0, .ref n), (1, .int 0), (2, .int 0), (3, .int 0)]) hx hb dX8_gust_93 hl (by decide) rfl (fun ls hl => ?_)
          refine lv_iload hx hb dX8_gust_95 (lv_at hl 0 rfl) ?_
          refine lv_iconst (v := 1) hx hb dX8_gust_97 (by decide) ?_
          refine lv_iload hx hb dX8_gust_98 (lv_at hl 3 rfl) ?_
          refine lv_ishl hx hb dX8_gust_100 ?_
          refine lv_topi (fun x15 e15 => ?_)
          obtain rfl : x15 = 2 := e15.trans (by decide)
          refine lv_icmp_ge (tgt := 187) hx hb dX8_gust_101 (by decide) (fun c16 => absurd c16 (by decide)) (fun c16 => ?_)
          refine lv_lconst (v := 1) hx hb dX8_gust_104 (by decide) ?_
          refine lv_lstore (lv' := [(10, .long 1), (9, .int 0), (7, .long 0), (5, .long 0), (4, .int 1), (0, .ref n), (1, .int 0), (2, .int 0), (3, .int 0)]) hx hb dX8_gust_105 hl (by decide) rfl (fun ls hl => ?_)
          refine lv_iconst (v := 0) hx hb dX8_gust_107 (by decide) ?_
          refine lv_istore (lv' := [(12, .int 0), (10, .long 1), (9, .int 0), (7, .long 0), (5, .long 0), (4, .int 1), (0, .ref n), (1, .int 0), (2, .int 0), (3, .int 0)]) hx hb dX8_gust_108 hl (by decide) rfl (fun ls hl => ?_)
          refine lv_iload hx hb dX8_gust_110 (lv_at hl 0 rfl) ?_
          refine lv_iload hx hb dX8_gust_112 (lv_at hl 5 rfl) ?_
          refine lv_icmp_ge (tgt := 149) hx hb dX8_gust_114 (by decide) (fun c17 => absurd c17 (by decide)) (fun c17 => ?_)
          refine lv_lload hx hb dX8_gust_117 (lv_at hl 1 rfl) ?_
          refine lv_iload hx hb dX8_gust_119 (lv_at hl 2 rfl) ?_
          refine lv_iload hx hb dX8_gust_121 (lv_at hl 0 rfl) ?_
          refine lv_ishr hx hb dX8_gust_123 ?_
          refine lv_topi (fun x18 e18 => ?_)
          obtain rfl : x18 = 0 := e18.trans (by decide)
          refine lv_iconst (v := 1) hx hb dX8_gust_124 (by decide) ?_
          refine lv_iand hx hb dX8_gust_125 ?_
          refine lv_topi (fun x19 e19 => ?_)
          obtain rfl : x19 = 0 := e19.trans (by decide)
          refine lv_iconst (v := 1) hx hb dX8_gust_126 (by decide) ?_
          refine lv_icmp_ne (tgt := 135) hx hb dX8_gust_127 (by decide) (fun c20 => ?_) (fun c20 => absurd c20 (by decide))
          refine lv_bipush (v := 10) hx hb dX8_gust_135 (by decide) ?_
          refine lv_iload_n hx hb dX8_gust_137 rfl (lv_at hl 7 rfl) ?_
          refine lv_isub hx hb dX8_gust_138 ?_
          refine lv_topi (fun x21 e21 => ?_)
          obtain rfl : x21 = 10 := e21.trans (by decide)
          refine lv_i2l (v := 10) hx hb dX8_gust_139 (by decide) ?_
          refine lv_lmul hx hb dX8_gust_140 ?_
          refine lv_topl (fun x22 e22 => ?_)
          obtain rfl : x22 = 10 := e22.trans (by decide)
          refine lv_lstore (lv' := [(10, .long 10), (12, .int 0), (9, .int 0), (7, .long 0), (5, .long 0), (4, .int 1), (0, .ref n), (1, .int 0), (2, .int 0), (3, .int 0)]) hx hb dX8_gust_141 hl (by decide) rfl (fun ls hl => ?_)
          refine lv_iinc (v := 1) (lv' := [(12, .int 1), (10, .long 10), (9, .int 0), (7, .long 0), (5, .long 0), (4, .int 1), (0, .ref n), (1, .int 0), (2, .int 0), (3, .int 0)]) hx hb dX8_gust_143 hl (k := 1) rfl (by decide) (by decide) rfl (fun ls hl => ?_)
          refine lv_goto (tgt := 110) hx hb dX8_gust_146 (by decide) ?_
          refine lv_iload hx hb dX8_gust_110 (lv_at hl 0 rfl) ?_
          refine lv_iload hx hb dX8_gust_112 (lv_at hl 5 rfl) ?_
          refine lv_icmp_ge (tgt := 149) hx hb dX8_gust_114 (by decide) (fun c23 => ?_) (fun c23 => absurd c23 (by decide))
          refine lv_aload_n hx hb dX8_gust_149 rfl (lv_at hl 6 rfl) ?_
          refine lv_iload hx hb dX8_gust_150 (lv_at hl 2 rfl) ?_
          refine lv_aload_n hx hb dX8_gust_152 rfl (lv_at hl 6 rfl) ?_
          refine va_get (D := (dC, dI)) (ci := 8) (v := .int 0) (C := RX8) (T := TX8) (N := 53) hx hb hts hin8 hown hK hP 0 rfl rfl 4 (by decide) hw2 (fun _ h9 => h9) rfl dX8_gust_153 ?_
          refine lv_ishl hx hb dX8_gust_156 ?_
          refine lv_topi (fun x24 e24 => ?_)
          obtain rfl : x24 = 0 := e24.trans (by decide)
          refine va_put (D := (dC, dI)) (ci := 8) (v := .int 0) (ty := .int) (C := RX8) (T := TX8) (N := 53) hx hb hts hin8 tyX8 tyX8_ok nmX8 hown hK hP hD hS 0 rfl rfl 22 (by decide) hw3 (fun _ h9 => h9) rfl (by decide +kernel) rfl rfl (Nat.le_of_ble_eq_true rfl) dX8_gust_157 (fun H locs hP hD hS => ?_)
          replace hP : va_P (dC, dI) vwCl [(n, .inr (8, [.int 800, .int 0, .int 0, .int 0, .int 0, .int 0, .int 0, .ref nwi, .ref nco, .int 0, .ref nqu, .ref nmi, .ref nde, .ref nsa, .ref nsm, .int 0, .ref npa, .int 0, .ref nac, .ref nam, .ref naw, .int 0, .int 0, .int (-6), .int 0, .int 4000, .int (-6), .int (-6), .int 0, .int 0, .ref ncs, .ref nbw, .ref ndc, .ref nmk, .int 800, .int 0, .int 0, .int 0, .int 0, .int 0, .int 0, .ref npo, .int 0, .ref nta, .ref npl, .int 0, .int 0, .ref nmm, .ref ncu, .ref nke, .ref nik, .int 0, .int 0])), (ndc, .inl (cI, 14, .inl (upd (upd (upd (upd (upd (upd (upd (upd (upd (upd (upd (upd (upd (upd (fun _ => 0) 0 0) 1 0) 2 0) 3 0) 4 0) 5 0) 6 0) 7 0) 8 0) 9 0) 10 0) 11 0) 12 0) 13 0))), (nmk, .inl (cI, 61, .inl (upd (fun _ => 0) 0 5000000)))] H := hP
          replace hD : va_D A [(n, .inr (8, [.int 800, .int 0, .int 0, .int 0, .int 0, .int 0, .int 0, .ref nwi, .ref nco, .int 0, .ref nqu, .ref nmi, .ref nde, .ref nsa, .ref nsm, .int 0, .ref npa, .int 0, .ref nac, .ref nam, .ref naw, .int 0, .int 0, .int (-6), .int 0, .int 4000, .int (-6), .int (-6), .int 0, .int 0, .ref ncs, .ref nbw, .ref ndc, .ref nmk, .int 800, .int 0, .int 0, .int 0, .int 0, .int 0, .int 0, .ref npo, .int 0, .ref nta, .ref npl, .int 0, .int 0, .ref nmm, .ref ncu, .ref nke, .ref nik, .int 0, .int 0])), (ndc, .inl (cI, 14, .inl (upd (upd (upd (upd (upd (upd (upd (upd (upd (upd (upd (upd (upd (upd (fun _ => 0) 0 0) 1 0) 2 0) 3 0) 4 0) 5 0) 6 0) 7 0) 8 0) 9 0) 10 0) 11 0) 12 0) 13 0))), (nmk, .inl (cI, 61, .inl (upd (fun _ => 0) 0 5000000)))] := hD
          refine lv_lload hx hb dX8_gust_160 (lv_at hl 3 rfl) ?_
          refine lv_lload hx hb dX8_gust_162 (lv_at hl 1 rfl) ?_
          refine lv_ladd hx hb dX8_gust_164 ?_
          refine lv_topl (fun x25 e25 => ?_)
          obtain rfl : x25 = 10 := e25.trans (by decide)
          refine lv_lstore (lv' := [(7, .long 10), (12, .int 1), (10, .long 10), (9, .int 0), (5, .long 0), (4, .int 1), (0, .ref n), (1, .int 0), (2, .int 0), (3, .int 0)]) hx hb dX8_gust_165 hl (by decide) rfl (fun ls hl => ?_)
          refine lv_lload hx hb dX8_gust_167 (lv_at hl 4 rfl) ?_
          refine lv_lload hx hb dX8_gust_169 (lv_at hl 2 rfl) ?_
          refine lv_aload_n hx hb dX8_gust_171 rfl (lv_at hl 6 rfl) ?_
          refine lv_iload_n hx hb dX8_gust_172 rfl (lv_at hl 8 rfl) ?_
          refine mx_i (wr := []) (va_runV (As := [.int 0]) (rest := [.long 10, .long 0]) ⟨hx, hb, hml, hown, hts⟩ (c_X8_worthOfGusts_0 l dC dI cI cZ cK tS aK aV n nwi nco nqu nmi nde nsa nsm npa nac nam naw ncs nbw ndc nmk npo nta npl nmm ncu nke nik 0 0 0 0 0 0 0 0 0 0 (-6) 0 4000 (-6) (-6) 0 0 800 0 0 0 0 0 0 0 0 0 0 0 (upd (upd (upd (upd (upd (upd (upd (upd (upd (upd (upd (upd (upd (upd (fun _ => 0) 0 0) 1 0) 2 0) 3 0) 4 0) 5 0) 6 0) 7 0) 8 0) 9 0) 10 0) 11 0) 12 0) 13 0) (upd (fun _ => 0) 0 5000000) H.size) (cwV 1 hts (gw_v (fun _ h9 => List.mem_cons_of_mem _ h9) wm_524 wm_525 wm_526 wm_385 wm_527) rfl rfl rfl (by decide +kernel) ⟨Nat.le_of_ble_eq_true rfl, Nat.le_of_ble_eq_true rfl⟩) (mx_preV (C := RX8) (T := TX8) (N := 53) (ci := 8) hKx hP hD hS hA [0, 1, 2] (by decide) rfl rfl rfl) rfl rfl hl.1 rfl (lv_room (Nat.le_of_ble_eq_true rfl)) dX8_gust_173 ⟨Nat.le_of_ble_eq_true rfl, Nat.le_of_ble_eq_true rfl⟩) hP hD hS hA [0, 1, 2] [] rfl rfl (by decide) (by decide) (fun r26 u26 H locs hq26 hP hD hS => ?_)
          replace hP : va_P (dC, dI) vwCl [(n, .inr (8, [.int 800, .int 0, .int 0, .int 0, .int 0, .int 0, .int 0, .ref nwi, .ref nco, .int 0, .ref nqu, .ref nmi, .ref nde, .ref nsa, .ref nsm, .int 0, .ref npa, .int 0, .ref nac, .ref nam, .ref naw, .int 0, .int 0, .int (-6), .int 0, .int 4000, .int (-6), .int (-6), .int 0, .int 0, .ref ncs, .ref nbw, .ref ndc, .ref nmk, .int 800, .int 0, .int 0, .int 0, .int 0, .int 0, .int 0, .ref npo, .int 0, .ref nta, .ref npl, .int 0, .int 0, .ref nmm, .ref ncu, .ref nke, .ref nik, .int 0, .int 0])), (ndc, .inl (cI, 14, .inl (upd (upd (upd (upd (upd (upd (upd (upd (upd (upd (upd (upd (upd (upd (upd (upd (upd (upd (upd (upd (upd (upd (upd (upd (upd (upd (upd (upd (fun _ => 0) 0 0) 1 0) 2 0) 3 0) 4 0) 5 0) 6 0) 7 0) 8 0) 9 0) 10 0) 11 0) 12 0) 13 0) 0 0) 1 0) 2 0) 3 0) 4 0) 5 0) 6 0) 7 0) 8 0) 9 0) 10 0) 11 0) 12 0) 13 0))), (nmk, .inl (cI, 61, .inl (upd (upd (fun _ => 0) 0 5000000) 0 4)))] H := hP
          replace hD : va_D A [(n, .inr (8, [.int 800, .int 0, .int 0, .int 0, .int 0, .int 0, .int 0, .ref nwi, .ref nco, .int 0, .ref nqu, .ref nmi, .ref nde, .ref nsa, .ref nsm, .int 0, .ref npa, .int 0, .ref nac, .ref nam, .ref naw, .int 0, .int 0, .int (-6), .int 0, .int 4000, .int (-6), .int (-6), .int 0, .int 0, .ref ncs, .ref nbw, .ref ndc, .ref nmk, .int 800, .int 0, .int 0, .int 0, .int 0, .int 0, .int 0, .ref npo, .int 0, .ref nta, .ref npl, .int 0, .int 0, .ref nmm, .ref ncu, .ref nke, .ref nik, .int 0, .int 0])), (ndc, .inl (cI, 14, .inl (upd (upd (upd (upd (upd (upd (upd (upd (upd (upd (upd (upd (upd (upd (upd (upd (upd (upd (upd (upd (upd (upd (upd (upd (upd (upd (upd (upd (fun _ => 0) 0 0) 1 0) 2 0) 3 0) 4 0) 5 0) 6 0) 7 0) 8 0) 9 0) 10 0) 11 0) 12 0) 13 0) 0 0) 1 0) 2 0) 3 0) 4 0) 5 0) 6 0) 7 0) 8 0) 9 0) 10 0) 11 0) 12 0) 13 0))), (nmk, .inl (cI, 61, .inl (upd (upd (fun _ => 0) 0 5000000) 0 4)))] := hD
          obtain rfl : r26 = 1 := hq26
          refine lv_i2l (v := 1) hx hb dX8_gust_176 (by decide) ?_
          refine lv_lmul hx hb dX8_gust_177 ?_
          refine lv_topl (fun x27 e27 => ?_)
          obtain rfl : x27 = 10 := e27.trans (by decide)
          refine lv_ladd hx hb dX8_gust_178 ?_
          refine lv_topl (fun x28 e28 => ?_)
          obtain rfl : x28 = 10 := e28.trans (by decide)
          refine lv_lstore (lv' := [(5, .long 10), (7, .long 10), (12, .int 1), (10, .long 10), (9, .int 0), (4, .int 1), (0, .ref n), (1, .int 0), (2, .int 0), (3, .int 0)]) hx hb dX8_gust_179 hl (by decide) rfl (fun ls hl => ?_)
          refine lv_iinc (v := 1) (lv' := [(9, .int 1), (5, .long 10), (7, .long 10), (12, .int 1), (10, .long 10), (4, .int 1), (0, .ref n), (1, .int 0), (2, .int 0), (3, .int 0)]) hx hb dX8_gust_181 hl (k := 4) rfl (by decide) (by decide) rfl (fun ls hl => ?_)
          refine lv_goto (tgt := 95) hx hb dX8_gust_184 (by decide) ?_
          refine lv_iload hx hb dX8_gust_95 (lv_at hl 0 rfl) ?_
          refine lv_iconst (v := 1) hx hb dX8_gust_97 (by decide) ?_
          refine lv_iload hx hb dX8_gust_98 (lv_at hl 5 rfl) ?_
          refine lv_ishl hx hb dX8_gust_100 ?_
          refine lv_topi (fun x29 e29 => ?_)
          obtain rfl : x29 = 2 := e29.trans (by decide)
          refine lv_icmp_ge (tgt := 187) hx hb dX8_gust_101 (by decide) (fun c30 => absurd c30 (by decide)) (fun c30 => ?_)
          refine lv_lconst (v := 1) hx hb dX8_gust_104 (by decide) ?_
          refine lv_lstore (lv' := [(10, .long 1), (9, .int 1), (5, .long 10), (7, .long 10), (12, .int 1), (4, .int 1), (0, .ref n), (1, .int 0), (2, .int 0), (3, .int 0)]) hx hb dX8_gust_105 hl (by decide) rfl (fun ls hl => ?_)
          refine lv_iconst (v := 0) hx hb dX8_gust_107 (by decide) ?_
          refine lv_istore (lv' := [(12, .int 0), (10, .long 1), (9, .int 1), (5, .long 10), (7, .long 10), (4, .int 1), (0, .ref n), (1, .int 0), (2, .int 0), (3, .int 0)]) hx hb dX8_gust_108 hl (by decide) rfl (fun ls hl => ?_)
          refine lv_iload hx hb dX8_gust_110 (lv_at hl 0 rfl) ?_
          refine lv_iload hx hb dX8_gust_112 (lv_at hl 5 rfl) ?_
          refine lv_icmp_ge (tgt := 149) hx hb dX8_gust_114 (by decide) (fun c31 => absurd c31 (by decide)) (fun c31 => ?_)
          refine lv_lload hx hb dX8_gust_117 (lv_at hl 1 rfl) ?_
          refine lv_iload hx hb dX8_gust_119 (lv_at hl 2 rfl) ?_
          refine lv_iload hx hb dX8_gust_121 (lv_at hl 0 rfl) ?_
          refine lv_ishr hx hb dX8_gust_123 ?_
          refine lv_topi (fun x32 e32 => ?_)
          obtain rfl : x32 = 1 := e32.trans (by decide)
          refine lv_iconst (v := 1) hx hb dX8_gust_124 (by decide) ?_
          refine lv_iand hx hb dX8_gust_125 ?_
          refine lv_topi (fun x33 e33 => ?_)
          obtain rfl : x33 = 1 := e33.trans (by decide)
          refine lv_iconst (v := 1) hx hb dX8_gust_126 (by decide) ?_
          refine lv_icmp_ne (tgt := 135) hx hb dX8_gust_127 (by decide) (fun c34 => absurd c34 (by decide)) (fun c34 => ?_)
          refine lv_iload_n hx hb dX8_gust_130 rfl (lv_at hl 7 rfl) ?_
          refine lv_i2l (v := 0) hx hb dX8_gust_131 (by decide) ?_
          refine lv_goto (tgt := 140) hx hb dX8_gust_132 (by decide) ?_
          refine lv_lmul hx hb dX8_gust_140 ?_
          refine lv_topl (fun x35 e35 => ?_)
          obtain rfl : x35 = 0 := e35.trans (by decide)
          refine lv_lstore (lv' := [(10, .long 0), (12, .int 0), (9, .int 1), (5, .long 10), (7, .long 10), (4, .int 1), (0, .ref n), (1, .int 0), (2, .int 0), (3, .int 0)]) hx hb dX8_gust_141 hl (by decide) rfl (fun ls hl => ?_)
          refine lv_iinc (v := 1) (lv' := [(12, .int 1), (10, .long 0), (9, .int 1), (5, .long 10), (7, .long 10), (4, .int 1), (0, .ref n), (1, .int 0), (2, .int 0), (3, .int 0)]) hx hb dX8_gust_143 hl (k := 1) rfl (by decide) (by decide) rfl (fun ls hl => ?_)
          refine lv_goto (tgt := 110) hx hb dX8_gust_146 (by decide) ?_
          refine lv_iload hx hb dX8_gust_110 (lv_at hl 0 rfl) ?_
          refine lv_iload hx hb dX8_gust_112 (lv_at hl 5 rfl) ?_
          refine lv_icmp_ge (tgt := 149) hx hb dX8_gust_114 (by decide) (fun c36 => ?_) (fun c36 => absurd c36 (by decide))
          refine lv_aload_n hx hb dX8_gust_149 rfl (lv_at hl 6 rfl) ?_
          refine lv_iload hx hb dX8_gust_150 (lv_at hl 2 rfl) ?_
          refine lv_aload_n hx hb dX8_gust_152 rfl (lv_at hl 6 rfl) ?_
          refine va_get (D := (dC, dI)) (ci := 8) (v := .int 0) (C := RX8) (T := TX8) (N := 53) hx hb hts hin8 hown hK hP 0 rfl rfl 4 (by decide) hw2 (fun _ h9 => h9) rfl dX8_gust_153 ?_
          refine lv_ishl hx hb dX8_gust_156 ?_
          refine lv_topi (fun x37 e37 => ?_)
          obtain rfl : x37 = 1 := e37.trans (by decide)
          refine va_put (D := (dC, dI)) (ci := 8) (v := .int 1) (ty := .int) (C := RX8) (T := TX8) (N := 53) hx hb hts hin8 tyX8 tyX8_ok nmX8 hown hK hP hD hS 0 rfl rfl 22 (by decide) hw3 (fun _ h9 => h9) rfl (by decide +kernel) rfl rfl (Nat.le_of_ble_eq_true rfl) dX8_gust_157 (fun H locs hP hD hS => ?_)
          replace hP : va_P (dC, dI) vwCl [(n, .inr (8, [.int 800, .int 0, .int 0, .int 0, .int 0, .int 0, .int 0, .ref nwi, .ref nco, .int 0, .ref nqu, .ref nmi, .ref nde, .ref nsa, .ref nsm, .int 0, .ref npa, .int 0, .ref nac, .ref nam, .ref naw, .int 0, .int 1, .int (-6), .int 0, .int 4000, .int (-6), .int (-6), .int 0, .int 0, .ref ncs, .ref nbw, .ref ndc, .ref nmk, .int 800, .int 0, .int 0, .int 0, .int 0, .int 0, .int 0, .ref npo, .int 0, .ref nta, .ref npl, .int 0, .int 0, .ref nmm, .ref ncu, .ref nke, .ref nik, .int 0, .int 0])), (ndc, .inl (cI, 14, .inl (upd (upd (upd (upd (upd (upd (upd (upd (upd (upd (upd (upd (upd (upd (upd (upd (upd (upd (upd (upd (upd (upd (upd (upd (upd (upd (upd (upd (fun _ => 0) 0 0) 1 0) 2 0) 3 0) 4 0) 5 0) 6 0) 7 0) 8 0) 9 0) 10 0) 11 0) 12 0) 13 0) 0 0) 1 0) 2 0) 3 0) 4 0) 5 0) 6 0) 7 0) 8 0) 9 0) 10 0) 11 0) 12 0) 13 0))), (nmk, .inl (cI, 61, .inl (upd (upd (fun _ => 0) 0 5000000) 0 4)))] H := hP
          replace hD : va_D A [(n, .inr (8, [.int 800, .int 0, .int 0, .int 0, .int 0, .int 0, .int 0, .ref nwi, .ref nco, .int 0, .ref nqu, .ref nmi, .ref nde, .ref nsa, .ref nsm, .int 0, .ref npa, .int 0, .ref nac, .ref nam, .ref naw, .int 0, .int 1, .int (-6), .int 0, .int 4000, .int (-6), .int (-6), .int 0, .int 0, .ref ncs, .ref nbw, .ref ndc, .ref nmk, .int 800, .int 0, .int 0, .int 0, .int 0, .int 0, .int 0, .ref npo, .int 0, .ref nta, .ref npl, .int 0, .int 0, .ref nmm, .ref ncu, .ref nke, .ref nik, .int 0, .int 0])), (ndc, .inl (cI, 14, .inl (upd (upd (upd (upd (upd (upd (upd (upd (upd (upd (upd (upd (upd (upd (upd (upd (upd (upd (upd (upd (upd (upd (upd (upd (upd (upd (upd (upd (fun _ => 0) 0 0) 1 0) 2 0) 3 0) 4 0) 5 0) 6 0) 7 0) 8 0) 9 0) 10 0) 11 0) 12 0) 13 0) 0 0) 1 0) 2 0) 3 0) 4 0) 5 0) 6 0) 7 0) 8 0) 9 0) 10 0) 11 0) 12 0) 13 0))), (nmk, .inl (cI, 61, .inl (upd (upd (fun _ => 0) 0 5000000) 0 4)))] := hD
          refine lv_lload hx hb dX8_gust_160 (lv_at hl 4 rfl) ?_
          refine lv_lload hx hb dX8_gust_162 (lv_at hl 1 rfl) ?_
          refine lv_ladd hx hb dX8_gust_164 ?_
          refine lv_topl (fun x38 e38 => ?_)
          obtain rfl : x38 = 10 := e38.trans (by decide)
          refine lv_lstore (lv' := [(7, .long 10), (12, .int 1), (10, .long 0), (9, .int 1), (5, .long 10), (4, .int 1), (0, .ref n), (1, .int 0), (2, .int 0), (3, .int 0)]) hx hb dX8_gust_165 hl (by decide) rfl (fun ls hl => ?_)
          refine lv_lload hx hb dX8_gust_167 (lv_at hl 4 rfl) ?_
          refine lv_lload hx hb dX8_gust_169 (lv_at hl 2 rfl) ?_
          refine lv_aload_n hx hb dX8_gust_171 rfl (lv_at hl 6 rfl) ?_
          refine lv_iload_n hx hb dX8_gust_172 rfl (lv_at hl 8 rfl) ?_
          refine mx_i (wr := []) (va_runV (As := [.int 0]) (rest := [.long 0, .long 10]) ⟨hx, hb, hml, hown, hts⟩ (c_X8_worthOfGusts_0 l dC dI cI cZ cK tS aK aV n nwi nco nqu nmi nde nsa nsm npa nac nam naw ncs nbw ndc nmk npo nta npl nmm ncu nke nik 0 0 0 0 0 0 0 0 0 1 (-6) 0 4000 (-6) (-6) 0 0 800 0 0 0 0 0 0 0 0 0 0 0 (upd (upd (upd (upd (upd (upd (upd (upd (upd (upd (upd (upd (upd (upd (upd (upd (upd (upd (upd (upd (upd (upd (upd (upd (upd (upd (upd (upd (fun _ => 0) 0 0) 1 0) 2 0) 3 0) 4 0) 5 0) 6 0) 7 0) 8 0) 9 0) 10 0) 11 0) 12 0) 13 0) 0 0) 1 0) 2 0) 3 0) 4 0) 5 0) 6 0) 7 0) 8 0) 9 0) 10 0) 11 0) 12 0) 13 0) (upd (upd (fun _ => 0) 0 5000000) 0 4) H.size) (cwV 1 hts (gw_v (fun _ h9 => List.mem_cons_of_mem _ h9) wm_524 wm_525 wm_526 wm_385 wm_527) rfl rfl rfl (by decide +kernel) ⟨Nat.le_of_ble_eq_true rfl, Nat.le_of_ble_eq_true rfl⟩) (mx_preV (C := RX8) (T := TX8) (N := 53) (ci := 8) hKx hP hD hS hA [0, 1, 2] (by decide) rfl rfl rfl) rfl rfl hl.1 rfl (lv_room (Nat.le_of_ble_eq_true rfl)) dX8_gust_173 ⟨Nat.le_of_ble_eq_true rfl, Nat.le_of_ble_eq_true rfl⟩) hP hD hS hA [0, 1, 2] [] rfl rfl (by decide) (by decide) (fun r39 u39 H locs hq39 hP hD hS => ?_)
          replace hP : va_P (dC, dI) vwCl [(n, .inr (8, [.int 800, .int 0, .int 0, .int 0, .int 0, .int 0, .int 0, .ref nwi, .ref nco, .int 0, .ref nqu, .ref nmi, .ref nde, .ref nsa, .ref nsm, .int 0, .ref npa, .int 0, .ref nac, .ref nam, .ref naw, .int 0, .int 1, .int (-6), .int 0, .int 4000, .int (-6), .int (-6), .int 0, .int 0, .ref ncs, .ref nbw, .ref ndc, .ref nmk, .int 800, .int 0, .int 0, .int 0, .int 0, .int 0, .int 0, .ref npo, .int 0, .ref nta, .ref npl, .int 0, .int 0, .ref nmm, .ref ncu, .ref nke, .ref nik, .int 0, .int 0])), (ndc, .inl (cI, 14, .inl (upd (upd (upd (upd (upd (upd (upd (upd (upd (upd (upd (upd (upd (upd (upd (upd (upd (upd (upd (upd (upd (upd (upd (upd (upd (upd (upd (upd (upd (upd (upd (upd (upd (upd (upd (upd (upd (upd (upd (upd (upd (upd (fun _ => 0) 0 0) 1 0) 2 0) 3 0) 4 0) 5 0) 6 0) 7 0) 8 0) 9 0) 10 0) 11 0) 12 0) 13 0) 0 0) 1 0) 2 0) 3 0) 4 0) 5 0) 6 0) 7 0) 8 0) 9 0) 10 0) 11 0) 12 0) 13 0) 0 0) 1 0) 2 0) 3 0) 4 0) 5 0) 6 0) 7 0) 8 0) 9 0) 10 0) 11 0) 12 0) 13 0))), (nmk, .inl (cI, 61, .inl (upd (upd (upd (fun _ => 0) 0 5000000) 0 4) 0 4)))] H := hP
          replace hD : va_D A [(n, .inr (8, [.int 800, .int 0, .int 0, .int 0, .int 0, .int 0, .int 0, .ref nwi, .ref nco, .int 0, .ref nqu, .ref nmi, .ref nde, .ref nsa, .ref nsm, .int 0, .ref npa, .int 0, .ref nac, .ref nam, .ref naw, .int 0, .int 1, .int (-6), .int 0, .int 4000, .int (-6), .int (-6), .int 0, .int 0, .ref ncs, .ref nbw, .ref ndc, .ref nmk, .int 800, .int 0, .int 0, .int 0, .int 0, .int 0, .int 0, .ref npo, .int 0, .ref nta, .ref npl, .int 0, .int 0, .ref nmm, .ref ncu, .ref nke, .ref nik, .int 0, .int 0])), (ndc, .inl (cI, 14, .inl (upd (upd (upd (upd (upd (upd (upd (upd (upd (upd (upd (upd (upd (upd (upd (upd (upd (upd (upd (upd (upd (upd (upd (upd (upd (upd (upd (upd (upd (upd (upd (upd (upd (upd (upd (upd (upd (upd (upd (upd (upd (upd (fun _ => 0) 0 0) 1 0) 2 0) 3 0) 4 0) 5 0) 6 0) 7 0) 8 0) 9 0) 10 0) 11 0) 12 0) 13 0) 0 0) 1 0) 2 0) 3 0) 4 0) 5 0) 6 0) 7 0) 8 0) 9 0) 10 0) 11 0) 12 0) 13 0) 0 0) 1 0) 2 0) 3 0) 4 0) 5 0) 6 0) 7 0) 8 0) 9 0) 10 0) 11 0) 12 0) 13 0))), (nmk, .inl (cI, 61, .inl (upd (upd (upd (fun _ => 0) 0 5000000) 0 4) 0 4)))] := hD
          obtain rfl : r39 = 1 := hq39
          refine lv_i2l (v := 1) hx hb dX8_gust_176 (by decide) ?_
          refine lv_lmul hx hb dX8_gust_177 ?_
          refine lv_topl (fun x40 e40 => ?_)
          obtain rfl : x40 = 0 := e40.trans (by decide)
          refine lv_ladd hx hb dX8_gust_178 ?_
          refine lv_topl (fun x41 e41 => ?_)
          obtain rfl : x41 = 10 := e41.trans (by decide)
          refine lv_lstore (lv' := [(5, .long 10), (7, .long 10), (12, .int 1), (10, .long 0), (9, .int 1), (4, .int 1), (0, .ref n), (1, .int 0), (2, .int 0), (3, .int 0)]) hx hb dX8_gust_179 hl (by decide) rfl (fun ls hl => ?_)
          refine lv_iinc (v := 2) (lv' := [(9, .int 2), (5, .long 10), (7, .long 10), (12, .int 1), (10, .long 0), (4, .int 1), (0, .ref n), (1, .int 0), (2, .int 0), (3, .int 0)]) hx hb dX8_gust_181 hl (k := 4) rfl (by decide) (by decide) rfl (fun ls hl => ?_)
          refine lv_goto (tgt := 95) hx hb dX8_gust_184 (by decide) ?_
          refine lv_iload hx hb dX8_gust_95 (lv_at hl 0 rfl) ?_
          refine lv_iconst (v := 1) hx hb dX8_gust_97 (by decide) ?_
          refine lv_iload hx hb dX8_gust_98 (lv_at hl 5 rfl) ?_
          refine lv_ishl hx hb dX8_gust_100 ?_
          refine lv_topi (fun x42 e42 => ?_)
          obtain rfl : x42 = 2 := e42.trans (by decide)
          refine lv_icmp_ge (tgt := 187) hx hb dX8_gust_101 (by decide) (fun c43 => ?_) (fun c43 => absurd c43 (by decide))
          refine lv_aload_n hx hb dX8_gust_187 rfl (lv_at hl 6 rfl) ?_
          refine lv_iconst (v := 0) hx hb dX8_gust_188 (by decide) ?_
          refine va_put (D := (dC, dI)) (ci := 8) (v := .int 0) (ty := .int) (C := RX8) (T := TX8) (N := 53) hx hb hts hin8 tyX8 tyX8_ok nmX8 hown hK hP hD hS 0 rfl rfl 22 (by decide) hw3 (fun _ h9 => h9) rfl (by decide +kernel) rfl rfl (Nat.le_of_ble_eq_true rfl) dX8_gust_189 (fun H locs hP hD hS => ?_)
          replace hP : va_P (dC, dI) vwCl [(n, .inr (8, [.int 800, .int 0, .int 0, .int 0, .int 0, .int 0, .int 0, .ref nwi, .ref nco, .int 0, .ref nqu, .ref nmi, .ref nde, .ref nsa, .ref nsm, .int 0, .ref npa, .int 0, .ref nac, .ref nam, .ref naw, .int 0, .int 0, .int (-6), .int 0, .int 4000, .int (-6), .int (-6), .int 0, .int 0, .ref ncs, .ref nbw, .ref ndc, .ref nmk, .int 800, .int 0, .int 0, .int 0, .int 0, .int 0, .int 0, .ref npo, .int 0, .ref nta, .ref npl, .int 0, .int 0, .ref nmm, .ref ncu, .ref nke, .ref nik, .int 0, .int 0])), (ndc, .inl (cI, 14, .inl (upd (upd (upd (upd (upd (upd (upd (upd (upd (upd (upd (upd (upd (upd (upd (upd (upd (upd (upd (upd (upd (upd (upd (upd (upd (upd (upd (upd (upd (upd (upd (upd (upd (upd (upd (upd (upd (upd (upd (upd (upd (upd (fun _ => 0) 0 0) 1 0) 2 0) 3 0) 4 0) 5 0) 6 0) 7 0) 8 0) 9 0) 10 0) 11 0) 12 0) 13 0) 0 0) 1 0) 2 0) 3 0) 4 0) 5 0) 6 0) 7 0) 8 0) 9 0) 10 0) 11 0) 12 0) 13 0) 0 0) 1 0) 2 0) 3 0) 4 0) 5 0) 6 0) 7 0) 8 0) 9 0) 10 0) 11 0) 12 0) 13 0))), (nmk, .inl (cI, 61, .inl (upd (upd (upd (fun _ => 0) 0 5000000) 0 4) 0 4)))] H := hP
          replace hD : va_D A [(n, .inr (8, [.int 800, .int 0, .int 0, .int 0, .int 0, .int 0, .int 0, .ref nwi, .ref nco, .int 0, .ref nqu, .ref nmi, .ref nde, .ref nsa, .ref nsm, .int 0, .ref npa, .int 0, .ref nac, .ref nam, .ref naw, .int 0, .int 0, .int (-6), .int 0, .int 4000, .int (-6), .int (-6), .int 0, .int 0, .ref ncs, .ref nbw, .ref ndc, .ref nmk, .int 800, .int 0, .int 0, .int 0, .int 0, .int 0, .int 0, .ref npo, .int 0, .ref nta, .ref npl, .int 0, .int 0, .ref nmm, .ref ncu, .ref nke, .ref nik, .int 0, .int 0])), (ndc, .inl (cI, 14, .inl (upd (upd (upd (upd (upd (upd (upd (upd (upd (upd (upd (upd (upd (upd (upd (upd (upd (upd (upd (upd (upd (upd (upd (upd (upd (upd (upd (upd (upd (upd (upd (upd (upd (upd (upd (upd (upd (upd (upd (upd (upd (upd (fun _ => 0) 0 0) 1 0) 2 0) 3 0) 4 0) 5 0) 6 0) 7 0) 8 0) 9 0) 10 0) 11 0) 12 0) 13 0) 0 0) 1 0) 2 0) 3 0) 4 0) 5 0) 6 0) 7 0) 8 0) 9 0) 10 0) 11 0) 12 0) 13 0) 0 0) 1 0) 2 0) 3 0) 4 0) 5 0) 6 0) 7 0) 8 0) 9 0) 10 0) 11 0) 12 0) 13 0))), (nmk, .inl (cI, 61, .inl (upd (upd (upd (fun _ => 0) 0 5000000) 0 4) 0 4)))] := hD
          refine lv_lload hx hb dX8_gust_192 (lv_at hl 1 rfl) ?_
          refine lv_lload hx hb dX8_gust_194 (lv_at hl 2 rfl) ?_
          refine lv_iload_n hx hb dX8_gust_196 rfl (lv_at hl 9 rfl) ?_
          refine mx_l (wr := [(n, .inr (8, [.int 800, .int 0, .int 0, .int 0, .int 0, .int 0, .int 0, .ref nwi, .ref nco, .int 0, .ref nqu, .ref nmi, .ref nde, .ref nsa, .ref nsm, .int 0, .ref npa, .int 0, .ref nac, .ref nam, .ref naw, .int 0, .int 0, .int (-6), .int 0, .int 4000, .int (-6), .int (-6), .int 0, .int 0, .ref ncs, .ref nbw, .ref ndc, .ref nmk, .int 800, .int 0, .int 0, .int 0, .int 0, .int 0, .int 0, .ref npo, .int 0, .ref nta, .ref npl, .int 0, .int 0, .ref nmm, .ref ncu, .ref nke, .ref nik, .int 0, .int 0])), (ndc, .inl (cI, 14, .inl (upd (upd (upd (upd (upd (upd (upd (upd (upd (upd (upd (upd (upd (upd (upd (upd (upd (upd (upd (upd (upd (upd (upd (upd (upd (upd (upd (upd (upd (upd (upd (upd (upd (upd (upd (upd (upd (upd (upd (upd (upd (upd (fun _ => 0) 0 0) 1 0) 2 0) 3 0) 4 0) 5 0) 6 0) 7 0) 8 0) 9 0) 10 0) 11 0) 12 0) 13 0) 0 0) 1 0) 2 0) 3 0) 4 0) 5 0) 6 0) 7 0) 8 0) 9 0) 10 0) 11 0) 12 0) 13 0) 0 0) 1 0) 2 0) 3 0) 4 0) 5 0) 6 0) 7 0) 8 0) 9 0) 10 0) 11 0) 12 0) 13 0))), (nmk, .inl (cI, 61, .inl (upd (upd (upd (fun _ => 0) 0 5000000) 0 4) 0 4)))]) (va_runS (As := [.long 10, .long 10, .int 0]) (rest := []) ⟨hx, hb, hml, hown, hts⟩ (c_X8_lowest_10_0 l dC dI cI cZ cK tS aK aV  H.size) (va_cwS 3 hts (gw_s (fun _ h9 => List.mem_cons_of_mem _ h9) wm_528 wm_529 wm_385 wm_530) rfl rfl rfl (by decide +kernel) ⟨Nat.le_of_ble_eq_true rfl, Nat.le_of_ble_eq_true rfl⟩) (mx_preS hKx hP hD hS hA [] (by decide) rfl) rfl rfl hl.1 rfl (lv_room (Nat.le_of_ble_eq_true rfl)) dX8_gust_197 ⟨Nat.le_of_ble_eq_true rfl, Nat.le_of_ble_eq_true rfl⟩) hP hD hS hA [] [0, 1, 2] rfl rfl (by decide) (by decide) (fun r44 u44 H locs hq44 hP hD hS => ?_)
          replace hP : va_P (dC, dI) vwCl [(n, .inr (8, [.int 800, .int 0, .int 0, .int 0, .int 0, .int 0, .int 0, .ref nwi, .ref nco, .int 0, .ref nqu, .ref nmi, .ref nde, .ref nsa, .ref nsm, .int 0, .ref npa, .int 0, .ref nac, .ref nam, .ref naw, .int 0, .int 0, .int (-6), .int 0, .int 4000, .int (-6), .int (-6), .int 0, .int 0, .ref ncs, .ref nbw, .ref ndc, .ref nmk, .int 800, .int 0, .int 0, .int 0, .int 0, .int 0, .int 0, .ref npo, .int 0, .ref nta, .ref npl, .int 0, .int 0, .ref nmm, .ref ncu, .ref nke, .ref nik, .int 0, .int 0])), (ndc, .inl (cI, 14, .inl (upd (upd (upd (upd (upd (upd (upd (upd (upd (upd (upd (upd (upd (upd (upd (upd (upd (upd (upd (upd (upd (upd (upd (upd (upd (upd (upd (upd (upd (upd (upd (upd (upd (upd (upd (upd (upd (upd (upd (upd (upd (upd (fun _ => 0) 0 0) 1 0) 2 0) 3 0) 4 0) 5 0) 6 0) 7 0) 8 0) 9 0) 10 0) 11 0) 12 0) 13 0) 0 0) 1 0) 2 0) 3 0) 4 0) 5 0) 6 0) 7 0) 8 0) 9 0) 10 0) 11 0) 12 0) 13 0) 0 0) 1 0) 2 0) 3 0) 4 0) 5 0) 6 0) 7 0) 8 0) 9 0) 10 0) 11 0) 12 0) 13 0))), (nmk, .inl (cI, 61, .inl (upd (upd (upd (fun _ => 0) 0 5000000) 0 4) 0 4)))] H := hP
          replace hD : va_D A [(n, .inr (8, [.int 800, .int 0, .int 0, .int 0, .int 0, .int 0, .int 0, .ref nwi, .ref nco, .int 0, .ref nqu, .ref nmi, .ref nde, .ref nsa, .ref nsm, .int 0, .ref npa, .int 0, .ref nac, .ref nam, .ref naw, .int 0, .int 0, .int (-6), .int 0, .int 4000, .int (-6), .int (-6), .int 0, .int 0, .ref ncs, .ref nbw, .ref ndc, .ref nmk, .int 800, .int 0, .int 0, .int 0, .int 0, .int 0, .int 0, .ref npo, .int 0, .ref nta, .ref npl, .int 0, .int 0, .ref nmm, .ref ncu, .ref nke, .ref nik, .int 0, .int 0])), (ndc, .inl (cI, 14, .inl (upd (upd (upd (upd (upd (upd (upd (upd (upd (upd (upd (upd (upd (upd (upd (upd (upd (upd (upd (upd (upd (upd (upd (upd (upd (upd (upd (upd (upd (upd (upd (upd (upd (upd (upd (upd (upd (upd (upd (upd (upd (upd (fun _ => 0) 0 0) 1 0) 2 0) 3 0) 4 0) 5 0) 6 0) 7 0) 8 0) 9 0) 10 0) 11 0) 12 0) 13 0) 0 0) 1 0) 2 0) 3 0) 4 0) 5 0) 6 0) 7 0) 8 0) 9 0) 10 0) 11 0) 12 0) 13 0) 0 0) 1 0) 2 0) 3 0) 4 0) 5 0) 6 0) 7 0) 8 0) 9 0) 10 0) 11 0) 12 0) 13 0))), (nmk, .inl (cI, 61, .inl (upd (upd (upd (fun _ => 0) 0 5000000) 0 4) 0 4)))] := hD
          obtain rfl : r44 = 1 := hq44
          have hP9 := mx_subP (wc := []) hP [] rfl
          have hD9 := hD.sub (ws' := []) [] (by decide) rfl
          exact W.lret (v := 1) hx hb hr (fun t ht hW => ⟨⟨1, (), rfl, rfl, by rw [ht]; exact hP9, hD9⟩, hS.F ht⟩) hS.2.2 dX8_gust_200
        · have z9 : (1 : Int32).toInt = 1 := rfl
          refine lv_aload_n hx hb dX8_gust_36 rfl (lv_at hl 0 rfl) ?_
          refine mx_i (wr := [(ndc, .inl (cI, 14, .inl (fun _ => 0))), (nmk, .inl (cI, 61, .inl (fun _ => 0)))]) (va_runV (As := []) (rest := []) ⟨hx, hb, hml, hown, hts⟩ (c_X8_faultIn l dC dI cI cZ cK tS aK aV n nwi nco nqu nmi nde nsa nsm npa nac nam naw ncs nbw ndc nmk npo nta npl nmm ncu nke nik 800 0 0 0 0 0 0 0 0 0 0 0 0 0 0 0 0 0 0 0 0 0 0 0 0 0 0 0 0 0 H.size) (cwV 0 hts (gw_v (fun _ h9 => List.mem_cons_of_mem _ h9) wm_453 wm_454 wm_455 wm_385 wm_456) rfl rfl rfl (by decide +kernel) ⟨Nat.le_of_ble_eq_true rfl, Nat.le_of_ble_eq_true rfl⟩) (mx_preV (C := RX8) (T := TX8) (N := 53) (ci := 8) hKx hP hD hS hA [0] (by decide) rfl rfl rfl) rfl rfl hl.1 rfl (lv_room (Nat.le_of_ble_eq_true rfl)) dX8_gust_37 ⟨Nat.le_of_ble_eq_true rfl, Nat.le_of_ble_eq_true rfl⟩) hP hD hS hA [0] [1, 2] rfl rfl (by decide) (by decide) (fun r45 u45 H locs hq45 hP hD hS => ?_)
          replace hP : va_P (dC, dI) vwCl [(ndc, .inl (cI, 14, .inl (fun _ => 0))), (nmk, .inl (cI, 61, .inl (fun _ => 0))), (n, .inr (8, [.int 800, .int 0, .int 0, .int 0, .int 0, .int 0, .int 0, .ref nwi, .ref nco, .int 0, .ref nqu, .ref nmi, .ref nde, .ref nsa, .ref nsm, .int 0, .ref npa, .int 0, .ref nac, .ref nam, .ref naw, .int 0, .int 0, .int 0, .int 0, .int 0, .int 0, .int 0, .int 0, .int 0, .ref ncs, .ref nbw, .ref ndc, .ref nmk, .int 0, .int 0, .int 0, .int 0, .int 0, .int 0, .int 0, .ref npo, .int 0, .ref nta, .ref npl, .int 0, .int 0, .ref nmm, .ref ncu, .ref nke, .ref nik, .int 0, .int 0]))] H := hP
          replace hD : va_D A [(ndc, .inl (cI, 14, .inl (fun _ => 0))), (nmk, .inl (cI, 61, .inl (fun _ => 0))), (n, .inr (8, [.int 800, .int 0, .int 0, .int 0, .int 0, .int 0, .int 0, .ref nwi, .ref nco, .int 0, .ref nqu, .ref nmi, .ref nde, .ref nsa, .ref nsm, .int 0, .ref npa, .int 0, .ref nac, .ref nam, .ref naw, .int 0, .int 0, .int 0, .int 0, .int 0, .int 0, .int 0, .int 0, .int 0, .ref ncs, .ref nbw, .ref ndc, .ref nmk, .int 0, .int 0, .int 0, .int 0, .int 0, .int 0, .int 0, .ref npo, .int 0, .ref nta, .ref npl, .int 0, .int 0, .ref nmm, .ref ncu, .ref nke, .ref nik, .int 0, .int 0]))] := hD
          obtain rfl : r45 = (-6) := hq45
          refine lv_if_lt (tgt := 47) hx hb dX8_gust_40 (by decide) (fun c46 => ?_) (fun c46 => absurd c46 (by decide))
          refine lv_aload_n hx hb dX8_gust_47 rfl (lv_at hl 0 rfl) ?_
          refine mx_v (wr := [(ndc, .inl (cI, 14, .inl (fun _ => 0))), (nmk, .inl (cI, 61, .inl (fun _ => 0)))]) (va_runV (As := []) (rest := []) ⟨hx, hb, hml, hown, hts⟩ (c_X8_keepNow l dC dI cI cZ cK tS aK aV n nwi nco nqu nmi nde nsa nsm npa nac nam naw ncs nbw ndc nmk npo nta npl nmm ncu nke nik 800 0 0 0 0 0 0 0 0 0 0 0 0 0 0 0 0 0 0 0 0 0 0 0 0 0 0 0 0 0 0 H.size) (cwV 0 hts (gw_v (fun _ h9 => List.mem_cons_of_mem _ h9) wm_457 wm_458 wm_459 wm_385 wm_460) rfl rfl rfl (by decide +kernel) ⟨Nat.le_of_ble_eq_true rfl, Nat.le_of_ble_eq_true rfl⟩) (mx_preV (C := RX8) (T := TX8) (N := 53) (ci := 8) hKx hP hD hS hA [2] (by decide) rfl rfl rfl) rfl rfl hl.1 rfl (lv_room (Nat.le_of_ble_eq_true rfl)) dX8_gust_48 ⟨Nat.le_of_ble_eq_true rfl, Nat.le_of_ble_eq_true rfl⟩) hP hD hS hA [2] [0, 1] rfl rfl (by decide) (by decide) (fun u47 H locs hq47 hP hD hS => ?_)
          replace hP : va_P (dC, dI) vwCl [(ndc, .inl (cI, 14, .inl (fun _ => 0))), (nmk, .inl (cI, 61, .inl (fun _ => 0))), (n, .inr (8, [.int 800, .int 0, .int 0, .int 0, .int 0, .int 0, .int 0, .ref nwi, .ref nco, .int 0, .ref nqu, .ref nmi, .ref nde, .ref nsa, .ref nsm, .int 0, .ref npa, .int 0, .ref nac, .ref nam, .ref naw, .int 0, .int 0, .int (-6), .int 0, .int 4000, .int 0, .int 0, .int 0, .int 0, .ref ncs, .ref nbw, .ref ndc, .ref nmk, .int 800, .int 0, .int 0, .int 0, .int 0, .int 0, .int 0, .ref npo, .int 0, .ref nta, .ref npl, .int 0, .int 0, .ref nmm, .ref ncu, .ref nke, .ref nik, .int 0, .int 0]))] H := hP
          replace hD : va_D A [(ndc, .inl (cI, 14, .inl (fun _ => 0))), (nmk, .inl (cI, 61, .inl (fun _ => 0))), (n, .inr (8, [.int 800, .int 0, .int 0, .int 0, .int 0, .int 0, .int 0, .ref nwi, .ref nco, .int 0, .ref nqu, .ref nmi, .ref nde, .ref nsa, .ref nsm, .int 0, .ref npa, .int 0, .ref nac, .ref nam, .ref naw, .int 0, .int 0, .int (-6), .int 0, .int 4000, .int 0, .int 0, .int 0, .int 0, .ref ncs, .ref nbw, .ref ndc, .ref nmk, .int 800, .int 0, .int 0, .int 0, .int 0, .int 0, .int 0, .ref npo, .int 0, .ref nta, .ref npl, .int 0, .int 0, .ref nmm, .ref ncu, .ref nke, .ref nik, .int 0, .int 0]))] := hD
          refine lv_aload_n hx hb dX8_gust_51 rfl (lv_at hl 0 rfl) ?_
          refine mx_i (wr := []) (va_runV (As := []) (rest := []) ⟨hx, hb, hml, hown, hts⟩ (c_X8_canWithoutEnd l dC dI cI cZ cK tS aK aV n nwi nco nqu nmi nde nsa nsm npa nac nam naw ncs nbw ndc nmk npo nta npl nmm ncu nke nik 800 0 0 0 0 0 0 0 0 0 0 (-6) 0 4000 0 0 0 0 800 0 0 0 0 0 0 0 0 0 0 0 (fun _ => 0) (fun _ => 0) H.size) (cwV 0 hts (gw_v (fun _ h9 => List.mem_cons_of_mem _ h9) wm_519 wm_520 wm_521 wm_385 wm_522) rfl rfl rfl (by decide +kernel) ⟨Nat.le_of_ble_eq_true rfl, Nat.le_of_ble_eq_true rfl⟩) (mx_preV (C := RX8) (T := TX8) (N := 53) (ci := 8) hKx hP hD hS hA [2, 0, 1] (by decide) rfl rfl rfl) rfl rfl hl.1 rfl (lv_room (Nat.le_of_ble_eq_true rfl)) dX8_gust_52 ⟨Nat.le_of_ble_eq_true rfl, Nat.le_of_ble_eq_true rfl⟩) hP hD hS hA [2, 0, 1] [] rfl rfl (by decide) (by decide) (fun r48 u48 H locs hq48 hP hD hS => ?_)
          replace hP : va_P (dC, dI) vwCl [(n, .inr (8, [.int 800, .int 0, .int 0, .int 0, .int 0, .int 0, .int 0, .ref nwi, .ref nco, .int 0, .ref nqu, .ref nmi, .ref nde, .ref nsa, .ref nsm, .int 0, .ref npa, .int 0, .ref nac, .ref nam, .ref naw, .int 0, .int 0, .int (-6), .int 0, .int 4000, .int (-6), .int (-6), .int 0, .int 0, .ref ncs, .ref nbw, .ref ndc, .ref nmk, .int 800, .int 0, .int 0, .int 0, .int 0, .int 0, .int 0, .ref npo, .int 0, .ref nta, .ref npl, .int 0, .int 0, .ref nmm, .ref ncu, .ref nke, .ref nik, .int 0, .int 0])), (ndc, .inl (cI, 14, .inl (upd (upd (upd (upd (upd (upd (upd (upd (upd (upd (upd (upd (upd (upd (fun _ => 0) 0 0) 1 0) 2 0) 3 0) 4 0) 5 0) 6 0) 7 0) 8 0) 9 0) 10 0) 11 0) 12 0) 13 0))), (nmk, .inl (cI, 61, .inl (upd (fun _ => 0) 0 5000000)))] H := hP
          replace hD : va_D A [(n, .inr (8, [.int 800, .int 0, .int 0, .int 0, .int 0, .int 0, .int 0, .ref nwi, .ref nco, .int 0, .ref nqu, .ref nmi, .ref nde, .ref nsa, .ref nsm, .int 0, .ref npa, .int 0, .ref nac, .ref nam, .ref naw, .int 0, .int 0, .int (-6), .int 0, .int 4000, .int (-6), .int (-6), .int 0, .int 0, .ref ncs, .ref nbw, .ref ndc, .ref nmk, .int 800, .int 0, .int 0, .int 0, .int 0, .int 0, .int 0, .ref npo, .int 0, .ref nta, .ref npl, .int 0, .int 0, .ref nmm, .ref ncu, .ref nke, .ref nik, .int 0, .int 0])), (ndc, .inl (cI, 14, .inl (upd (upd (upd (upd (upd (upd (upd (upd (upd (upd (upd (upd (upd (upd (fun _ => 0) 0 0) 1 0) 2 0) 3 0) 4 0) 5 0) 6 0) 7 0) 8 0) 9 0) 10 0) 11 0) 12 0) 13 0))), (nmk, .inl (cI, 61, .inl (upd (fun _ => 0) 0 5000000)))] := hD
          obtain rfl : r48 = 1 := hq48
          refine lv_if_ne (tgt := 62) hx hb dX8_gust_55 (by decide) (fun c49 => ?_) (fun c49 => absurd c49 (by decide))
          refine lv_aload_n hx hb dX8_gust_62 rfl (lv_at hl 0 rfl) ?_
          refine va_get (D := (dC, dI)) (ci := 8) (v := .int 0) (C := RX8) (T := TX8) (N := 53) hx hb hts hin8 hown hK hP 0 rfl rfl 39 (by decide) hw1 (fun _ h9 => h9) rfl dX8_gust_63 ?_
          refine lv_aload_n hx hb dX8_gust_66 rfl (lv_at hl 0 rfl) ?_
          refine va_get (D := (dC, dI)) (ci := 8) (v := .int 0) (C := RX8) (T := TX8) (N := 53) hx hb hts hin8 hown hK hP 0 rfl rfl 4 (by decide) hw2 (fun _ h9 => h9) rfl dX8_gust_67 ?_
          refine lv_isub hx hb dX8_gust_70 ?_
          refine lv_topi (fun x50 e50 => ?_)
          obtain rfl : x50 = 0 := e50.trans (by decide)
          refine lv_iconst (v := 1) hx hb dX8_gust_71 (by decide) ?_
          refine lv_iadd hx hb dX8_gust_72 ?_
          refine lv_topi (fun x51 e51 => ?_)
          obtain rfl : x51 = 1 := e51.trans (by decide)
          refine lv_istore (lv' := [(4, .int 1), (0, .ref n), (1, .int 1), (2, .int 0), (3, .int 0)]) hx hb dX8_gust_73 hl (by decide) rfl (fun ls hl => ?_)
          refine lv_iload hx hb dX8_gust_75 (lv_at hl 0 rfl) ?_
          refine lv_bipush (v := 8) hx hb dX8_gust_77 (by decide) ?_
          refine lv_icmp_le (tgt := 86) hx hb dX8_gust_79 (by decide) (fun c52 => ?_) (fun c52 => absurd c52 (by decide))
          refine lv_lconst (v := 0) hx hb dX8_gust_86 (by decide) ?_
          refine lv_lstore (lv' := [(5, .long 0), (4, .int 1), (0, .ref n), (1, .int 1), (2, .int 0), (3, .int 0)]) hx hb dX8_gust_87 hl (by decide) rfl (fun ls hl => ?_)
          refine lv_lconst (v := 0) hx hb dX8_gust_89 (by decide) ?_
          refine lv_lstore (lv' := [(7, .long 0), (5, .long 0), (4, .int 1), (0, .ref n), (1, .int 1), (2, .int 0), (3, .int 0)]) hx hb dX8_gust_90 hl (by decide) rfl (fun ls hl => ?_)
          refine lv_iconst (v := 0) hx hb dX8_gust_92 (by decide) ?_
          refine lv_istore (lv' := [(9, .int 0), (7, .long 0), (5, .long 0), (4, .int 1), (0, .ref n), (1, .int 1), (2, .int 0), (3, .int 0)]) hx hb dX8_gust_93 hl (by decide) rfl (fun ls hl => ?_)
          refine lv_iload hx hb dX8_gust_95 (lv_at hl 0 rfl) ?_
          refine lv_iconst (v := 1) hx hb dX8_gust_97 (by decide) ?_
          refine lv_iload hx hb dX8_gust_98 (lv_at hl 3 rfl) ?_
          refine lv_ishl hx hb dX8_gust_100 ?_
          refine lv_topi (fun x53 e53 => ?_)
          obtain rfl : x53 = 2 := e53.trans (by decide)
          refine lv_icmp_ge (tgt := 187) hx hb dX8_gust_101 (by decide) (fun c54 => absurd c54 (by decide)) (fun c54 => ?_)
          refine lv_lconst (v := 1) hx hb dX8_gust_104 (by decide) ?_
          refine lv_lstore (lv' := [(10, .long 1), (9, .int 0), (7, .long 0), (5, .long 0), (4, .int 1), (0, .ref n), (1, .int 1), (2, .int 0), (3, .int 0)]) hx hb dX8_gust_105 hl (by decide) rfl (fun ls hl => ?_)
          refine lv_iconst (v := 0) hx hb dX8_gust_107 (by decide) ?_
          refine lv_istore (lv' := [(12, .int 0), (10, .long 1), (9, .int 0), (7, .long 0), (5, .long 0), (4, .int 1), (0, .ref n), (1, .int 1), (2, .int 0), (3, .int 0)]) hx hb dX8_gust_108 hl (by decide) rfl (fun ls hl => ?_)
          refine lv_iload hx hb dX8_gust_110 (lv_at hl 0 rfl) ?_
          refine lv_iload hx hb dX8_gust_112 (lv_at hl 5 rfl) ?_
          refine lv_icmp_ge (tgt := 149) hx hb dX8_gust_114 (by decide) (fun c55 => absurd c55 (by decide)) (fun c55 => ?_)
          refine lv_lload hx hb dX8_gust_117 (lv_at hl 1 rfl) ?_
          refine lv_iload hx hb dX8_gust_119 (lv_at hl 2 rfl) ?_
          refine lv_iload hx hb dX8_gust_121 (lv_at hl 0 rfl) ?_
          refine lv_ishr hx hb dX8_gust_123 ?_
          refine lv_topi (fun x56 e56 => ?_)
          obtain rfl : x56 = 0 := e56.trans (by decide)
          refine lv_iconst (v := 1) hx hb dX8_gust_124 (by decide) ?_
          refine lv_iand hx hb dX8_gust_125 ?_
          refine lv_topi (fun x57 e57 => ?_)
          obtain rfl : x57 = 0 := e57.trans (by decide)
          refine lv_iconst (v := 1) hx hb dX8_gust_126 (by decide) ?_
          refine lv_icmp_ne (tgt := 135) hx hb dX8_gust_127 (by decide) (fun c58 => ?_) (fun c58 => absurd c58 (by decide))
          refine lv_bipush (v := 10) hx hb dX8_gust_135 (by decide) ?_
          refine lv_iload_n hx hb dX8_gust_137 rfl (lv_at hl 7 rfl) ?_
          refine lv_isub hx hb dX8_gust_138 ?_
          refine lv_topi (fun x59 e59 => ?_)
          obtain rfl : x59 = 9 := e59.trans (by decide)
          refine lv_i2l (v := 9) hx hb dX8_gust_139 (by decide) ?_
          refine lv_lmul hx hb dX8_gust_140 ?_
          refine lv_topl (fun x60 e60 => ?_)
          obtain rfl : x60 = 9 := e60.trans (by decide)
          refine lv_lstore (lv' := [(10, .long 9), (12, .int 0), (9, .int 0), (7, .long 0), (5, .long 0), (4, .int 1), (0, .ref n), (1, .int 1), (2, .int 0), (3, .int 0)]) hx hb dX8_gust_141 hl (by decide) rfl (fun ls hl => ?_)
          refine lv_iinc (v := 1) (lv' := [(12, .int 1), (10, .long 9), (9, .int 0), (7, .long 0), (5, .long 0), (4, .int 1), (0, .ref n), (1, .int 1), (2, .int 0), (3, .int 0)]) hx hb dX8_gust_143 hl (k := 1) rfl (by decide) (by decide) rfl (fun ls hl => ?_)
          refine lv_goto (tgt := 110) hx hb dX8_gust_146 (by decide) ?_
          refine lv_iload hx hb dX8_gust_110 (lv_at hl 0 rfl) ?_
          refine lv_iload hx hb dX8_gust_112 (lv_at hl 5 rfl) ?_
          refine lv_icmp_ge (tgt := 149) hx hb dX8_gust_114 (by decide) (fun c61 => ?_) (fun c61 => absurd c61 (by decide))
          refine lv_aload_n hx hb dX8_gust_149 rfl (lv_at hl 6 rfl) ?_
          refine lv_iload hx hb dX8_gust_150 (lv_at hl 2 rfl) ?_
          refine lv_aload_n hx hb dX8_gust_152 rfl (lv_at hl 6 rfl) ?_
          refine va_get (D := (dC, dI)) (ci := 8) (v := .int 0) (C := RX8) (T := TX8) (N := 53) hx hb hts hin8 hown hK hP 0 rfl rfl 4 (by decide) hw2 (fun _ h9 => h9) rfl dX8_gust_153 ?_
          refine lv_ishl hx hb dX8_gust_156 ?_
          refine lv_topi (fun x62 e62 => ?_)
          obtain rfl : x62 = 0 := e62.trans (by decide)
          refine va_put (D := (dC, dI)) (ci := 8) (v := .int 0) (ty := .int) (C := RX8) (T := TX8) (N := 53) hx hb hts hin8 tyX8 tyX8_ok nmX8 hown hK hP hD hS 0 rfl rfl 22 (by decide) hw3 (fun _ h9 => h9) rfl (by decide +kernel) rfl rfl (Nat.le_of_ble_eq_true rfl) dX8_gust_157 (fun H locs hP hD hS => ?_)
          replace hP : va_P (dC, dI) vwCl [(n, .inr (8, [.int 800, .int 0, .int 0, .int 0, .int 0, .int 0, .int 0, .ref nwi, .ref nco, .int 0, .ref nqu, .ref nmi, .ref nde, .ref nsa, .ref nsm, .int 0, .ref npa, .int 0, .ref nac, .ref nam, .ref naw, .int 0, .int 0, .int (-6), .int 0, .int 4000, .int (-6), .int (-6), .int 0, .int 0, .ref ncs, .ref nbw, .ref ndc, .ref nmk, .int 800, .int 0, .int 0, .int 0, .int 0, .int 0, .int 0, .ref npo, .int 0, .ref nta, .ref npl, .int 0, .int 0, .ref nmm, .ref ncu, .ref nke, .ref nik, .int 0, .int 0])), (ndc, .inl (cI, 14, .inl (upd (upd (upd (upd (upd (upd (upd (upd (upd (upd (upd (upd (upd (upd (fun _ => 0) 0 0) 1 0) 2 0) 3 0) 4 0) 5 0) 6 0) 7 0) 8 0) 9 0) 10 0) 11 0) 12 0) 13 0))), (nmk, .inl (cI, 61, .inl (upd (fun _ => 0) 0 5000000)))] H := hP
          replace hD : va_D A [(n, .inr (8, [.int 800, .int 0, .int 0, .int 0, .int 0, .int 0, .int 0, .ref nwi, .ref nco, .int 0, .ref nqu, .ref nmi, .ref nde, .ref nsa, .ref nsm, .int 0, .ref npa, .int 0, .ref nac, .ref nam, .ref naw, .int 0, .int 0, .int (-6), .int 0, .int 4000, .int (-6), .int (-6), .int 0, .int 0, .ref ncs, .ref nbw, .ref ndc, .ref nmk, .int 800, .int 0, .int 0, .int 0, .int 0, .int 0, .int 0, .ref npo, .int 0, .ref nta, .ref npl, .int 0, .int 0, .ref nmm, .ref ncu, .ref nke, .ref nik, .int 0, .int 0])), (ndc, .inl (cI, 14, .inl (upd (upd (upd (upd (upd (upd (upd (upd (upd (upd (upd (upd (upd (upd (fun _ => 0) 0 0) 1 0) 2 0) 3 0) 4 0) 5 0) 6 0) 7 0) 8 0) 9 0) 10 0) 11 0) 12 0) 13 0))), (nmk, .inl (cI, 61, .inl (upd (fun _ => 0) 0 5000000)))] := hD
          refine lv_lload hx hb dX8_gust_160 (lv_at hl 3 rfl) ?_
          refine lv_lload hx hb dX8_gust_162 (lv_at hl 1 rfl) ?_
          refine lv_ladd hx hb dX8_gust_164 ?_
          refine lv_topl (fun x63 e63 => ?_)
          obtain rfl : x63 = 9 := e63.trans (by decide)
          refine lv_lstore (lv' := [(7, .long 9), (12, .int 1), (10, .long 9), (9, .int 0), (5, .long 0), (4, .int 1), (0, .ref n), (1, .int 1), (2, .int 0), (3, .int 0)]) hx hb dX8_gust_165 hl (by decide) rfl (fun ls hl => ?_)
          refine lv_lload hx hb dX8_gust_167 (lv_at hl 4 rfl) ?_
          refine lv_lload hx hb dX8_gust_169 (lv_at hl 2 rfl) ?_
          refine lv_aload_n hx hb dX8_gust_171 rfl (lv_at hl 6 rfl) ?_
          refine lv_iload_n hx hb dX8_gust_172 rfl (lv_at hl 8 rfl) ?_
          refine mx_i (wr := []) (va_runV (As := [.int 0]) (rest := [.long 9, .long 0]) ⟨hx, hb, hml, hown, hts⟩ (c_X8_worthOfGusts_0 l dC dI cI cZ cK tS aK aV n nwi nco nqu nmi nde nsa nsm npa nac nam naw ncs nbw ndc nmk npo nta npl nmm ncu nke nik 0 0 0 0 0 0 0 0 0 0 (-6) 0 4000 (-6) (-6) 0 0 800 0 0 0 0 0 0 0 0 0 0 0 (upd (upd (upd (upd (upd (upd (upd (upd (upd (upd (upd (upd (upd (upd (fun _ => 0) 0 0) 1 0) 2 0) 3 0) 4 0) 5 0) 6 0) 7 0) 8 0) 9 0) 10 0) 11 0) 12 0) 13 0) (upd (fun _ => 0) 0 5000000) H.size) (cwV 1 hts (gw_v (fun _ h9 => List.mem_cons_of_mem _ h9) wm_524 wm_525 wm_526 wm_385 wm_527) rfl rfl rfl (by decide +kernel) ⟨Nat.le_of_ble_eq_true rfl, Nat.le_of_ble_eq_true rfl⟩) (mx_preV (C := RX8) (T := TX8) (N := 53) (ci := 8) hKx hP hD hS hA [0, 1, 2] (by decide) rfl rfl rfl) rfl rfl hl.1 rfl (lv_room (Nat.le_of_ble_eq_true rfl)) dX8_gust_173 ⟨Nat.le_of_ble_eq_true rfl, Nat.le_of_ble_eq_true rfl⟩) hP hD hS hA [0, 1, 2] [] rfl rfl (by decide) (by decide) (fun r64 u64 H locs hq64 hP hD hS => ?_)
          replace hP : va_P (dC, dI) vwCl [(n, .inr (8, [.int 800, .int 0, .int 0, .int 0, .int 0, .int 0, .int 0, .ref nwi, .ref nco, .int 0, .ref nqu, .ref nmi, .ref nde, .ref nsa, .ref nsm, .int 0, .ref npa, .int 0, .ref nac, .ref nam, .ref naw, .int 0, .int 0, .int (-6), .int 0, .int 4000, .int (-6), .int (-6), .int 0, .int 0, .ref ncs, .ref nbw, .ref ndc, .ref nmk, .int 800, .int 0, .int 0, .int 0, .int 0, .int 0, .int 0, .ref npo, .int 0, .ref nta, .ref npl, .int 0, .int 0, .ref nmm, .ref ncu, .ref nke, .ref nik, .int 0, .int 0])), (ndc, .inl (cI, 14, .inl (upd (upd (upd (upd (upd (upd (upd (upd (upd (upd (upd (upd (upd (upd (upd (upd (upd (upd (upd (upd (upd (upd (upd (upd (upd (upd (upd (upd (fun _ => 0) 0 0) 1 0) 2 0) 3 0) 4 0) 5 0) 6 0) 7 0) 8 0) 9 0) 10 0) 11 0) 12 0) 13 0) 0 0) 1 0) 2 0) 3 0) 4 0) 5 0) 6 0) 7 0) 8 0) 9 0) 10 0) 11 0) 12 0) 13 0))), (nmk, .inl (cI, 61, .inl (upd (upd (fun _ => 0) 0 5000000) 0 4)))] H := hP
          replace hD : va_D A [(n, .inr (8, [.int 800, .int 0, .int 0, .int 0, .int 0, .int 0, .int 0, .ref nwi, .ref nco, .int 0, .ref nqu, .ref nmi, .ref nde, .ref nsa, .ref nsm, .int 0, .ref npa, .int 0, .ref nac, .ref nam, .ref naw, .int 0, .int 0, .int (-6), .int 0, .int 4000, .int (-6), .int (-6), .int 0, .int 0, .ref ncs, .ref nbw, .ref ndc, .ref nmk, .int 800, .int 0, .int 0, .int 0, .int 0, .int 0, .int 0, .ref npo, .int 0, .ref nta, .ref npl, .int 0, .int 0, .ref nmm, .ref ncu, .ref nke, .ref nik, .int 0, .int 0])), (ndc, .inl (cI, 14, .inl (upd (upd (upd (upd (upd (upd (upd (upd (upd (upd (upd (upd (upd (upd (upd (upd (upd (upd (upd (upd (upd (upd (upd (upd (upd (upd (upd (upd (fun _ => 0) 0 0) 1 0) 2 0) 3 0) 4 0) 5 0) 6 0) 7 0) 8 0) 9 0) 10 0) 11 0) 12 0) 13 0) 0 0) 1 0) 2 0) 3 0) 4 0) 5 0) 6 0) 7 0) 8 0) 9 0) 10 0) 11 0) 12 0) 13 0))), (nmk, .inl (cI, 61, .inl (upd (upd (fun _ => 0) 0 5000000) 0 4)))] := hD
          obtain rfl : r64 = 1 := hq64
          refine lv_i2l (v := 1) hx hb dX8_gust_176 (by decide) ?_
          refine lv_lmul hx hb dX8_gust_177 ?_
          refine lv_topl (fun x65 e65 => ?_)
          obtain rfl : x65 = 9 := e65.trans (by decide)
          refine lv_ladd hx hb dX8_gust_178 ?_
          refine lv_topl (fun x66 e66 => ?_)
          obtain rfl : x66 = 9 := e66.trans (by decide)
          refine lv_lstore (lv' := [(5, .long 9), (7, .long 9), (12, .int 1), (10, .long 9), (9, .int 0), (4, .int 1), (0, .ref n), (1, .int 1), (2, .int 0), (3, .int 0)]) hx hb dX8_gust_179 hl (by decide) rfl (fun ls hl => ?_)
          refine lv_iinc (v := 1) (lv' := [(9, .int 1), (5, .long 9), (7, .long 9), (12, .int 1), (10, .long 9), (4, .int 1), (0, .ref n), (1, .int 1), (2, .int 0), (3, .int 0)]) hx hb dX8_gust_181 hl (k := 4) rfl (by decide) (by decide) rfl (fun ls hl => ?_)
          refine lv_goto (tgt := 95) hx hb dX8_gust_184 (by decide) ?_
          refine lv_iload hx hb dX8_gust_95 (lv_at hl 0 rfl) ?_
          refine lv_iconst (v := 1) hx hb dX8_gust_97 (by decide) ?_
          refine lv_iload hx hb dX8_gust_98 (lv_at hl 5 rfl) ?_
          refine lv_ishl hx hb dX8_gust_100 ?_
          refine lv_topi (fun x67 e67 => ?_)
          obtain rfl : x67 = 2 := e67.trans (by decide)
          refine lv_icmp_ge (tgt := 187) hx hb dX8_gust_101 (by decide) (fun c68 => absurd c68 (by decide)) (fun c68 => ?_)
          refine lv_lconst (v := 1) hx hb dX8_gust_104 (by decide) ?_
          refine lv_lstore (lv' := [(10, .long 1), (9, .int 1), (5, .long 9), (7, .long 9), (12, .int 1), (4, .int 1), (0, .ref n), (1, .int 1), (2, .int 0), (3, .int 0)]) hx hb dX8_gust_105 hl (by decide) rfl (fun ls hl => ?_)
          refine lv_iconst (v := 0) hx hb dX8_gust_107 (by decide) ?_
          refine lv_istore (lv' := [(12, .int 0), (10, .long 1), (9, .int 1), (5, .long 9), (7, .long 9), (4, .int 1), (0, .ref n), (1, .int 1), (2, .int 0), (3, .int 0)]) hx hb dX8_gust_108 hl (by decide) rfl (fun ls hl => ?_)
          refine lv_iload hx hb dX8_gust_110 (lv_at hl 0 rfl) ?_
          refine lv_iload hx hb dX8_gust_112 (lv_at hl 5 rfl) ?_
          refine lv_icmp_ge (tgt := 149) hx hb dX8_gust_114 (by decide) (fun c69 => absurd c69 (by decide)) (fun c69 => ?_)
          refine lv_lload hx hb dX8_gust_117 (lv_at hl 1 rfl) ?_
          refine lv_iload hx hb dX8_gust_119 (lv_at hl 2 rfl) ?_
          refine lv_iload hx hb dX8_gust_121 (lv_at hl 0 rfl) ?_
          refine lv_ishr hx hb dX8_gust_123 ?_
          refine lv_topi (fun x70 e70 => ?_)
          obtain rfl : x70 = 1 := e70.trans (by decide)
          refine lv_iconst (v := 1) hx hb dX8_gust_124 (by decide) ?_
          refine lv_iand hx hb dX8_gust_125 ?_
          refine lv_topi (fun x71 e71 => ?_)
          obtain rfl : x71 = 1 := e71.trans (by decide)
          refine lv_iconst (v := 1) hx hb dX8_gust_126 (by decide) ?_
          refine lv_icmp_ne (tgt := 135) hx hb dX8_gust_127 (by decide) (fun c72 => absurd c72 (by decide)) (fun c72 => ?_)
          refine lv_iload_n hx hb dX8_gust_130 rfl (lv_at hl 7 rfl) ?_
          refine lv_i2l (v := 1) hx hb dX8_gust_131 (by decide) ?_
          refine lv_goto (tgt := 140) hx hb dX8_gust_132 (by decide) ?_
          refine lv_lmul hx hb dX8_gust_140 ?_
          refine lv_topl (fun x73 e73 => ?_)
          obtain rfl : x73 = 1 := e73.trans (by decide)
          refine lv_lstore (lv' := [(10, .long 1), (12, .int 0), (9, .int 1), (5, .long 9), (7, .long 9), (4, .int 1), (0, .ref n), (1, .int 1), (2, .int 0), (3, .int 0)]) hx hb dX8_gust_141 hl (by decide) rfl (fun ls hl => ?_)
          refine lv_iinc (v := 1) (lv' := [(12, .int 1), (10, .long 1), (9, .int 1), (5, .long 9), (7, .long 9), (4, .int 1), (0, .ref n), (1, .int 1), (2, .int 0), (3, .int 0)]) hx hb dX8_gust_143 hl (k := 1) rfl (by decide) (by decide) rfl (fun ls hl => ?_)
          refine lv_goto (tgt := 110) hx hb dX8_gust_146 (by decide) ?_
          refine lv_iload hx hb dX8_gust_110 (lv_at hl 0 rfl) ?_
          refine lv_iload hx hb dX8_gust_112 (lv_at hl 5 rfl) ?_
          refine lv_icmp_ge (tgt := 149) hx hb dX8_gust_114 (by decide) (fun c74 => ?_) (fun c74 => absurd c74 (by decide))
          refine lv_aload_n hx hb dX8_gust_149 rfl (lv_at hl 6 rfl) ?_
          refine lv_iload hx hb dX8_gust_150 (lv_at hl 2 rfl) ?_
          refine lv_aload_n hx hb dX8_gust_152 rfl (lv_at hl 6 rfl) ?_
          refine va_get (D := (dC, dI)) (ci := 8) (v := .int 0) (C := RX8) (T := TX8) (N := 53) hx hb hts hin8 hown hK hP 0 rfl rfl 4 (by decide) hw2 (fun _ h9 => h9) rfl dX8_gust_153 ?_
          refine lv_ishl hx hb dX8_gust_156 ?_
          refine lv_topi (fun x75 e75 => ?_)
          obtain rfl : x75 = 1 := e75.trans (by decide)
          refine va_put (D := (dC, dI)) (ci := 8) (v := .int 1) (ty := .int) (C := RX8) (T := TX8) (N := 53) hx hb hts hin8 tyX8 tyX8_ok nmX8 hown hK hP hD hS 0 rfl rfl 22 (by decide) hw3 (fun _ h9 => h9) rfl (by decide +kernel) rfl rfl (Nat.le_of_ble_eq_true rfl) dX8_gust_157 (fun H locs hP hD hS => ?_)
          replace hP : va_P (dC, dI) vwCl [(n, .inr (8, [.int 800, .int 0, .int 0, .int 0, .int 0, .int 0, .int 0, .ref nwi, .ref nco, .int 0, .ref nqu, .ref nmi, .ref nde, .ref nsa, .ref nsm, .int 0, .ref npa, .int 0, .ref nac, .ref nam, .ref naw, .int 0, .int 1, .int (-6), .int 0, .int 4000, .int (-6), .int (-6), .int 0, .int 0, .ref ncs, .ref nbw, .ref ndc, .ref nmk, .int 800, .int 0, .int 0, .int 0, .int 0, .int 0, .int 0, .ref npo, .int 0, .ref nta, .ref npl, .int 0, .int 0, .ref nmm, .ref ncu, .ref nke, .ref nik, .int 0, .int 0])), (ndc, .inl (cI, 14, .inl (upd (upd (upd (upd (upd (upd (upd (upd (upd (upd (upd (upd (upd (upd (upd (upd (upd (upd (upd (upd (upd (upd (upd (upd (upd (upd (upd (upd (fun _ => 0) 0 0) 1 0) 2 0) 3 0) 4 0) 5 0) 6 0) 7 0) 8 0) 9 0) 10 0) 11 0) 12 0) 13 0) 0 0) 1 0) 2 0) 3 0) 4 0) 5 0) 6 0) 7 0) 8 0) 9 0) 10 0) 11 0) 12 0) 13 0))), (nmk, .inl (cI, 61, .inl (upd (upd (fun _ => 0) 0 5000000) 0 4)))] H := hP
          replace hD : va_D A [(n, .inr (8, [.int 800, .int 0, .int 0, .int 0, .int 0, .int 0, .int 0, .ref nwi, .ref nco, .int 0, .ref nqu, .ref nmi, .ref nde, .ref nsa, .ref nsm, .int 0, .ref npa, .int 0, .ref nac, .ref nam, .ref naw, .int 0, .int 1, .int (-6), .int 0, .int 4000, .int (-6), .int (-6), .int 0, .int 0, .ref ncs, .ref nbw, .ref ndc, .ref nmk, .int 800, .int 0, .int 0, .int 0, .int 0, .int 0, .int 0, .ref npo, .int 0, .ref nta, .ref npl, .int 0, .int 0, .ref nmm, .ref ncu, .ref nke, .ref nik, .int 0, .int 0])), (ndc, .inl (cI, 14, .inl (upd (upd (upd (upd (upd (upd (upd (upd (upd (upd (upd (upd (upd (upd (upd (upd (upd (upd (upd (upd (upd (upd (upd (upd (upd (upd (upd (upd (fun _ => 0) 0 0) 1 0) 2 0) 3 0) 4 0) 5 0) 6 0) 7 0) 8 0) 9 0) 10 0) 11 0) 12 0) 13 0) 0 0) 1 0) 2 0) 3 0) 4 0) 5 0) 6 0) 7 0) 8 0) 9 0) 10 0) 11 0) 12 0) 13 0))), (nmk, .inl (cI, 61, .inl (upd (upd (fun _ => 0) 0 5000000) 0 4)))] := hD
          refine lv_lload hx hb dX8_gust_160 (lv_at hl 4 rfl) ?_
          refine lv_lload hx hb dX8_gust_162 (lv_at hl 1 rfl) ?_
          refine lv_ladd hx hb dX8_gust_164 ?_
          refine lv_topl (fun x76 e76 => ?_)
          obtain rfl : x76 = 10 := e76.trans (by decide)
          refine lv_lstore (lv' := [(7, .long 10), (12, .int 1), (10, .long 1), (9, .int 1), (5, .long 9), (4, .int 1), (0, .ref n), (1, .int 1), (2, .int 0), (3, .int 0)]) hx hb dX8_gust_165 hl (by decide) rfl (fun ls hl => ?_)
          refine lv_lload hx hb dX8_gust_167 (lv_at hl 4 rfl) ?_
          refine lv_lload hx hb dX8_gust_169 (lv_at hl 2 rfl) ?_
          refine lv_aload_n hx hb dX8_gust_171 rfl (lv_at hl 6 rfl) ?_
          refine lv_iload_n hx hb dX8_gust_172 rfl (lv_at hl 8 rfl) ?_
          refine mx_i (wr := []) (va_runV (As := [.int 0]) (rest := [.long 1, .long 9]) ⟨hx, hb, hml, hown, hts⟩ (c_X8_worthOfGusts_0 l dC dI cI cZ cK tS aK aV n nwi nco nqu nmi nde nsa nsm npa nac nam naw ncs nbw ndc nmk npo nta npl nmm ncu nke nik 0 0 0 0 0 0 0 0 0 1 (-6) 0 4000 (-6) (-6) 0 0 800 0 0 0 0 0 0 0 0 0 0 0 (upd (upd (upd (upd (upd (upd (upd (upd (upd (upd (upd (upd (upd (upd (upd (upd (upd (upd (upd (upd (upd (upd (upd (upd (upd (upd (upd (upd (fun _ => 0) 0 0) 1 0) 2 0) 3 0) 4 0) 5 0) 6 0) 7 0) 8 0) 9 0) 10 0) 11 0) 12 0) 13 0) 0 0) 1 0) 2 0) 3 0) 4 0) 5 0) 6 0) 7 0) 8 0) 9 0) 10 0) 11 0) 12 0) 13 0) (upd (upd (fun _ => 0) 0 5000000) 0 4) H.size) (cwV 1 hts (gw_v (fun _ h9 => List.mem_cons_of_mem _ h9) wm_524 wm_525 wm_526 wm_385 wm_527) rfl rfl rfl (by decide +kernel) ⟨Nat.le_of_ble_eq_true rfl, Nat.le_of_ble_eq_true rfl⟩) (mx_preV (C := RX8) (T := TX8) (N := 53) (ci := 8) hKx hP hD hS hA [0, 1, 2] (by decide) rfl rfl rfl) rfl rfl hl.1 rfl (lv_room (Nat.le_of_ble_eq_true rfl)) dX8_gust_173 ⟨Nat.le_of_ble_eq_true rfl, Nat.le_of_ble_eq_true rfl⟩) hP hD hS hA [0, 1, 2] [] rfl rfl (by decide) (by decide) (fun r77 u77 H locs hq77 hP hD hS => ?_)
          replace hP : va_P (dC, dI) vwCl [(n, .inr (8, [.int 800, .int 0, .int 0, .int 0, .int 0, .int 0, .int 0, .ref nwi, .ref nco, .int 0, .ref nqu, .ref nmi, .ref nde, .ref nsa, .ref nsm, .int 0, .ref npa, .int 0, .ref nac, .ref nam, .ref naw, .int 0, .int 1, .int (-6), .int 0, .int 4000, .int (-6), .int (-6), .int 0, .int 0, .ref ncs, .ref nbw, .ref ndc, .ref nmk, .int 800, .int 0, .int 0, .int 0, .int 0, .int 0, .int 0, .ref npo, .int 0, .ref nta, .ref npl, .int 0, .int 0, .ref nmm, .ref ncu, .ref nke, .ref nik, .int 0, .int 0])), (ndc, .inl (cI, 14, .inl (upd (upd (upd (upd (upd (upd (upd (upd (upd (upd (upd (upd (upd (upd (upd (upd (upd (upd (upd (upd (upd (upd (upd (upd (upd (upd (upd (upd (upd (upd (upd (upd (upd (upd (upd (upd (upd (upd (upd (upd (upd (upd (fun _ => 0) 0 0) 1 0) 2 0) 3 0) 4 0) 5 0) 6 0) 7 0) 8 0) 9 0) 10 0) 11 0) 12 0) 13 0) 0 0) 1 0) 2 0) 3 0) 4 0) 5 0) 6 0) 7 0) 8 0) 9 0) 10 0) 11 0) 12 0) 13 0) 0 0) 1 0) 2 0) 3 0) 4 0) 5 0) 6 0) 7 0) 8 0) 9 0) 10 0) 11 0) 12 0) 13 0))), (nmk, .inl (cI, 61, .inl (upd (upd (upd (fun _ => 0) 0 5000000) 0 4) 0 4)))] H := hP
          replace hD : va_D A [(n, .inr (8, [.int 800, .int 0, .int 0, .int 0, .int 0, .int 0, .int 0, .ref nwi, .ref nco, .int 0, .ref nqu, .ref nmi, .ref nde, .ref nsa, .ref nsm, .int 0, .ref npa, .int 0, .ref nac, .ref nam, .ref naw, .int 0, .int 1, .int (-6), .int 0, .int 4000, .int (-6), .int (-6), .int 0, .int 0, .ref ncs, .ref nbw, .ref ndc, .ref nmk, .int 800, .int 0, .int 0, .int 0, .int 0, .int 0, .int 0, .ref npo, .int 0, .ref nta, .ref npl, .int 0, .int 0, .ref nmm, .ref ncu, .ref nke, .ref nik, .int 0, .int 0])), (ndc, .inl (cI, 14, .inl (upd (upd (upd (upd (upd (upd (upd (upd (upd (upd (upd (upd (upd (upd (upd (upd (upd (upd (upd (upd (upd (upd (upd (upd (upd (upd (upd (upd (upd (upd (upd (upd (upd (upd (upd (upd (upd (upd (upd (upd (upd (upd (fun _ => 0) 0 0) 1 0) 2 0) 3 0) 4 0) 5 0) 6 0) 7 0) 8 0) 9 0) 10 0) 11 0) 12 0) 13 0) 0 0) 1 0) 2 0) 3 0) 4 0) 5 0) 6 0) 7 0) 8 0) 9 0) 10 0) 11 0) 12 0) 13 0) 0 0) 1 0) 2 0) 3 0) 4 0) 5 0) 6 0) 7 0) 8 0) 9 0) 10 0) 11 0) 12 0) 13 0))), (nmk, .inl (cI, 61, .inl (upd (upd (upd (fun _ => 0) 0 5000000) 0 4) 0 4)))] := hD
          obtain rfl : r77 = 1 := hq77
          refine lv_i2l (v := 1) hx hb dX8_gust_176 (by decide) ?_
          refine lv_lmul hx hb dX8_gust_177 ?_
          refine lv_topl (fun x78 e78 => ?_)
          obtain rfl : x78 = 1 := e78.trans (by decide)
          refine lv_ladd hx hb dX8_gust_178 ?_
          refine lv_topl (fun x79 e79 => ?_)
          obtain rfl : x79 = 10 := e79.trans (by decide)
          refine lv_lstore (lv' := [(5, .long 10), (7, .long 10), (12, .int 1), (10, .long 1), (9, .int 1), (4, .int 1), (0, .ref n), (1, .int 1), (2, .int 0), (3, .int 0)]) hx hb dX8_gust_179 hl (by decide) rfl (fun ls hl => ?_)
          refine lv_iinc (v := 2) (lv' := [(9, .int 2), (5, .long 10), (7, .long 10), (12, .int 1), (10, .long 1), (4, .int 1), (0, .ref n), (1, .int 1), (2, .int 0), (3, .int 0)]) hx hb dX8_gust_181 hl (k := 4) rfl (by decide) (by decide) rfl (fun ls hl => ?_)
          refine lv_goto (tgt := 95) hx hb dX8_gust_184 (by decide) ?_
          refine lv_iload hx hb dX8_gust_95 (lv_at hl 0 rfl) ?_
          refine lv_iconst (v := 1) hx hb dX8_gust_97 (by decide) ?_
          refine lv_iload hx hb dX8_gust_98 (lv_at hl 5 rfl) ?_
          refine lv_ishl hx hb dX8_gust_100 ?_
          refine lv_topi (fun x80 e80 => ?_)
          obtain rfl : x80 = 2 := e80.trans (by decide)
          refine lv_icmp_ge (tgt := 187) hx hb dX8_gust_101 (by decide) (fun c81 => ?_) (fun c81 => absurd c81 (by decide))
          refine lv_aload_n hx hb dX8_gust_187 rfl (lv_at hl 6 rfl) ?_
          refine lv_iconst (v := 0) hx hb dX8_gust_188 (by decide) ?_
          refine va_put (D := (dC, dI)) (ci := 8) (v := .int 0) (ty := .int) (C := RX8) (T := TX8) (N := 53) hx hb hts hin8 tyX8 tyX8_ok nmX8 hown hK hP hD hS 0 rfl rfl 22 (by decide) hw3 (fun _ h9 => h9) rfl (by decide +kernel) rfl rfl (Nat.le_of_ble_eq_true rfl) dX8_gust_189 (fun H locs hP hD hS => ?_)
          replace hP : va_P (dC, dI) vwCl [(n, .inr (8, [.int 800, .int 0, .int 0, .int 0, .int 0, .int 0, .int 0, .ref nwi, .ref nco, .int 0, .ref nqu, .ref nmi, .ref nde, .ref nsa, .ref nsm, .int 0, .ref npa, .int 0, .ref nac, .ref nam, .ref naw, .int 0, .int 0, .int (-6), .int 0, .int 4000, .int (-6), .int (-6), .int 0, .int 0, .ref ncs, .ref nbw, .ref ndc, .ref nmk, .int 800, .int 0, .int 0, .int 0, .int 0, .int 0, .int 0, .ref npo, .int 0, .ref nta, .ref npl, .int 0, .int 0, .ref nmm, .ref ncu, .ref nke, .ref nik, .int 0, .int 0])), (ndc, .inl (cI, 14, .inl (upd (upd (upd (upd (upd (upd (upd (upd (upd (upd (upd (upd (upd (upd (upd (upd (upd (upd (upd (upd (upd (upd (upd (upd (upd (upd (upd (upd (upd (upd (upd (upd (upd (upd (upd (upd (upd (upd (upd (upd (upd (upd (fun _ => 0) 0 0) 1 0) 2 0) 3 0) 4 0) 5 0) 6 0) 7 0) 8 0) 9 0) 10 0) 11 0) 12 0) 13 0) 0 0) 1 0) 2 0) 3 0) 4 0) 5 0) 6 0) 7 0) 8 0) 9 0) 10 0) 11 0) 12 0) 13 0) 0 0) 1 0) 2 0) 3 0) 4 0) 5 0) 6 0) 7 0) 8 0) 9 0) 10 0) 11 0) 12 0) 13 0))), (nmk, .inl (cI, 61, .inl (upd (upd (upd (fun _ => 0) 0 5000000) 0 4) 0 4)))] H := hP
          replace hD : va_D A [(n, .inr (8, [.int 800, .int 0, .int 0, .int 0, .int 0, .int 0, .int 0, .ref nwi, .ref nco, .int 0, .ref nqu, .ref nmi, .ref nde, .ref nsa, .ref nsm, .int 0, .ref npa, .int 0, .ref nac, .ref nam, .ref naw, .int 0, .int 0, .int (-6), .int 0, .int 4000, .int (-6), .int (-6), .int 0, .int 0, .ref ncs, .ref nbw, .ref ndc, .ref nmk, .int 800, .int 0, .int 0, .int 0, .int 0, .int 0, .int 0, .ref npo, .int 0, .ref nta, .ref npl, .int 0, .int 0, .ref nmm, .ref ncu, .ref nke, .ref nik, .int 0, .int 0])), (ndc, .inl (cI, 14, .inl (upd (upd (upd (upd (upd (upd (upd (upd (upd (upd (upd (upd (upd (upd (upd (upd (upd (upd (upd (upd (upd (upd (upd (upd (upd (upd (upd (upd (upd (upd (upd (upd (upd (upd (upd (upd (upd (upd (upd (upd (upd (upd (fun _ => 0) 0 0) 1 0) 2 0) 3 0) 4 0) 5 0) 6 0) 7 0) 8 0) 9 0) 10 0) 11 0) 12 0) 13 0) 0 0) 1 0) 2 0) 3 0) 4 0) 5 0) 6 0) 7 0) 8 0) 9 0) 10 0) 11 0) 12 0) 13 0) 0 0) 1 0) 2 0) 3 0) 4 0) 5 0) 6 0) 7 0) 8 0) 9 0) 10 0) 11 0) 12 0) 13 0))), (nmk, .inl (cI, 61, .inl (upd (upd (upd (fun _ => 0) 0 5000000) 0 4) 0 4)))] := hD
          refine lv_lload hx hb dX8_gust_192 (lv_at hl 1 rfl) ?_
          refine lv_lload hx hb dX8_gust_194 (lv_at hl 2 rfl) ?_
          refine lv_iload_n hx hb dX8_gust_196 rfl (lv_at hl 9 rfl) ?_
          refine mx_l (wr := [(n, .inr (8, [.int 800, .int 0, .int 0, .int 0, .int 0, .int 0, .int 0, .ref nwi, .ref nco, .int 0, .ref nqu, .ref nmi, .ref nde, .ref nsa, .ref nsm, .int 0, .ref npa, .int 0, .ref nac, .ref nam, .ref naw, .int 0, .int 0, .int (-6), .int 0, .int 4000, .int (-6), .int (-6), .int 0, .int 0, .ref ncs, .ref nbw, .ref ndc, .ref nmk, .int 800, .int 0, .int 0, .int 0, .int 0, .int 0, .int 0, .ref npo, .int 0, .ref nta, .ref npl, .int 0, .int 0, .ref nmm, .ref ncu, .ref nke, .ref nik, .int 0, .int 0])), (ndc, .inl (cI, 14, .inl (upd (upd (upd (upd (upd (upd (upd (upd (upd (upd (upd (upd (upd (upd (upd (upd (upd (upd (upd (upd (upd (upd (upd (upd (upd (upd (upd (upd (upd (upd (upd (upd (upd (upd (upd (upd (upd (upd (upd (upd (upd (upd (fun _ => 0) 0 0) 1 0) 2 0) 3 0) 4 0) 5 0) 6 0) 7 0) 8 0) 9 0) 10 0) 11 0) 12 0) 13 0) 0 0) 1 0) 2 0) 3 0) 4 0) 5 0) 6 0) 7 0) 8 0) 9 0) 10 0) 11 0) 12 0) 13 0) 0 0) 1 0) 2 0) 3 0) 4 0) 5 0) 6 0) 7 0) 8 0) 9 0) 10 0) 11 0) 12 0) 13 0))), (nmk, .inl (cI, 61, .inl (upd (upd (upd (fun _ => 0) 0 5000000) 0 4) 0 4)))]) (va_runS (As := [.long 10, .long 10, .int 0]) (rest := []) ⟨hx, hb, hml, hown, hts⟩ (c_X8_lowest_10_0 l dC dI cI cZ cK tS aK aV  H.size) (va_cwS 3 hts (gw_s (fun _ h9 => List.mem_cons_of_mem _ h9) wm_528 wm_529 wm_385 wm_530) rfl rfl rfl (by decide +kernel) ⟨Nat.le_of_ble_eq_true rfl, Nat.le_of_ble_eq_true rfl⟩) (mx_preS hKx hP hD hS hA [] (by decide) rfl) rfl rfl hl.1 rfl (lv_room (Nat.le_of_ble_eq_true rfl)) dX8_gust_197 ⟨Nat.le_of_ble_eq_true rfl, Nat.le_of_ble_eq_true rfl⟩) hP hD hS hA [] [0, 1, 2] rfl rfl (by decide) (by decide) (fun r82 u82 H locs hq82 hP hD hS => ?_)
          replace hP : va_P (dC, dI) vwCl [(n, .inr (8, [.int 800, .int 0, .int 0, .int 0, .int 0, .int 0, .int 0, .ref nwi, .ref nco, .int 0, .ref nqu, .ref nmi, .ref nde, .ref nsa, .ref nsm, .int 0, .ref npa, .int 0, .ref nac, .ref nam, .ref naw, .int 0, .int 0, .int (-6), .int 0, .int 4000, .int (-6), .int (-6), .int 0, .int 0, .ref ncs, .ref nbw, .ref ndc, .ref nmk, .int 800, .int 0, .int 0, .int 0, .int 0, .int 0, .int 0, .ref npo, .int 0, .ref nta, .ref npl, .int 0, .int 0, .ref nmm, .ref ncu, .ref nke, .ref nik, .int 0, .int 0])), (ndc, .inl (cI, 14, .inl (upd (upd (upd (upd (upd (upd (upd (upd (upd (upd (upd (upd (upd (upd (upd (upd (upd (upd (upd (upd (upd (upd (upd (upd (upd (upd (upd (upd (upd (upd (upd (upd (upd (upd (upd (upd (upd (upd (upd (upd (upd (upd (fun _ => 0) 0 0) 1 0) 2 0) 3 0) 4 0) 5 0) 6 0) 7 0) 8 0) 9 0) 10 0) 11 0) 12 0) 13 0) 0 0) 1 0) 2 0) 3 0) 4 0) 5 0) 6 0) 7 0) 8 0) 9 0) 10 0) 11 0) 12 0) 13 0) 0 0) 1 0) 2 0) 3 0) 4 0) 5 0) 6 0) 7 0) 8 0) 9 0) 10 0) 11 0) 12 0) 13 0))), (nmk, .inl (cI, 61, .inl (upd (upd (upd (fun _ => 0) 0 5000000) 0 4) 0 4)))] H := hP
          replace hD : va_D A [(n, .inr (8, [.int 800, .int 0, .int 0, .int 0, .int 0, .int 0, .int 0, .ref nwi, .ref nco, .int 0, .ref nqu, .ref nmi, .ref nde, .ref nsa, .ref nsm, .int 0, .ref npa, .int 0, .ref nac, .ref nam, .ref naw, .int 0, .int 0, .int (-6), .int 0, .int 4000, .int (-6), .int (-6), .int 0, .int 0, .ref ncs, .ref nbw, .ref ndc, .ref nmk, .int 800, .int 0, .int 0, .int 0, .int 0, .int 0, .int 0, .ref npo, .int 0, .ref nta, .ref npl, .int 0, .int 0, .ref nmm, .ref ncu, .ref nke, .ref nik, .int 0, .int 0])), (ndc, .inl (cI, 14, .inl (upd (upd (upd (upd (upd (upd (upd (upd (upd (upd (upd (upd (upd (upd (upd (upd (upd (upd (upd (upd (upd (upd (upd (upd (upd (upd (upd (upd (upd (upd (upd (upd (upd (upd (upd (upd (upd (upd (upd (upd (upd (upd (fun _ => 0) 0 0) 1 0) 2 0) 3 0) 4 0) 5 0) 6 0) 7 0) 8 0) 9 0) 10 0) 11 0) 12 0) 13 0) 0 0) 1 0) 2 0) 3 0) 4 0) 5 0) 6 0) 7 0) 8 0) 9 0) 10 0) 11 0) 12 0) 13 0) 0 0) 1 0) 2 0) 3 0) 4 0) 5 0) 6 0) 7 0) 8 0) 9 0) 10 0) 11 0) 12 0) 13 0))), (nmk, .inl (cI, 61, .inl (upd (upd (upd (fun _ => 0) 0 5000000) 0 4) 0 4)))] := hD
          obtain rfl : r82 = 1 := hq82
          have hP9 := mx_subP (wc := []) hP [] rfl
          have hD9 := hD.sub (ws' := []) [] (by decide) rfl
          exact W.lret (v := 1) hx hb hr (fun t ht hW => ⟨⟨1, (), rfl, rfl, by rw [ht]; exact hP9, hD9⟩, hS.F ht⟩) hS.2.2 dX8_gust_200
        · have z9 : (2 : Int32).toInt = 2 := rfl
          refine lv_aload_n hx hb dX8_gust_36 rfl (lv_at hl 0 rfl) ?_
          refine mx_i (wr := [(ndc, .inl (cI, 14, .inl (fun _ => 0))), (nmk, .inl (cI, 61, .inl (fun _ => 0)))]) (va_runV (As := []) (rest := []) ⟨hx, hb, hml, hown, hts⟩ (c_X8_faultIn l dC dI cI cZ cK tS aK aV n nwi nco nqu nmi nde nsa nsm npa nac nam naw ncs nbw ndc nmk npo nta npl nmm ncu nke nik 800 0 0 0 0 0 0 0 0 0 0 0 0 0 0 0 0 0 0 0 0 0 0 0 0 0 0 0 0 0 H.size) (cwV 0 hts (gw_v (fun _ h9 => List.mem_cons_of_mem _ h9) wm_453 wm_454 wm_455 wm_385 wm_456) rfl rfl rfl (by decide +kernel) ⟨Nat.le_of_ble_eq_true rfl, Nat.le_of_ble_eq_true rfl⟩) (mx_preV (C := RX8) (T := TX8) (N := 53) (ci := 8) hKx hP hD hS hA [0] (by decide) rfl rfl rfl) rfl rfl hl.1 rfl (lv_room (Nat.le_of_ble_eq_true rfl)) dX8_gust_37 ⟨Nat.le_of_ble_eq_true rfl, Nat.le_of_ble_eq_true rfl⟩) hP hD hS hA [0] [1, 2] rfl rfl (by decide) (by decide) (fun r83 u83 H locs hq83 hP hD hS => ?_)
          replace hP : va_P (dC, dI) vwCl [(ndc, .inl (cI, 14, .inl (fun _ => 0))), (nmk, .inl (cI, 61, .inl (fun _ => 0))), (n, .inr (8, [.int 800, .int 0, .int 0, .int 0, .int 0, .int 0, .int 0, .ref nwi, .ref nco, .int 0, .ref nqu, .ref nmi, .ref nde, .ref nsa, .ref nsm, .int 0, .ref npa, .int 0, .ref nac, .ref nam, .ref naw, .int 0, .int 0, .int 0, .int 0, .int 0, .int 0, .int 0, .int 0, .int 0, .ref ncs, .ref nbw, .ref ndc, .ref nmk, .int 0, .int 0, .int 0, .int 0, .int 0, .int 0, .int 0, .ref npo, .int 0, .ref nta, .ref npl, .int 0, .int 0, .ref nmm, .ref ncu, .ref nke, .ref nik, .int 0, .int 0]))] H := hP
          replace hD : va_D A [(ndc, .inl (cI, 14, .inl (fun _ => 0))), (nmk, .inl (cI, 61, .inl (fun _ => 0))), (n, .inr (8, [.int 800, .int 0, .int 0, .int 0, .int 0, .int 0, .int 0, .ref nwi, .ref nco, .int 0, .ref nqu, .ref nmi, .ref nde, .ref nsa, .ref nsm, .int 0, .ref npa, .int 0, .ref nac, .ref nam, .ref naw, .int 0, .int 0, .int 0, .int 0, .int 0, .int 0, .int 0, .int 0, .int 0, .ref ncs, .ref nbw, .ref ndc, .ref nmk, .int 0, .int 0, .int 0, .int 0, .int 0, .int 0, .int 0, .ref npo, .int 0, .ref nta, .ref npl, .int 0, .int 0, .ref nmm, .ref ncu, .ref nke, .ref nik, .int 0, .int 0]))] := hD
          obtain rfl : r83 = (-6) := hq83
          refine lv_if_lt (tgt := 47) hx hb dX8_gust_40 (by decide) (fun c84 => ?_) (fun c84 => absurd c84 (by decide))
          refine lv_aload_n hx hb dX8_gust_47 rfl (lv_at hl 0 rfl) ?_
          refine mx_v (wr := [(ndc, .inl (cI, 14, .inl (fun _ => 0))), (nmk, .inl (cI, 61, .inl (fun _ => 0)))]) (va_runV (As := []) (rest := []) ⟨hx, hb, hml, hown, hts⟩ (c_X8_keepNow l dC dI cI cZ cK tS aK aV n nwi nco nqu nmi nde nsa nsm npa nac nam naw ncs nbw ndc nmk npo nta npl nmm ncu nke nik 800 0 0 0 0 0 0 0 0 0 0 0 0 0 0 0 0 0 0 0 0 0 0 0 0 0 0 0 0 0 0 H.size) (cwV 0 hts (gw_v (fun _ h9 => List.mem_cons_of_mem _ h9) wm_457 wm_458 wm_459 wm_385 wm_460) rfl rfl rfl (by decide +kernel) ⟨Nat.le_of_ble_eq_true rfl, Nat.le_of_ble_eq_true rfl⟩) (mx_preV (C := RX8) (T := TX8) (N := 53) (ci := 8) hKx hP hD hS hA [2] (by decide) rfl rfl rfl) rfl rfl hl.1 rfl (lv_room (Nat.le_of_ble_eq_true rfl)) dX8_gust_48 ⟨Nat.le_of_ble_eq_true rfl, Nat.le_of_ble_eq_true rfl⟩) hP hD hS hA [2] [0, 1] rfl rfl (by decide) (by decide) (fun u85 H locs hq85 hP hD hS => ?_)
          replace hP : va_P (dC, dI) vwCl [(ndc, .inl (cI, 14, .inl (fun _ => 0))), (nmk, .inl (cI, 61, .inl (fun _ => 0))), (n, .inr (8, [.int 800, .int 0, .int 0, .int 0, .int 0, .int 0, .int 0, .ref nwi, .ref nco, .int 0, .ref nqu, .ref nmi, .ref nde, .ref nsa, .ref nsm, .int 0, .ref npa, .int 0, .ref nac, .ref nam, .ref naw, .int 0, .int 0, .int (-6), .int 0, .int 4000, .int 0, .int 0, .int 0, .int 0, .ref ncs, .ref nbw, .ref ndc, .ref nmk, .int 800, .int 0, .int 0, .int 0, .int 0, .int 0, .int 0, .ref npo, .int 0, .ref nta, .ref npl, .int 0, .int 0, .ref nmm, .ref ncu, .ref nke, .ref nik, .int 0, .int 0]))] H := hP
          replace hD : va_D A [(ndc, .inl (cI, 14, .inl (fun _ => 0))), (nmk, .inl (cI, 61, .inl (fun _ => 0))), (n, .inr (8, [.int 800, .int 0, .int 0, .int 0, .int 0, .int 0, .int 0, .ref nwi, .ref nco, .int 0, .ref nqu, .ref nmi, .ref nde, .ref nsa, .ref nsm, .int 0, .ref npa, .int 0, .ref nac, .ref nam, .ref naw, .int 0, .int 0, .int (-6), .int 0, .int 4000, .int 0, .int 0, .int 0, .int 0, .ref ncs, .ref nbw, .ref ndc, .ref nmk, .int 800, .int 0, .int 0, .int 0, .int 0, .int 0, .int 0, .ref npo, .int 0, .ref nta, .ref npl, .int 0, .int 0, .ref nmm, .ref ncu, .ref nke, .ref nik, .int 0, .int 0]))] := hD
          refine lv_aload_n hx hb dX8_gust_51 rfl (lv_at hl 0 rfl) ?_
          refine mx_i (wr := []) (va_runV (As := []) (rest := []) ⟨hx, hb, hml, hown, hts⟩ (c_X8_canWithoutEnd l dC dI cI cZ cK tS aK aV n nwi nco nqu nmi nde nsa nsm npa nac nam naw ncs nbw ndc nmk npo nta npl nmm ncu nke nik 800 0 0 0 0 0 0 0 0 0 0 (-6) 0 4000 0 0 0 0 800 0 0 0 0 0 0 0 0 0 0 0 (fun _ => 0) (fun _ => 0) H.size) (cwV 0 hts (gw_v (fun _ h9 => List.mem_cons_of_mem _ h9) wm_519 wm_520 wm_521 wm_385 wm_522) rfl rfl rfl (by decide +kernel) ⟨Nat.le_of_ble_eq_true rfl, Nat.le_of_ble_eq_true rfl⟩) (mx_preV (C := RX8) (T := TX8) (N := 53) (ci := 8) hKx hP hD hS hA [2, 0, 1] (by decide) rfl rfl rfl) rfl rfl hl.1 rfl (lv_room (Nat.le_of_ble_eq_true rfl)) dX8_gust_52 ⟨Nat.le_of_ble_eq_true rfl, Nat.le_of_ble_eq_true rfl⟩) hP hD hS hA [2, 0, 1] [] rfl rfl (by decide) (by decide) (fun r86 u86 H locs hq86 hP hD hS => ?_)
          replace hP : va_P (dC, dI) vwCl [(n, .inr (8, [.int 800, .int 0, .int 0, .int 0, .int 0, .int 0, .int 0, .ref nwi, .ref nco, .int 0, .ref nqu, .ref nmi, .ref nde, .ref nsa, .ref nsm, .int 0, .ref npa, .int 0, .ref nac, .ref nam, .ref naw, .int 0, .int 0, .int (-6), .int 0, .int 4000, .int (-6), .int (-6), .int 0, .int 0, .ref ncs, .ref nbw, .ref ndc, .ref nmk, .int 800, .int 0, .int 0, .int 0, .int 0, .int 0, .int 0, .ref npo, .int 0, .ref nta, .ref npl, .int 0, .int 0, .ref nmm, .ref ncu, .ref nke, .ref nik, .int 0, .int 0])), (ndc, .inl (cI, 14, .inl (upd (upd (upd (upd (upd (upd (upd (upd (upd (upd (upd (upd (upd (upd (fun _ => 0) 0 0) 1 0) 2 0) 3 0) 4 0) 5 0) 6 0) 7 0) 8 0) 9 0) 10 0) 11 0) 12 0) 13 0))), (nmk, .inl (cI, 61, .inl (upd (fun _ => 0) 0 5000000)))] H := hP
          replace hD : va_D A [(n, .inr (8, [.int 800, .int 0, .int 0, .int 0, .int 0, .int 0, .int 0, .ref nwi, .ref nco, .int 0, .ref nqu, .ref nmi, .ref nde, .ref nsa, .ref nsm, .int 0, .ref npa, .int 0, .ref nac, .ref nam, .ref naw, .int 0, .int 0, .int (-6), .int 0, .int 4000, .int (-6), .int (-6), .int 0, .int 0, .ref ncs, .ref nbw, .ref ndc, .ref nmk, .int 800, .int 0, .int 0, .int 0, .int 0, .int 0, .int 0, .ref npo, .int 0, .ref nta, .ref npl, .int 0, .int 0, .ref nmm, .ref ncu, .ref nke, .ref nik, .int 0, .int 0])), (ndc, .inl (cI, 14, .inl (upd (upd (upd (upd (upd (upd (upd (upd (upd (upd (upd (upd (upd (upd (fun _ => 0) 0 0) 1 0) 2 0) 3 0) 4 0) 5 0) 6 0) 7 0) 8 0) 9 0) 10 0) 11 0) 12 0) 13 0))), (nmk, .inl (cI, 61, .inl (upd (fun _ => 0) 0 5000000)))] := hD
          obtain rfl : r86 = 1 := hq86
          refine lv_if_ne (tgt := 62) hx hb dX8_gust_55 (by decide) (fun c87 => ?_) (fun c87 => absurd c87 (by decide))
          refine lv_aload_n hx hb dX8_gust_62 rfl (lv_at hl 0 rfl) ?_
          refine va_get (D := (dC, dI)) (ci := 8) (v := .int 0) (C := RX8) (T := TX8) (N := 53) hx hb hts hin8 hown hK hP 0 rfl rfl 39 (by decide) hw1 (fun _ h9 => h9) rfl dX8_gust_63 ?_
          refine lv_aload_n hx hb dX8_gust_66 rfl (lv_at hl 0 rfl) ?_
          refine va_get (D := (dC, dI)) (ci := 8) (v := .int 0) (C := RX8) (T := TX8) (N := 53) hx hb hts hin8 hown hK hP 0 rfl rfl 4 (by decide) hw2 (fun _ h9 => h9) rfl dX8_gust_67 ?_
          refine lv_isub hx hb dX8_gust_70 ?_
          refine lv_topi (fun x88 e88 => ?_)
          obtain rfl : x88 = 0 := e88.trans (by decide)
          refine lv_iconst (v := 1) hx hb dX8_gust_71 (by decide) ?_
          refine lv_iadd hx hb dX8_gust_72 ?_
          refine lv_topi (fun x89 e89 => ?_)
          obtain rfl : x89 = 1 := e89.trans (by decide)
          refine lv_istore (lv' := [(4, .int 1), (0, .ref n), (1, .int 2), (2, .int 0), (3, .int 0)]) hx hb dX8_gust_73 hl (by decide) rfl (fun ls hl => ?_)
          refine lv_iload hx hb dX8_gust_75 (lv_at hl 0 rfl) ?_
          refine lv_bipush (v := 8) hx hb dX8_gust_77 (by decide) ?_
          refine lv_icmp_le (tgt := 86) hx hb dX8_gust_79 (by decide) (fun c90 => ?_) (fun c90 => absurd c90 (by decide))
          refine lv_lconst (v := 0) hx hb dX8_gust_86 (by decide) ?_
          refine lv_lstore (lv' := [(5, .long 0), (4, .int 1), (0, .ref n), (1, .int 2), (2, .int 0), (3, .int 0)]) hx hb dX8_gust_87 hl (by decide) rfl (fun ls hl => ?_)
          refine lv_lconst (v := 0) hx hb dX8_gust_89 (by decide) ?_
          refine lv_lstore (lv' := [(7, .long 0), (5, .long 0), (4, .int 1), (0, .ref n), (1, .int 2), (2, .int 0), (3, .int 0)]) hx hb dX8_gust_90 hl (by decide) rfl (fun ls hl => ?_)
          refine lv_iconst (v := 0) hx hb dX8_gust_92 (by decide) ?_
          refine lv_istore (lv' := [(9, .int 0), (7, .long 0), (5, .long 0), (4, .int 1), (0, .ref n), (1, .int 2), (2, .int 0), (3, .int 0)]) hx hb dX8_gust_93 hl (by decide) rfl (fun ls hl => ?_)
          refine lv_iload hx hb dX8_gust_95 (lv_at hl 0 rfl) ?_
          refine lv_iconst (v := 1) hx hb dX8_gust_97 (by decide) ?_
          refine lv_iload hx hb dX8_gust_98 (lv_at hl 3 rfl) ?_
          refine lv_ishl hx hb dX8_gust_100 ?_
          refine lv_topi (fun x91 e91 => ?_)
          obtain rfl : x91 = 2 := e91.trans (by decide)
          refine lv_icmp_ge (tgt := 187) hx hb dX8_gust_101 (by decide) (fun c92 => absurd c92 (by decide)) (fun c92 => ?_)
          refine lv_lconst (v := 1) hx hb dX8_gust_104 (by decide) ?_
          refine lv_lstore (lv' := [(10, .long 1), (9, .int 0), (7, .long 0), (5, .long 0), (4, .int 1), (0, .ref n), (1, .int 2), (2, .int 0), (3, .int 0)]) hx hb dX8_gust_105 hl (by decide) rfl (fun ls hl => ?_)
          refine lv_iconst (v := 0) hx hb dX8_gust_107 (by decide) ?_
          refine lv_istore (lv' := [(12, .int 0), (10, .long 1), (9, .int 0), (7, .long 0), (5, .long 0), (4, .int 1), (0, .ref n), (1, .int 2), (2, .int 0), (3, .int 0)]) hx hb dX8_gust_108 hl (by decide) rfl (fun ls hl => ?_)
          refine lv_iload hx hb dX8_gust_110 (lv_at hl 0 rfl) ?_
          refine lv_iload hx hb dX8_gust_112 (lv_at hl 5 rfl) ?_
          refine lv_icmp_ge (tgt := 149) hx hb dX8_gust_114 (by decide) (fun c93 => absurd c93 (by decide)) (fun c93 => ?_)
          refine lv_lload hx hb dX8_gust_117 (lv_at hl 1 rfl) ?_
          refine lv_iload hx hb dX8_gust_119 (lv_at hl 2 rfl) ?_
          refine lv_iload hx hb dX8_gust_121 (lv_at hl 0 rfl) ?_
          refine lv_ishr hx hb dX8_gust_123 ?_
          refine lv_topi (fun x94 e94 => ?_)
          obtain rfl : x94 = 0 := e94.trans (by decide)
          refine lv_iconst (v := 1) hx hb dX8_gust_124 (by decide) ?_
          refine lv_iand hx hb dX8_gust_125 ?_
          refine lv_topi (fun x95 e95 => ?_)
          obtain rfl : x95 = 0 := e95.trans (by decide)
          refine lv_iconst (v := 1) hx hb dX8_gust_126 (by decide) ?_
          refine lv_icmp_ne (tgt := 135) hx hb dX8_gust_127 (by decide) (fun c96 => ?_) (fun c96 => absurd c96 (by decide))
          refine lv_bipush (v := 10) hx hb dX8_gust_135 (by decide) ?_
          refine lv_iload_n hx hb dX8_gust_137 rfl (lv_at hl 7 rfl) ?_
          refine lv_isub hx hb dX8_gust_138 ?_
          refine lv_topi (fun x97 e97 => ?_)
          obtain rfl : x97 = 8 := e97.trans (by decide)
          refine lv_i2l (v := 8) hx hb dX8_gust_139 (by decide) ?_
          refine lv_lmul hx hb dX8_gust_140 ?_
          refine lv_topl (fun x98 e98 => ?_)
          obtain rfl : x98 = 8 := e98.trans (by decide)
          refine lv_lstore (lv' := [(10, .long 8), (12, .int 0), (9, .int 0), (7, .long 0), (5, .long 0), (4, .int 1), (0, .ref n), (1, .int 2), (2, .int 0), (3, .int 0)]) hx hb dX8_gust_141 hl (by decide) rfl (fun ls hl => ?_)
          refine lv_iinc (v := 1) (lv' := [(12, .int 1), (10, .long 8), (9, .int 0), (7, .long 0), (5, .long 0), (4, .int 1), (0, .ref n), (1, .int 2), (2, .int 0), (3, .int 0)]) hx hb dX8_gust_143 hl (k := 1) rfl (by decide) (by decide) rfl (fun ls hl => ?_)
          refine lv_goto (tgt := 110) hx hb dX8_gust_146 (by decide) ?_
          refine lv_iload hx hb dX8_gust_110 (lv_at hl 0 rfl) ?_
          refine lv_iload hx hb dX8_gust_112 (lv_at hl 5 rfl) ?_
          refine lv_icmp_ge (tgt := 149) hx hb dX8_gust_114 (by decide) (fun c99 => ?_) (fun c99 => absurd c99 (by decide))
          refine lv_aload_n hx hb dX8_gust_149 rfl (lv_at hl 6 rfl) ?_
          refine lv_iload hx hb dX8_gust_150 (lv_at hl 2 rfl) ?_
          refine lv_aload_n hx hb dX8_gust_152 rfl (lv_at hl 6 rfl) ?_
          refine va_get (D := (dC, dI)) (ci := 8) (v := .int 0) (C := RX8) (T := TX8) (N := 53) hx hb hts hin8 hown hK hP 0 rfl rfl 4 (by decide) hw2 (fun _ h9 => h9) rfl dX8_gust_153 ?_
          refine lv_ishl hx hb dX8_gust_156 ?_
          refine lv_topi (fun x100 e100 => ?_)
          obtain rfl : x100 = 0 := e100.trans (by decide)
          refine va_put (D := (dC, dI)) (ci := 8) (v := .int 0) (ty := .int) (C := RX8) (T := TX8) (N := 53) hx hb hts hin8 tyX8 tyX8_ok nmX8 hown hK hP hD hS 0 rfl rfl 22 (by decide) hw3 (fun _ h9 => h9) rfl (by decide +kernel) rfl rfl (Nat.le_of_ble_eq_true rfl) dX8_gust_157 (fun H locs hP hD hS => ?_)
          replace hP : va_P (dC, dI) vwCl [(n, .inr (8, [.int 800, .int 0, .int 0, .int 0, .int 0, .int 0, .int 0, .ref nwi, .ref nco, .int 0, .ref nqu, .ref nmi, .ref nde, .ref nsa, .ref nsm, .int 0, .ref npa, .int 0, .ref nac, .ref nam, .ref naw, .int 0, .int 0, .int (-6), .int 0, .int 4000, .int (-6), .int (-6), .int 0, .int 0, .ref ncs, .ref nbw, .ref ndc, .ref nmk, .int 800, .int 0, .int 0, .int 0, .int 0, .int 0, .int 0, .ref npo, .int 0, .ref nta, .ref npl, .int 0, .int 0, .ref nmm, .ref ncu, .ref nke, .ref nik, .int 0, .int 0])), (ndc, .inl (cI, 14, .inl (upd (upd (upd (upd (upd (upd (upd (upd (upd (upd (upd (upd (upd (upd (fun _ => 0) 0 0) 1 0) 2 0) 3 0) 4 0) 5 0) 6 0) 7 0) 8 0) 9 0) 10 0) 11 0) 12 0) 13 0))), (nmk, .inl (cI, 61, .inl (upd (fun _ => 0) 0 5000000)))] H := hP
          replace hD : va_D A [(n, .inr (8, [.int 800, .int 0, .int 0, .int 0, .int 0, .int 0, .int 0, .ref nwi, .ref nco, .int 0, .ref nqu, .ref nmi, .ref nde, .ref nsa, .ref nsm, .int 0, .ref npa, .int 0, .ref nac, .ref nam, .ref naw, .int 0, .int 0, .int (-6), .int 0, .int 4000, .int (-6), .int (-6), .int 0, .int 0, .ref ncs, .ref nbw, .ref ndc, .ref nmk, .int 800, .int 0, .int 0, .int 0, .int 0, .int 0, .int 0, .ref npo, .int 0, .ref nta, .ref npl, .int 0, .int 0, .ref nmm, .ref ncu, .ref nke, .ref nik, .int 0, .int 0])), (ndc, .inl (cI, 14, .inl (upd (upd (upd (upd (upd (upd (upd (upd (upd (upd (upd (upd (upd (upd (fun _ => 0) 0 0) 1 0) 2 0) 3 0) 4 0) 5 0) 6 0) 7 0) 8 0) 9 0) 10 0) 11 0) 12 0) 13 0))), (nmk, .inl (cI, 61, .inl (upd (fun _ => 0) 0 5000000)))] := hD
          refine lv_lload hx hb dX8_gust_160 (lv_at hl 3 rfl) ?_
          refine lv_lload hx hb dX8_gust_162 (lv_at hl 1 rfl) ?_
          refine lv_ladd hx hb dX8_gust_164 ?_
          refine lv_topl (fun x101 e101 => ?_)
          obtain rfl : x101 = 8 := e101.trans (by decide)
          refine lv_lstore (lv' := [(7, .long 8), (12, .int 1), (10, .long 8), (9, .int 0), (5, .long 0), (4, .int 1), (0, .ref n), (1, .int 2), (2, .int 0), (3, .int 0)]) hx hb dX8_gust_165 hl (by decide) rfl (fun ls hl => ?_)
          refine lv_lload hx hb dX8_gust_167 (lv_at hl 4 rfl) ?_
          refine lv_lload hx hb dX8_gust_169 (lv_at hl 2 rfl) ?_
          refine lv_aload_n hx hb dX8_gust_171 rfl (lv_at hl 6 rfl) ?_
          refine lv_iload_n hx hb dX8_gust_172 rfl (lv_at hl 8 rfl) ?_
          refine mx_i (wr := []) (va_runV (As := [.int 0]) (rest := [.long 8, .long 0]) ⟨hx, hb, hml, hown, hts⟩ (c_X8_worthOfGusts_0 l dC dI cI cZ cK tS aK aV n nwi nco nqu nmi nde nsa nsm npa nac nam naw ncs nbw ndc nmk npo nta npl nmm ncu nke nik 0 0 0 0 0 0 0 0 0 0 (-6) 0 4000 (-6) (-6) 0 0 800 0 0 0 0 0 0 0 0 0 0 0 (upd (upd (upd (upd (upd (upd (upd (upd (upd (upd (upd (upd (upd (upd (fun _ => 0) 0 0) 1 0) 2 0) 3 0) 4 0) 5 0) 6 0) 7 0) 8 0) 9 0) 10 0) 11 0) 12 0) 13 0) (upd (fun _ => 0) 0 5000000) H.size) (cwV 1 hts (gw_v (fun _ h9 => List.mem_cons_of_mem _ h9) wm_524 wm_525 wm_526 wm_385 wm_527) rfl rfl rfl (by decide +kernel) ⟨Nat.le_of_ble_eq_true rfl, Nat.le_of_ble_eq_true rfl⟩) (mx_preV (C := RX8) (T := TX8) (N := 53) (ci := 8) hKx hP hD hS hA [0, 1, 2] (by decide) rfl rfl rfl) rfl rfl hl.1 rfl (lv_room (Nat.le_of_ble_eq_true rfl)) dX8_gust_173 ⟨Nat.le_of_ble_eq_true rfl, Nat.le_of_ble_eq_true rfl⟩) hP hD hS hA [0, 1, 2] [] rfl rfl (by decide) (by decide) (fun r102 u102 H locs hq102 hP hD hS => ?_)
          replace hP : va_P (dC, dI) vwCl [(n, .inr (8, [.int 800, .int 0, .int 0, .int 0, .int 0, .int 0, .int 0, .ref nwi, .ref nco, .int 0, .ref nqu, .ref nmi, .ref nde, .ref nsa, .ref nsm, .int 0, .ref npa, .int 0, .ref nac, .ref nam, .ref naw, .int 0, .int 0, .int (-6), .int 0, .int 4000, .int (-6), .int (-6), .int 0, .int 0, .ref ncs, .ref nbw, .ref ndc, .ref nmk, .int 800, .int 0, .int 0, .int 0, .int 0, .int 0, .int 0, .ref npo, .int 0, .ref nta, .ref npl, .int 0, .int 0, .ref nmm, .ref ncu, .ref nke, .ref nik, .int 0, .int 0])), (ndc, .inl (cI, 14, .inl (upd (upd (upd (upd (upd (upd (upd (upd (upd (upd (upd (upd (upd (upd (upd (upd (upd (upd (upd (upd (upd (upd (upd (upd (upd (upd (upd (upd (fun _ => 0) 0 0) 1 0) 2 0) 3 0) 4 0) 5 0) 6 0) 7 0) 8 0) 9 0) 10 0) 11 0) 12 0) 13 0) 0 0) 1 0) 2 0) 3 0) 4 0) 5 0) 6 0) 7 0) 8 0) 9 0) 10 0) 11 0) 12 0) 13 0))), (nmk, .inl (cI, 61, .inl (upd (upd (fun _ => 0) 0 5000000) 0 4)))] H := hP
          replace hD : va_D A [(n, .inr (8, [.int 800, .int 0, .int 0, .int 0, .int 0, .int 0, .int 0, .ref nwi, .ref nco, .int 0, .ref nqu, .ref nmi, .ref nde, .ref nsa, .ref nsm, .int 0, .ref npa, .int 0, .ref nac, .ref nam, .ref naw, .int 0, .int 0, .int (-6), .int 0, .int 4000, .int (-6), .int (-6), .int 0, .int 0, .ref ncs, .ref nbw, .ref ndc, .ref nmk, .int 800, .int 0, .int 0, .int 0, .int 0, .int 0, .int 0, .ref npo, .int 0, .ref nta, .ref npl, .int 0, .int 0, .ref nmm, .ref ncu, .ref nke, .ref nik, .int 0, .int 0])), (ndc, .inl (cI, 14, .inl (upd (upd (upd (upd (upd (upd (upd (upd (upd (upd (upd (upd (upd (upd (upd (upd (upd (upd (upd (upd (upd (upd (upd (upd (upd (upd (upd (upd (fun _ => 0) 0 0) 1 0) 2 0) 3 0) 4 0) 5 0) 6 0) 7 0) 8 0) 9 0) 10 0) 11 0) 12 0) 13 0) 0 0) 1 0) 2 0) 3 0) 4 0) 5 0) 6 0) 7 0) 8 0) 9 0) 10 0) 11 0) 12 0) 13 0))), (nmk, .inl (cI, 61, .inl (upd (upd (fun _ => 0) 0 5000000) 0 4)))] := hD
          obtain rfl : r102 = 1 := hq102
          refine lv_i2l (v := 1) hx hb dX8_gust_176 (by decide) ?_
          refine lv_lmul hx hb dX8_gust_177 ?_
          refine lv_topl (fun x103 e103 => ?_)
          obtain rfl : x103 = 8 := e103.trans (by decide)
          refine lv_ladd hx hb dX8_gust_178 ?_
          refine lv_topl (fun x104 e104 => ?_)
          obtain rfl : x104 = 8 := e104.trans (by decide)
          refine lv_lstore (lv' := [(5, .long 8), (7, .long 8), (12, .int 1), (10, .long 8), (9, .int 0), (4, .int 1), (0, .ref n), (1, .int 2), (2, .int 0), (3, .int 0)]) hx hb dX8_gust_179 hl (by decide) rfl (fun ls hl => ?_)
          refine lv_iinc (v := 1) (lv' := [(9, .int 1), (5, .long 8), (7, .long 8), (12, .int 1), (10, .long 8), (4, .int 1), (0, .ref n), (1, .int 2), (2, .int 0), (3, .int 0)]) hx hb dX8_gust_181 hl (k := 4) rfl (by decide) (by decide) rfl (fun ls hl => ?_)
          refine lv_goto (tgt := 95) hx hb dX8_gust_184 (by decide) ?_
          refine lv_iload hx hb dX8_gust_95 (lv_at hl 0 rfl) ?_
          refine lv_iconst (v := 1) hx hb dX8_gust_97 (by decide) ?_
          refine lv_iload hx hb dX8_gust_98 (lv_at hl 5 rfl) ?_
          refine lv_ishl hx hb dX8_gust_100 ?_
          refine lv_topi (fun x105 e105 => ?_)
          obtain rfl : x105 = 2 := e105.trans (by decide)
          refine lv_icmp_ge (tgt := 187) hx hb dX8_gust_101 (by decide) (fun c106 => absurd c106 (by decide)) (fun c106 => ?_)
          refine lv_lconst (v := 1) hx hb dX8_gust_104 (by decide) ?_
          refine lv_lstore (lv' := [(10, .long 1), (9, .int 1), (5, .long 8), (7, .long 8), (12, .int 1), (4, .int 1), (0, .ref n), (1, .int 2), (2, .int 0), (3, .int 0)]) hx hb dX8_gust_105 hl (by decide) rfl (fun ls hl => ?_)
          refine lv_iconst (v := 0) hx hb dX8_gust_107 (by decide) ?_
          refine lv_istore (lv' := [(12, .int 0), (10, .long 1), (9, .int 1), (5, .long 8), (7, .long 8), (4, .int 1), (0, .ref n), (1, .int 2), (2, .int 0), (3, .int 0)]) hx hb dX8_gust_108 hl (by decide) rfl (fun ls hl => ?_)
          refine lv_iload hx hb dX8_gust_110 (lv_at hl 0 rfl) ?_
          refine lv_iload hx hb dX8_gust_112 (lv_at hl 5 rfl) ?_
          refine lv_icmp_ge (tgt := 149) hx hb dX8_gust_114 (by decide) (fun c107 => absurd c107 (by decide)) (fun c107 => ?_)
          refine lv_lload hx hb dX8_gust_117 (lv_at hl 1 rfl) ?_
          refine lv_iload hx hb dX8_gust_119 (lv_at hl 2 rfl) ?_
          refine lv_iload hx hb dX8_gust_121 (lv_at hl 0 rfl) ?_
          refine lv_ishr hx hb dX8_gust_123 ?_
          refine lv_topi (fun x108 e108 => ?_)
          obtain rfl : x108 = 1 := e108.trans (by decide)
          refine lv_iconst (v := 1) hx hb dX8_gust_124 (by decide) ?_
          refine lv_iand hx hb dX8_gust_125 ?_
          refine lv_topi (fun x109 e109 => ?_)
          obtain rfl : x109 = 1 := e109.trans (by decide)
          refine lv_iconst (v := 1) hx hb dX8_gust_126 (by decide) ?_
          refine lv_icmp_ne (tgt := 135) hx hb dX8_gust_127 (by decide) (fun c110 => absurd c110 (by decide)) (fun c110 => ?_)
          refine lv_iload_n hx hb dX8_gust_130 rfl (lv_at hl 7 rfl) ?_
          refine lv_i2l (v := 2) hx hb dX8_gust_131 (by decide) ?_
          refine lv_goto (tgt := 140) hx hb dX8_gust_132 (by decide) ?_
          refine lv_lmul hx hb dX8_gust_140 ?_
          refine lv_topl (fun x111 e111 => ?_)
          obtain rfl : x111 = 2 := e111.trans (by decide)
          refine lv_lstore (lv' := [(10, .long 2), (12, .int 0), (9, .int 1), (5, .long 8), (7, .long 8), (4, .int 1), (0, .ref n), (1, .int 2), (2, .int 0), (3, .int 0)]) hx hb dX8_gust_141 hl (by decide) rfl (fun ls hl => ?_)
          refine lv_iinc (v := 1) (lv' := [(12, .int 1), (10, .long 2), (9, .int 1), (5, .long 8), (7, .long 8), (4, .int 1), (0, .ref n), (1, .int 2), (2, .int 0), (3, .int 0)]) hx hb dX8_gust_143 hl (k := 1) rfl (by decide) (by decide) rfl (fun ls hl => ?_)
          refine lv_goto (tgt := 110) hx hb dX8_gust_146 (by decide) ?_
          refine lv_iload hx hb dX8_gust_110 (lv_at hl 0 rfl) ?_
          refine lv_iload hx hb dX8_gust_112 (lv_at hl 5 rfl) ?_
          refine lv_icmp_ge (tgt := 149) hx hb dX8_gust_114 (by decide) (fun c112 => ?_) (fun c112 => absurd c112 (by decide))
          refine lv_aload_n hx hb dX8_gust_149 rfl (lv_at hl 6 rfl) ?_
          refine lv_iload hx hb dX8_gust_150 (lv_at hl 2 rfl) ?_
          refine lv_aload_n hx hb dX8_gust_152 rfl (lv_at hl 6 rfl) ?_
          refine va_get (D := (dC, dI)) (ci := 8) (v := .int 0) (C := RX8) (T := TX8) (N := 53) hx hb hts hin8 hown hK hP 0 rfl rfl 4 (by decide) hw2 (fun _ h9 => h9) rfl dX8_gust_153 ?_
          refine lv_ishl hx hb dX8_gust_156 ?_
          refine lv_topi (fun x113 e113 => ?_)
          obtain rfl : x113 = 1 := e113.trans (by decide)
          refine va_put (D := (dC, dI)) (ci := 8) (v := .int 1) (ty := .int) (C := RX8) (T := TX8) (N := 53) hx hb hts hin8 tyX8 tyX8_ok nmX8 hown hK hP hD hS 0 rfl rfl 22 (by decide) hw3 (fun _ h9 => h9) rfl (by decide +kernel) rfl rfl (Nat.le_of_ble_eq_true rfl) dX8_gust_157 (fun H locs hP hD hS => ?_)
          replace hP : va_P (dC, dI) vwCl [(n, .inr (8, [.int 800, .int 0, .int 0, .int 0, .int 0, .int 0, .int 0, .ref nwi, .ref nco, .int 0, .ref nqu, .ref nmi, .ref nde, .ref nsa, .ref nsm, .int 0, .ref npa, .int 0, .ref nac, .ref nam, .ref naw, .int 0, .int 1, .int (-6), .int 0, .int 4000, .int (-6), .int (-6), .int 0, .int 0, .ref ncs, .ref nbw, .ref ndc, .ref nmk, .int 800, .int 0, .int 0, .int 0, .int 0, .int 0, .int 0, .ref npo, .int 0, .ref nta, .ref npl, .int 0, .int 0, .ref nmm, .ref ncu, .ref nke, .ref nik, .int 0, .int 0])), (ndc, .inl (cI, 14, .inl (upd (upd (upd (upd (upd (upd (upd (upd (upd (upd (upd (upd (upd (upd (upd (upd (upd (upd (upd (upd (upd (upd (upd (upd (upd (upd (upd (upd (fun _ => 0) 0 0) 1 0) 2 0) 3 0) 4 0) 5 0) 6 0) 7 0) 8 0) 9 0) 10 0) 11 0) 12 0) 13 0) 0 0) 1 0) 2 0) 3 0) 4 0) 5 0) 6 0) 7 0) 8 0) 9 0) 10 0) 11 0) 12 0) 13 0))), (nmk, .inl (cI, 61, .inl (upd (upd (fun _ => 0) 0 5000000) 0 4)))] H := hP
          replace hD : va_D A [(n, .inr (8, [.int 800, .int 0, .int 0, .int 0, .int 0, .int 0, .int 0, .ref nwi, .ref nco, .int 0, .ref nqu, .ref nmi, .ref nde, .ref nsa, .ref nsm, .int 0, .ref npa, .int 0, .ref nac, .ref nam, .ref naw, .int 0, .int 1, .int (-6), .int 0, .int 4000, .int (-6), .int (-6), .int 0, .int 0, .ref ncs, .ref nbw, .ref ndc, .ref nmk, .int 800, .int 0, .int 0, .int 0, .int 0, .int 0, .int 0, .ref npo, .int 0, .ref nta, .ref npl, .int 0, .int 0, .ref nmm, .ref ncu, .ref nke, .ref nik, .int 0, .int 0])), (ndc, .inl (cI, 14, .inl (upd (upd (upd (upd (upd (upd (upd (upd (upd (upd (upd (upd (upd (upd (upd (upd (upd (upd (upd (upd (upd (upd (upd (upd (upd (upd (upd (upd (fun _ => 0) 0 0) 1 0) 2 0) 3 0) 4 0) 5 0) 6 0) 7 0) 8 0) 9 0) 10 0) 11 0) 12 0) 13 0) 0 0) 1 0) 2 0) 3 0) 4 0) 5 0) 6 0) 7 0) 8 0) 9 0) 10 0) 11 0) 12 0) 13 0))), (nmk, .inl (cI, 61, .inl (upd (upd (fun _ => 0) 0 5000000) 0 4)))] := hD
          refine lv_lload hx hb dX8_gust_160 (lv_at hl 4 rfl) ?_
          refine lv_lload hx hb dX8_gust_162 (lv_at hl 1 rfl) ?_
          refine lv_ladd hx hb dX8_gust_164 ?_
          refine lv_topl (fun x114 e114 => ?_)
          obtain rfl : x114 = 10 := e114.trans (by decide)
          refine lv_lstore (lv' := [(7, .long 10), (12, .int 1), (10, .long 2), (9, .int 1), (5, .long 8), (4, .int 1), (0, .ref n), (1, .int 2), (2, .int 0), (3, .int 0)]) hx hb dX8_gust_165 hl (by decide) rfl (fun ls hl => ?_)
          refine lv_lload hx hb dX8_gust_167 (lv_at hl 4 rfl) ?_
          refine lv_lload hx hb dX8_gust_169 (lv_at hl 2 rfl) ?_
          refine lv_aload_n hx hb dX8_gust_171 rfl (lv_at hl 6 rfl) ?_
          refine lv_iload_n hx hb dX8_gust_172 rfl (lv_at hl 8 rfl) ?_
          refine mx_i (wr := []) (va_runV (As := [.int 0]) (rest := [.long 2, .long 8]) ⟨hx, hb, hml, hown, hts⟩ (c_X8_worthOfGusts_0 l dC dI cI cZ cK tS aK aV n nwi nco nqu nmi nde nsa nsm npa nac nam naw ncs nbw ndc nmk npo nta npl nmm ncu nke nik 0 0 0 0 0 0 0 0 0 1 (-6) 0 4000 (-6) (-6) 0 0 800 0 0 0 0 0 0 0 0 0 0 0 (upd (upd (upd (upd (upd (upd (upd (upd (upd (upd (upd (upd (upd (upd (upd (upd (upd (upd (upd (upd (upd (upd (upd (upd (upd (upd (upd (upd (fun _ => 0) 0 0) 1 0) 2 0) 3 0) 4 0) 5 0) 6 0) 7 0) 8 0) 9 0) 10 0) 11 0) 12 0) 13 0) 0 0) 1 0) 2 0) 3 0) 4 0) 5 0) 6 0) 7 0) 8 0) 9 0) 10 0) 11 0) 12 0) 13 0) (upd (upd (fun _ => 0) 0 5000000) 0 4) H.size) (cwV 1 hts (gw_v (fun _ h9 => List.mem_cons_of_mem _ h9) wm_524 wm_525 wm_526 wm_385 wm_527) rfl rfl rfl (by decide +kernel) ⟨Nat.le_of_ble_eq_true rfl, Nat.le_of_ble_eq_true rfl⟩) (mx_preV (C := RX8) (T := TX8) (N := 53) (ci := 8) hKx hP hD hS hA [0, 1, 2] (by decide) rfl rfl rfl) rfl rfl hl.1 rfl (lv_room (Nat.le_of_ble_eq_true rfl)) dX8_gust_173 ⟨Nat.le_of_ble_eq_true rfl, Nat.le_of_ble_eq_true rfl⟩) hP hD hS hA [0, 1, 2] [] rfl rfl (by decide) (by decide) (fun r115 u115 H locs hq115 hP hD hS => ?_)
          replace hP : va_P (dC, dI) vwCl [(n, .inr (8, [.int 800, .int 0, .int 0, .int 0, .int 0, .int 0, .int 0, .ref nwi, .ref nco, .int 0, .ref nqu, .ref nmi, .ref nde, .ref nsa, .ref nsm, .int 0, .ref npa, .int 0, .ref nac, .ref nam, .ref naw, .int 0, .int 1, .int (-6), .int 0, .int 4000, .int (-6), .int (-6), .int 0, .int 0, .ref ncs, .ref nbw, .ref ndc, .ref nmk, .int 800, .int 0, .int 0, .int 0, .int 0, .int 0, .int 0, .ref npo, .int 0, .ref nta, .ref npl, .int 0, .int 0, .ref nmm, .ref ncu, .ref nke, .ref nik, .int 0, .int 0])), (ndc, .inl (cI, 14, .inl (upd (upd (upd (upd (upd (upd (upd (upd (upd (upd (upd (upd (upd (upd (upd (upd (upd (upd (upd (upd (upd (upd (upd (upd (upd (upd (upd (upd (upd (upd (upd (upd (upd (upd (upd (upd (upd (upd (upd (upd (upd (upd (fun _ => 0) 0 0) 1 0) 2 0) 3 0) 4 0) 5 0) 6 0) 7 0) 8 0) 9 0) 10 0) 11 0) 12 0) 13 0) 0 0) 1 0) 2 0) 3 0) 4 0) 5 0) 6 0) 7 0) 8 0) 9 0) 10 0) 11 0) 12 0) 13 0) 0 0) 1 0) 2 0) 3 0) 4 0) 5 0) 6 0) 7 0) 8 0) 9 0) 10 0) 11 0) 12 0) 13 0))), (nmk, .inl (cI, 61, .inl (upd (upd (upd (fun _ => 0) 0 5000000) 0 4) 0 4)))] H := hP
          replace hD : va_D A [(n, .inr (8, [.int 800, .int 0, .int 0, .int 0, .int 0, .int 0, .int 0, .ref nwi, .ref nco, .int 0, .ref nqu, .ref nmi, .ref nde, .ref nsa, .ref nsm, .int 0, .ref npa, .int 0, .ref nac, .ref nam, .ref naw, .int 0, .int 1, .int (-6), .int 0, .int 4000, .int (-6), .int (-6), .int 0, .int 0, .ref ncs, .ref nbw, .ref ndc, .ref nmk, .int 800, .int 0, .int 0, .int 0, .int 0, .int 0, .int 0, .ref npo, .int 0, .ref nta, .ref npl, .int 0, .int 0, .ref nmm, .ref ncu, .ref nke, .ref nik, .int 0, .int 0])), (ndc, .inl (cI, 14, .inl (upd (upd (upd (upd (upd (upd (upd (upd (upd (upd (upd (upd (upd (upd (upd (upd (upd (upd (upd (upd (upd (upd (upd (upd (upd (upd (upd (upd (upd (upd (upd (upd (upd (upd (upd (upd (upd (upd (upd (upd (upd (upd (fun _ => 0) 0 0) 1 0) 2 0) 3 0) 4 0) 5 0) 6 0) 7 0) 8 0) 9 0) 10 0) 11 0) 12 0) 13 0) 0 0) 1 0) 2 0) 3 0) 4 0) 5 0) 6 0) 7 0) 8 0) 9 0) 10 0) 11 0) 12 0) 13 0) 0 0) 1 0) 2 0) 3 0) 4 0) 5 0) 6 0) 7 0) 8 0) 9 0) 10 0) 11 0) 12 0) 13 0))), (nmk, .inl (cI, 61, .inl (upd (upd (upd (fun _ => 0) 0 5000000) 0 4) 0 4)))] := hD
          obtain rfl : r115 = 1 := hq115
          refine lv_i2l (v := 1) hx hb dX8_gust_176 (by decide) ?_
          refine lv_lmul hx hb dX8_gust_177 ?_
          refine lv_topl (fun x116 e116 => ?_)
          obtain rfl : x116 = 2 := e116.trans (by decide)
          refine lv_ladd hx hb dX8_gust_178 ?_
          refine lv_topl (fun x117 e117 => ?_)
          obtain rfl : x117 = 10 := e117.trans (by decide)
          refine lv_lstore (lv' := [(5, .long 10), (7, .long 10), (12, .int 1), (10, .long 2), (9, .int 1), (4, .int 1), (0, .ref n), (1, .int 2), (2, .int 0), (3, .int 0)]) hx hb dX8_gust_179 hl (by decide) rfl (fun ls hl => ?_)
          refine lv_iinc (v := 2) (lv' := [(9, .int 2), (5, .long 10), (7, .long 10), (12, .int 1), (10, .long 2), (4, .int 1), (0, .ref n), (1, .int 2), (2, .int 0), (3, .int 0)]) hx hb dX8_gust_181 hl (k := 4) rfl (by decide) (by decide) rfl (fun ls hl => ?_)
          refine lv_goto (tgt := 95) hx hb dX8_gust_184 (by decide) ?_
          refine lv_iload hx hb dX8_gust_95 (lv_at hl 0 rfl) ?_
          refine lv_iconst (v := 1) hx hb dX8_gust_97 (by decide) ?_
          refine lv_iload hx hb dX8_gust_98 (lv_at hl 5 rfl) ?_
          refine lv_ishl hx hb dX8_gust_100 ?_
          refine lv_topi (fun x118 e118 => ?_)
          obtain rfl : x118 = 2 := e118.trans (by decide)
          refine lv_icmp_ge (tgt := 187) hx hb dX8_gust_101 (by decide) (fun c119 => ?_) (fun c119 => absurd c119 (by decide))
          refine lv_aload_n hx hb dX8_gust_187 rfl (lv_at hl 6 rfl) ?_
          refine lv_iconst (v := 0) hx hb dX8_gust_188 (by decide) ?_
          refine va_put (D := (dC, dI)) (ci := 8) (v := .int 0) (ty := .int) (C := RX8) (T := TX8) (N := 53) hx hb hts hin8 tyX8 tyX8_ok nmX8 hown hK hP hD hS 0 rfl rfl 22 (by decide) hw3 (fun _ h9 => h9) rfl (by decide +kernel) rfl rfl (Nat.le_of_ble_eq_true rfl) dX8_gust_189 (fun H locs hP hD hS => ?_)
          replace hP : va_P (dC, dI) vwCl [(n, .inr (8, [.int 800, .int 0, .int 0, .int 0, .int 0, .int 0, .int 0, .ref nwi, .ref nco, .int 0, .ref nqu, .ref nmi, .ref nde, .ref nsa, .ref nsm, .int 0, .ref npa, .int 0, .ref nac, .ref nam, .ref naw, .int 0, .int 0, .int (-6), .int 0, .int 4000, .int (-6), .int (-6), .int 0, .int 0, .ref ncs, .ref nbw, .ref ndc, .ref nmk, .int 800, .int 0, .int 0, .int 0, .int 0, .int 0, .int 0, .ref npo, .int 0, .ref nta, .ref npl, .int 0, .int 0, .ref nmm, .ref ncu, .ref nke, .ref nik, .int 0, .int 0])), (ndc, .inl (cI, 14, .inl (upd (upd (upd (upd (upd (upd (upd (upd (upd (upd (upd (upd (upd (upd (upd (upd (upd (upd (upd (upd (upd (upd (upd (upd (upd (upd (upd (upd (upd (upd (upd (upd (upd (upd (upd (upd (upd (upd (upd (upd (upd (upd (fun _ => 0) 0 0) 1 0) 2 0) 3 0) 4 0) 5 0) 6 0) 7 0) 8 0) 9 0) 10 0) 11 0) 12 0) 13 0) 0 0) 1 0) 2 0) 3 0) 4 0) 5 0) 6 0) 7 0) 8 0) 9 0) 10 0) 11 0) 12 0) 13 0) 0 0) 1 0) 2 0) 3 0) 4 0) 5 0) 6 0) 7 0) 8 0) 9 0) 10 0) 11 0) 12 0) 13 0))), (nmk, .inl (cI, 61, .inl (upd (upd (upd (fun _ => 0) 0 5000000) 0 4) 0 4)))] H := hP
          replace hD : va_D A [(n, .inr (8, [.int 800, .int 0, .int 0, .int 0, .int 0, .int 0, .int 0, .ref nwi, .ref nco, .int 0, .ref nqu, .ref nmi, .ref nde, .ref nsa, .ref nsm, .int 0, .ref npa, .int 0, .ref nac, .ref nam, .ref naw, .int 0, .int 0, .int (-6), .int 0, .int 4000, .int (-6), .int (-6), .int 0, .int 0, .ref ncs, .ref nbw, .ref ndc, .ref nmk, .int 800, .int 0, .int 0, .int 0, .int 0, .int 0, .int 0, .ref npo, .int 0, .ref nta, .ref npl, .int 0, .int 0, .ref nmm, .ref ncu, .ref nke, .ref nik, .int 0, .int 0])), (ndc, .inl (cI, 14, .inl (upd (upd (upd (upd (upd (upd (upd (upd (upd (upd (upd (upd (upd (upd (upd (upd (upd (upd (upd (upd (upd (upd (upd (upd (upd (upd (upd (upd (upd (upd (upd (upd (upd (upd (upd (upd (upd (upd (upd (upd (upd (upd (fun _ => 0) 0 0) 1 0) 2 0) 3 0) 4 0) 5 0) 6 0) 7 0) 8 0) 9 0) 10 0) 11 0) 12 0) 13 0) 0 0) 1 0) 2 0) 3 0) 4 0) 5 0) 6 0) 7 0) 8 0) 9 0) 10 0) 11 0) 12 0) 13 0) 0 0) 1 0) 2 0) 3 0) 4 0) 5 0) 6 0) 7 0) 8 0) 9 0) 10 0) 11 0) 12 0) 13 0))), (nmk, .inl (cI, 61, .inl (upd (upd (upd (fun _ => 0) 0 5000000) 0 4) 0 4)))] := hD
          refine lv_lload hx hb dX8_gust_192 (lv_at hl 1 rfl) ?_
          refine lv_lload hx hb dX8_gust_194 (lv_at hl 2 rfl) ?_
          refine lv_iload_n hx hb dX8_gust_196 rfl (lv_at hl 9 rfl) ?_
          refine mx_l (wr := [(n, .inr (8, [.int 800, .int 0, .int 0, .int 0, .int 0, .int 0, .int 0, .ref nwi, .ref nco, .int 0, .ref nqu, .ref nmi, .ref nde, .ref nsa, .ref nsm, .int 0, .ref npa, .int 0, .ref nac, .ref nam, .ref naw, .int 0, .int 0, .int (-6), .int 0, .int 4000, .int (-6), .int (-6), .int 0, .int 0, .ref ncs, .ref nbw, .ref ndc, .ref nmk, .int 800, .int 0, .int 0, .int 0, .int 0, .int 0, .int 0, .ref npo, .int 0, .ref nta, .ref npl, .int 0, .int 0, .ref nmm, .ref ncu, .ref nke, .ref nik, .int 0, .int 0])), (ndc, .inl (cI, 14, .inl (upd (upd (upd (upd (upd (upd (upd (upd (upd (upd (upd (upd (upd (upd (upd (upd (upd (upd (upd (upd (upd (upd (upd (upd (upd (upd (upd (upd (upd (upd (upd (upd (upd (upd (upd (upd (upd (upd (upd (upd (upd (upd (fun _ => 0) 0 0) 1 0) 2 0) 3 0) 4 0) 5 0) 6 0) 7 0) 8 0) 9 0) 10 0) 11 0) 12 0) 13 0) 0 0) 1 0) 2 0) 3 0) 4 0) 5 0) 6 0) 7 0) 8 0) 9 0) 10 0) 11 0) 12 0) 13 0) 0 0) 1 0) 2 0) 3 0) 4 0) 5 0) 6 0) 7 0) 8 0) 9 0) 10 0) 11 0) 12 0) 13 0))), (nmk, .inl (cI, 61, .inl (upd (upd (upd (fun _ => 0) 0 5000000) 0 4) 0 4)))]) (va_runS (As := [.long 10, .long 10, .int 0]) (rest := []) ⟨hx, hb, hml, hown, hts⟩ (c_X8_lowest_10_0 l dC dI cI cZ cK tS aK aV  H.size) (va_cwS 3 hts (gw_s (fun _ h9 => List.mem_cons_of_mem _ h9) wm_528 wm_529 wm_385 wm_530) rfl rfl rfl (by decide +kernel) ⟨Nat.le_of_ble_eq_true rfl, Nat.le_of_ble_eq_true rfl⟩) (mx_preS hKx hP hD hS hA [] (by decide) rfl) rfl rfl hl.1 rfl (lv_room (Nat.le_of_ble_eq_true rfl)) dX8_gust_197 ⟨Nat.le_of_ble_eq_true rfl, Nat.le_of_ble_eq_true rfl⟩) hP hD hS hA [] [0, 1, 2] rfl rfl (by decide) (by decide) (fun r120 u120 H locs hq120 hP hD hS => ?_)
          replace hP : va_P (dC, dI) vwCl [(n, .inr (8, [.int 800, .int 0, .int 0, .int 0, .int 0, .int 0, .int 0, .ref nwi, .ref nco, .int 0, .ref nqu, .ref nmi, .ref nde, .ref nsa, .ref nsm, .int 0, .ref npa, .int 0, .ref nac, .ref nam, .ref naw, .int 0, .int 0, .int (-6), .int 0, .int 4000, .int (-6), .int (-6), .int 0, .int 0, .ref ncs, .ref nbw, .ref ndc, .ref nmk, .int 800, .int 0, .int 0, .int 0, .int 0, .int 0, .int 0, .ref npo, .int 0, .ref nta, .ref npl, .int 0, .int 0, .ref nmm, .ref ncu, .ref nke, .ref nik, .int 0, .int 0])), (ndc, .inl (cI, 14, .inl (upd (upd (upd (upd (upd (upd (upd (upd (upd (upd (upd (upd (upd (upd (upd (upd (upd (upd (upd (upd (upd (upd (upd (upd (upd (upd (upd (upd (upd (upd (upd (upd (upd (upd (upd (upd (upd (upd (upd (upd (upd (upd (fun _ => 0) 0 0) 1 0) 2 0) 3 0) 4 0) 5 0) 6 0) 7 0) 8 0) 9 0) 10 0) 11 0) 12 0) 13 0) 0 0) 1 0) 2 0) 3 0) 4 0) 5 0) 6 0) 7 0) 8 0) 9 0) 10 0) 11 0) 12 0) 13 0) 0 0) 1 0) 2 0) 3 0) 4 0) 5 0) 6 0) 7 0) 8 0) 9 0) 10 0) 11 0) 12 0) 13 0))), (nmk, .inl (cI, 61, .inl (upd (upd (upd (fun _ => 0) 0 5000000) 0 4) 0 4)))] H := hP
          replace hD : va_D A [(n, .inr (8, [.int 800, .int 0, .int 0, .int 0, .int 0, .int 0, .int 0, .ref nwi, .ref nco, .int 0, .ref nqu, .ref nmi, .ref nde, .ref nsa, .ref nsm, .int 0, .ref npa, .int 0, .ref nac, .ref nam, .ref naw, .int 0, .int 0, .int (-6), .int 0, .int 4000, .int (-6), .int (-6), .int 0, .int 0, .ref ncs, .ref nbw, .ref ndc, .ref nmk, .int 800, .int 0, .int 0, .int 0, .int 0, .int 0, .int 0, .ref npo, .int 0, .ref nta, .ref npl, .int 0, .int 0, .ref nmm, .ref ncu, .ref nke, .ref nik, .int 0, .int 0])), (ndc, .inl (cI, 14, .inl (upd (upd (upd (upd (upd (upd (upd (upd (upd (upd (upd (upd (upd (upd (upd (upd (upd (upd (upd (upd (upd (upd (upd (upd (upd (upd (upd (upd (upd (upd (upd (upd (upd (upd (upd (upd (upd (upd (upd (upd (upd (upd (fun _ => 0) 0 0) 1 0) 2 0) 3 0) 4 0) 5 0) 6 0) 7 0) 8 0) 9 0) 10 0) 11 0) 12 0) 13 0) 0 0) 1 0) 2 0) 3 0) 4 0) 5 0) 6 0) 7 0) 8 0) 9 0) 10 0) 11 0) 12 0) 13 0) 0 0) 1 0) 2 0) 3 0) 4 0) 5 0) 6 0) 7 0) 8 0) 9 0) 10 0) 11 0) 12 0) 13 0))), (nmk, .inl (cI, 61, .inl (upd (upd (upd (fun _ => 0) 0 5000000) 0 4) 0 4)))] := hD
          obtain rfl : r120 = 1 := hq120
          have hP9 := mx_subP (wc := []) hP [] rfl
          have hD9 := hD.sub (ws' := []) [] (by decide) rfl
          exact W.lret (v := 1) hx hb hr (fun t ht hW => ⟨⟨1, (), rfl, rfl, by rw [ht]; exact hP9, hD9⟩, hS.F ht⟩) hS.2.2 dX8_gust_200
        · have z9 : (3 : Int32).toInt = 3 := rfl
          refine lv_aload_n hx hb dX8_gust_36 rfl (lv_at hl 0 rfl) ?_
          refine mx_i (wr := [(ndc, .inl (cI, 14, .inl (fun _ => 0))), (nmk, .inl (cI, 61, .inl (fun _ => 0)))]) (va_runV (As := []) (rest := []) ⟨hx, hb, hml, hown, hts⟩ (c_X8_faultIn l dC dI cI cZ cK tS aK aV n nwi nco nqu nmi nde nsa nsm npa nac nam naw ncs nbw ndc nmk npo nta npl nmm ncu nke nik 800 0 0 0 0 0 0 0 0 0 0 0 0 0 0 0 0 0 0 0 0 0 0 0 0 0 0 0 0 0 H.size) (cwV 0 hts (gw_v (fun _ h9 => List.mem_cons_of_mem _ h9) wm_453 wm_454 wm_455 wm_385 wm_456) rfl rfl rfl (by decide +kernel) ⟨Nat.le_of_ble_eq_true rfl, Nat.le_of_ble_eq_true rfl⟩) (mx_preV (C := RX8) (T := TX8) (N := 53) (ci := 8) hKx hP hD hS hA [0] (by decide) rfl rfl rfl) rfl rfl hl.1 rfl (lv_room (Nat.le_of_ble_eq_true rfl)) dX8_gust_37 ⟨Nat.le_of_ble_eq_true rfl, Nat.le_of_ble_eq_true rfl⟩) hP hD hS hA [0] [1, 2] rfl rfl (by decide) (by decide) (fun r121 u121 H locs hq121 hP hD hS => ?_)
          replace hP : va_P (dC, dI) vwCl [(ndc, .inl (cI, 14, .inl (fun _ => 0))), (nmk, .inl (cI, 61, .inl (fun _ => 0))), (n, .inr (8, [.int 800, .int 0, .int 0, .int 0, .int 0, .int 0, .int 0, .ref nwi, .ref nco, .int 0, .ref nqu, .ref nmi, .ref nde, .ref nsa, .ref nsm, .int 0, .ref npa, .int 0, .ref nac, .ref nam, .ref naw, .int 0, .int 0, .int 0, .int 0, .int 0, .int 0, .int 0, .int 0, .int 0, .ref ncs, .ref nbw, .ref ndc, .ref nmk, .int 0, .int 0, .int 0, .int 0, .int 0, .int 0, .int 0, .ref npo, .int 0, .ref nta, .ref npl, .int 0, .int 0, .ref nmm, .ref ncu, .ref nke, .ref nik, .int 0, .int 0]))] H := hP
          replace hD : va_D A [(ndc, .inl (cI, 14, .inl (fun _ => 0))), (nmk, .inl (cI, 61, .inl (fun _ => 0))), (n, .inr (8, [.int 800, .int 0, .int 0, .int 0, .int 0, .int 0, .int 0, .ref nwi, .ref nco, .int 0, .ref nqu, .ref nmi, .ref nde, .ref nsa, .ref nsm, .int 0, .ref npa, .int 0, .ref nac, .ref nam, .ref naw, .int 0, .int 0, .int 0, .int 0, .int 0, .int 0, .int 0, .int 0, .int 0, .ref ncs, .ref nbw, .ref ndc, .ref nmk, .int 0, .int 0, .int 0, .int 0, .int 0, .int 0, .int 0, .ref npo, .int 0, .ref nta, .ref npl, .int 0, .int 0, .ref nmm, .ref ncu, .ref nke, .ref nik, .int 0, .int 0]))] := hD
          obtain rfl : r121 = (-6) := hq121
          refine lv_if_lt (tgt := 47) hx hb dX8_gust_40 (by decide) (fun c122 => ?_) (fun c122 => absurd c122 (by decide))
          refine lv_aload_n hx hb dX8_gust_47 rfl (lv_at hl 0 rfl) ?_
          refine mx_v (wr := [(ndc, .inl (cI, 14, .inl (fun _ => 0))), (nmk, .inl (cI, 61, .inl (fun _ => 0)))]) (va_runV (As := []) (rest := []) ⟨hx, hb, hml, hown, hts⟩ (c_X8_keepNow l dC dI cI cZ cK tS aK aV n nwi nco nqu nmi nde nsa nsm npa nac nam naw ncs nbw ndc nmk npo nta npl nmm ncu nke nik 800 0 0 0 0 0 0 0 0 0 0 0 0 0 0 0 0 0 0 0 0 0 0 0 0 0 0 0 0 0 0 H.size) (cwV 0 hts (gw_v (fun _ h9 => List.mem_cons_of_mem _ h9) wm_457 wm_458 wm_459 wm_385 wm_460) rfl rfl rfl (by decide +kernel) ⟨Nat.le_of_ble_eq_true rfl, Nat.le_of_ble_eq_true rfl⟩) (mx_preV (C := RX8) (T := TX8) (N := 53) (ci := 8) hKx hP hD hS hA [2] (by decide) rfl rfl rfl) rfl rfl hl.1 rfl (lv_room (Nat.le_of_ble_eq_true rfl)) dX8_gust_48 ⟨Nat.le_of_ble_eq_true rfl, Nat.le_of_ble_eq_true rfl⟩) hP hD hS hA [2] [0, 1] rfl rfl (by decide) (by decide) (fun u123 H locs hq123 hP hD hS => ?_)
          replace hP : va_P (dC, dI) vwCl [(ndc, .inl (cI, 14, .inl (fun _ => 0))), (nmk, .inl (cI, 61, .inl (fun _ => 0))), (n, .inr (8, [.int 800, .int 0, .int 0, .int 0, .int 0, .int 0, .int 0, .ref nwi, .ref nco, .int 0, .ref nqu, .ref nmi, .ref nde, .ref nsa, .ref nsm, .int 0, .ref npa, .int 0, .ref nac, .ref nam, .ref naw, .int 0, .int 0, .int (-6), .int 0, .int 4000, .int 0, .int 0, .int 0, .int 0, .ref ncs, .ref nbw, .ref ndc, .ref nmk, .int 800, .int 0, .int 0, .int 0, .int 0, .int 0, .int 0, .ref npo, .int 0, .ref nta, .ref npl, .int 0, .int 0, .ref nmm, .ref ncu, .ref nke, .ref nik, .int 0, .int 0]))] H := hP
          replace hD : va_D A [(ndc, .inl (cI, 14, .inl (fun _ => 0))), (nmk, .inl (cI, 61, .inl (fun _ => 0))), (n, .inr (8, [.int 800, .int 0, .int 0, .int 0, .int 0, .int 0, .int 0, .ref nwi, .ref nco, .int 0, .ref nqu, .ref nmi, .ref nde, .ref nsa, .ref nsm, .int 0, .ref npa, .int 0, .ref nac, .ref nam, .ref naw, .int 0, .int 0, .int (-6), .int 0, .int 4000, .int 0, .int 0, .int 0, .int 0, .ref ncs, .ref nbw, .ref ndc, .ref nmk, .int 800, .int 0, .int 0, .int 0, .int 0, .int 0, .int 0, .ref npo, .int 0, .ref nta, .ref npl, .int 0, .int 0, .ref nmm, .ref ncu, .ref nke, .ref nik, .int 0, .int 0]))] := hD
          refine lv_aload_n hx hb dX8_gust_51 rfl (lv_at hl 0 rfl) ?_
          refine mx_i (wr := []) (va_runV (As := []) (rest := []) ⟨hx, hb, hml, hown, hts⟩ (c_X8_canWithoutEnd l dC dI cI cZ cK tS aK aV n nwi nco nqu nmi nde nsa nsm npa nac nam naw ncs nbw ndc nmk npo nta npl nmm ncu nke nik 800 0 0 0 0 0 0 0 0 0 0 (-6) 0 4000 0 0 0 0 800 0 0 0 0 0 0 0 0 0 0 0 (fun _ => 0) (fun _ => 0) H.size) (cwV 0 hts (gw_v (fun _ h9 => List.mem_cons_of_mem _ h9) wm_519 wm_520 wm_521 wm_385 wm_522) rfl rfl rfl (by decide +kernel) ⟨Nat.le_of_ble_eq_true rfl, Nat.le_of_ble_eq_true rfl⟩) (mx_preV (C := RX8) (T := TX8) (N := 53) (ci := 8) hKx hP hD hS hA [2, 0, 1] (by decide) rfl rfl rfl) rfl rfl hl.1 rfl (lv_room (Nat.le_of_ble_eq_true rfl)) dX8_gust_52 ⟨Nat.le_of_ble_eq_true rfl, Nat.le_of_ble_eq_true rfl⟩) hP hD hS hA [2, 0, 1] [] rfl rfl (by decide) (by decide) (fun r124 u124 H locs hq124 hP hD hS => ?_)
          replace hP : va_P (dC, dI) vwCl [(n, .inr (8, [.int 800, .int 0, .int 0, .int 0, .int 0, .int 0, .int 0, .ref nwi, .ref nco, .int 0, .ref nqu, .ref nmi, .ref nde, .ref nsa, .ref nsm, .int 0, .ref npa, .int 0, .ref nac, .ref nam, .ref naw, .int 0, .int 0, .int (-6), .int 0, .int 4000, .int (-6), .int (-6), .int 0, .int 0, .ref ncs, .ref nbw, .ref ndc, .ref nmk, .int 800, .int 0, .int 0, .int 0, .int 0, .int 0, .int 0, .ref npo, .int 0, .ref nta, .ref npl, .int 0, .int 0, .ref nmm, .ref ncu, .ref nke, .ref nik, .int 0, .int 0])), (ndc, .inl (cI, 14, .inl (upd (upd (upd (upd (upd (upd (upd (upd (upd (upd (upd (upd (upd (upd (fun _ => 0) 0 0) 1 0) 2 0) 3 0) 4 0) 5 0) 6 0) 7 0) 8 0) 9 0) 10 0) 11 0) 12 0) 13 0))), (nmk, .inl (cI, 61, .inl (upd (fun _ => 0) 0 5000000)))] H := hP
          replace hD : va_D A [(n, .inr (8, [.int 800, .int 0, .int 0, .int 0, .int 0, .int 0, .int 0, .ref nwi, .ref nco, .int 0, .ref nqu, .ref nmi, .ref nde, .ref nsa, .ref nsm, .int 0, .ref npa, .int 0, .ref nac, .ref nam, .ref naw, .int 0, .int 0, .int (-6), .int 0, .int 4000, .int (-6), .int (-6), .int 0, .int 0, .ref ncs, .ref nbw, .ref ndc, .ref nmk, .int 800, .int 0, .int 0, .int 0, .int 0, .int 0, .int 0, .ref npo, .int 0, .ref nta, .ref npl, .int 0, .int 0, .ref nmm, .ref ncu, .ref nke, .ref nik, .int 0, .int 0])), (ndc, .inl (cI, 14, .inl (upd (upd (upd (upd (upd (upd (upd (upd (upd (upd (upd (upd (upd (upd (fun _ => 0) 0 0) 1 0) 2 0) 3 0) 4 0) 5 0) 6 0) 7 0) 8 0) 9 0) 10 0) 11 0) 12 0) 13 0))), (nmk, .inl (cI, 61, .inl (upd (fun _ => 0) 0 5000000)))] := hD
          obtain rfl : r124 = 1 := hq124
          refine lv_if_ne (tgt := 62) hx hb dX8_gust_55 (by decide) (fun c125 => ?_) (fun c125 => absurd c125 (by decide))
          refine lv_aload_n hx hb dX8_gust_62 rfl (lv_at hl 0 rfl) ?_
          refine va_get (D := (dC, dI)) (ci := 8) (v := .int 0) (C := RX8) (T := TX8) (N := 53) hx hb hts hin8 hown hK hP 0 rfl rfl 39 (by decide) hw1 (fun _ h9 => h9) rfl dX8_gust_63 ?_
          refine lv_aload_n hx hb dX8_gust_66 rfl (lv_at hl 0 rfl) ?_
          refine va_get (D := (dC, dI)) (ci := 8) (v := .int 0) (C := RX8) (T := TX8) (N := 53) hx hb hts hin8 hown hK hP 0 rfl rfl 4 (by decide) hw2 (fun _ h9 => h9) rfl dX8_gust_67 ?_
          refine lv_isub hx hb dX8_gust_70 ?_
          refine lv_topi (fun x126 e126 => ?_)
          obtain rfl : x126 = 0 := e126.trans (by decide)
          refine lv_iconst (v := 1) hx hb dX8_gust_71 (by decide) ?_
          refine lv_iadd hx hb dX8_gust_72 ?_
          refine lv_topi (fun x127 e127 => ?_)
          obtain rfl : x127 = 1 := e127.trans (by decide)
          refine lv_istore (lv' := [(4, .int 1), (0, .ref n), (1, .int 3), (2, .int 0), (3, .int 0)]) hx hb dX8_gust_73 hl (by decide) rfl (fun ls hl => ?_)
          refine lv_iload hx hb dX8_gust_75 (lv_at hl 0 rfl) ?_
          refine lv_bipush (v := 8) hx hb dX8_gust_77 (by decide) ?_
          refine lv_icmp_le (tgt := 86) hx hb dX8_gust_79 (by decide) (fun c128 => ?_) (fun c128 => absurd c128 (by decide))
          refine lv_lconst (v := 0) hx hb dX8_gust_86 (by decide) ?_
          refine lv_lstore (lv' := [(5, .long 0), (4, .int 1), (0, .ref n), (1, .int 3), (2, .int 0), (3, .int 0)]) hx hb dX8_gust_87 hl (by decide) rfl (fun ls hl => ?_)
          refine lv_lconst (v := 0) hx hb dX8_gust_89 (by decide) ?_
          refine lv_lstore (lv' := [(7, .long 0), (5, .long 0), (4, .int 1), (0, .ref n), (1, .int 3), (2, .int 0), (3, .int 0)]) hx hb dX8_gust_90 hl (by decide) rfl (fun ls hl => ?_)
          refine lv_iconst (v := 0) hx hb dX8_gust_92 (by decide) ?_
          refine lv_istore (lv' := [(9, .int 0), (7, .long 0), (5, .long 0), (4, .int 1), (0, .ref n), (1, .int 3), (2, .int 0), (3, .int 0)]) hx hb dX8_gust_93 hl (by decide) rfl (fun ls hl => ?_)
          refine lv_iload hx hb dX8_gust_95 (lv_at hl 0 rfl) ?_
          refine lv_iconst (v := 1) hx hb dX8_gust_97 (by decide) ?_
          refine lv_iload hx hb dX8_gust_98 (lv_at hl 3 rfl) ?_
          refine lv_ishl hx hb dX8_gust_100 ?_
          refine lv_topi (fun x129 e129 => ?_)
          obtain rfl : x129 = 2 := e129.trans (by decide)
          refine lv_icmp_ge (tgt := 187) hx hb dX8_gust_101 (by decide) (fun c130 => absurd c130 (by decide)) (fun c130 => ?_)
          refine lv_lconst (v := 1) hx hb dX8_gust_104 (by decide) ?_
          refine lv_lstore (lv' := [(10, .long 1), (9, .int 0), (7, .long 0), (5, .long 0), (4, .int 1), (0, .ref n), (1, .int 3), (2, .int 0), (3, .int 0)]) hx hb dX8_gust_105 hl (by decide) rfl (fun ls hl => ?_)
          refine lv_iconst (v := 0) hx hb dX8_gust_107 (by decide) ?_
          refine lv_istore (lv' := [(12, .int 0), (10, .long 1), (9, .int 0), (7, .long 0), (5, .long 0), (4, .int 1), (0, .ref n), (1, .int 3), (2, .int 0), (3, .int 0)]) hx hb dX8_gust_108 hl (by decide) rfl (fun ls hl => ?_)
          refine lv_iload hx hb dX8_gust_110 (lv_at hl 0 rfl) ?_
          refine lv_iload hx hb dX8_gust_112 (lv_at hl 5 rfl) ?_
          refine lv_icmp_ge (tgt := 149) hx hb dX8_gust_114 (by decide) (fun c131 => absurd c131 (by decide)) (fun c131 => ?_)
          refine lv_lload hx hb dX8_gust_117 (lv_at hl 1 rfl) ?_
          refine lv_iload hx hb dX8_gust_119 (lv_at hl 2 rfl) ?_
          refine lv_iload hx hb dX8_gust_121 (lv_at hl 0 rfl) ?_
          refine lv_ishr hx hb dX8_gust_123 ?_
          refine lv_topi (fun x132 e132 => ?_)
          obtain rfl : x132 = 0 := e132.trans (by decide)
          refine lv_iconst (v := 1) hx hb dX8_gust_124 (by decide) ?_
          refine lv_iand hx hb dX8_gust_125 ?_
          refine lv_topi (fun x133 e133 => ?_)
          obtain rfl : x133 = 0 := e133.trans (by decide)
          refine lv_iconst (v := 1) hx hb dX8_gust_126 (by decide) ?_
          refine lv_icmp_ne (tgt := 135) hx hb dX8_gust_127 (by decide) (fun c134 => ?_) (fun c134 => absurd c134 (by decide))
          refine lv_bipush (v := 10) hx hb dX8_gust_135 (by decide) ?_
          refine lv_iload_n hx hb dX8_gust_137 rfl (lv_at hl 7 rfl) ?_
          refine lv_isub hx hb dX8_gust_138 ?_
          refine lv_topi (fun x135 e135 => ?_)
          obtain rfl : x135 = 7 := e135.trans (by decide)
          refine lv_i2l (v := 7) hx hb dX8_gust_139 (by decide) ?_
          refine lv_lmul hx hb dX8_gust_140 ?_
          refine lv_topl (fun x136 e136 => ?_)
          obtain rfl : x136 = 7 := e136.trans (by decide)
          refine lv_lstore (lv' := [(10, .long 7), (12, .int 0), (9, .int 0), (7, .long 0), (5, .long 0), (4, .int 1), (0, .ref n), (1, .int 3), (2, .int 0), (3, .int 0)]) hx hb dX8_gust_141 hl (by decide) rfl (fun ls hl => ?_)
          refine lv_iinc (v := 1) (lv' := [(12, .int 1), (10, .long 7), (9, .int 0), (7, .long 0), (5, .long 0), (4, .int 1), (0, .ref n), (1, .int 3), (2, .int 0), (3, .int 0)]) hx hb dX8_gust_143 hl (k := 1) rfl (by decide) (by decide) rfl (fun ls hl => ?_)
          refine lv_goto (tgt := 110) hx hb dX8_gust_146 (by decide) ?_
          refine lv_iload hx hb dX8_gust_110 (lv_at hl 0 rfl) ?_
          refine lv_iload hx hb dX8_gust_112 (lv_at hl 5 rfl) ?_
          refine lv_icmp_ge (tgt := 149) hx hb dX8_gust_114 (by decide) (fun c137 => ?_) (fun c137 => absurd c137 (by decide))
          refine lv_aload_n hx hb dX8_gust_149 rfl (lv_at hl 6 rfl) ?_
          refine lv_iload hx hb dX8_gust_150 (lv_at hl 2 rfl) ?_
          refine lv_aload_n hx hb dX8_gust_152 rfl (lv_at hl 6 rfl) ?_
          refine va_get (D := (dC, dI)) (ci := 8) (v := .int 0) (C := RX8) (T := TX8) (N := 53) hx hb hts hin8 hown hK hP 0 rfl rfl 4 (by decide) hw2 (fun _ h9 => h9) rfl dX8_gust_153 ?_
          refine lv_ishl hx hb dX8_gust_156 ?_
          refine lv_topi (fun x138 e138 => ?_)
          obtain rfl : x138 = 0 := e138.trans (by decide)
          refine va_put (D := (dC, dI)) (ci := 8) (v := .int 0) (ty := .int) (C := RX8) (T := TX8) (N := 53) hx hb hts hin8 tyX8 tyX8_ok nmX8 hown hK hP hD hS 0 rfl rfl 22 (by decide) hw3 (fun _ h9 => h9) rfl (by decide +kernel) rfl rfl (Nat.le_of_ble_eq_true rfl) dX8_gust_157 (fun H locs hP hD hS => ?_)
          replace hP : va_P (dC, dI) vwCl [(n, .inr (8, [.int 800, .int 0, .int 0, .int 0, .int 0, .int 0, .int 0, .ref nwi, .ref nco, .int 0, .ref nqu, .ref nmi, .ref nde, .ref nsa, .ref nsm, .int 0, .ref npa, .int 0, .ref nac, .ref nam, .ref naw, .int 0, .int 0, .int (-6), .int 0, .int 4000, .int (-6), .int (-6), .int 0, .int 0, .ref ncs, .ref nbw, .ref ndc, .ref nmk, .int 800, .int 0, .int 0, .int 0, .int 0, .int 0, .int 0, .ref npo, .int 0, .ref nta, .ref npl, .int 0, .int 0, .ref nmm, .ref ncu, .ref nke, .ref nik, .int 0, .int 0])), (ndc, .inl (cI, 14, .inl (upd (upd (upd (upd (upd (upd (upd (upd (upd (upd (upd (upd (upd (upd (fun _ => 0) 0 0) 1 0) 2 0) 3 0) 4 0) 5 0) 6 0) 7 0) 8 0) 9 0) 10 0) 11 0) 12 0) 13 0))), (nmk, .inl (cI, 61, .inl (upd (fun _ => 0) 0 5000000)))] H := hP
          replace hD : va_D A [(n, .inr (8, [.int 800, .int 0, .int 0, .int 0, .int 0, .int 0, .int 0, .ref nwi, .ref nco, .int 0, .ref nqu, .ref nmi, .ref nde, .ref nsa, .ref nsm, .int 0, .ref npa, .int 0, .ref nac, .ref nam, .ref naw, .int 0, .int 0, .int (-6), .int 0, .int 4000, .int (-6), .int (-6), .int 0, .int 0, .ref ncs, .ref nbw, .ref ndc, .ref nmk, .int 800, .int 0, .int 0, .int 0, .int 0, .int 0, .int 0, .ref npo, .int 0, .ref nta, .ref npl, .int 0, .int 0, .ref nmm, .ref ncu, .ref nke, .ref nik, .int 0, .int 0])), (ndc, .inl (cI, 14, .inl (upd (upd (upd (upd (upd (upd (upd (upd (upd (upd (upd (upd (upd (upd (fun _ => 0) 0 0) 1 0) 2 0) 3 0) 4 0) 5 0) 6 0) 7 0) 8 0) 9 0) 10 0) 11 0) 12 0) 13 0))), (nmk, .inl (cI, 61, .inl (upd (fun _ => 0) 0 5000000)))] := hD
          refine lv_lload hx hb dX8_gust_160 (lv_at hl 3 rfl) ?_
          refine lv_lload hx hb dX8_gust_162 (lv_at hl 1 rfl) ?_
          refine lv_ladd hx hb dX8_gust_164 ?_
          refine lv_topl (fun x139 e139 => ?_)
          obtain rfl : x139 = 7 := e139.trans (by decide)
          refine lv_lstore (lv' := [(7, .long 7), (12, .int 1), (10, .long 7), (9, .int 0), (5, .long 0), (4, .int 1), (0, .ref n), (1, .int 3), (2, .int 0), (3, .int 0)]) hx hb dX8_gust_165 hl (by decide) rfl (fun ls hl => ?_)
          refine lv_lload hx hb dX8_gust_167 (lv_at hl 4 rfl) ?_
          refine lv_lload hx hb dX8_gust_169 (lv_at hl 2 rfl) ?_
          refine lv_aload_n hx hb dX8_gust_171 rfl (lv_at hl 6 rfl) ?_
          refine lv_iload_n hx hb dX8_gust_172 rfl (lv_at hl 8 rfl) ?_
          refine mx_i (wr := []) (va_runV (As := [.int 0]) (rest := [.long 7, .long 0]) ⟨hx, hb, hml, hown, hts⟩ (c_X8_worthOfGusts_0 l dC dI cI cZ cK tS aK aV n nwi nco nqu nmi nde nsa nsm npa nac nam naw ncs nbw ndc nmk npo nta npl nmm ncu nke nik 0 0 0 0 0 0 0 0 0 0 (-6) 0 4000 (-6) (-6) 0 0 800 0 0 0 0 0 0 0 0 0 0 0 (upd (upd (upd (upd (upd (upd (upd (upd (upd (upd (upd (upd (upd (upd (fun _ => 0) 0 0) 1 0) 2 0) 3 0) 4 0) 5 0) 6 0) 7 0) 8 0) 9 0) 10 0) 11 0) 12 0) 13 0) (upd (fun _ => 0) 0 5000000) H.size) (cwV 1 hts (gw_v (fun _ h9 => List.mem_cons_of_mem _ h9) wm_524 wm_525 wm_526 wm_385 wm_527) rfl rfl rfl (by decide +kernel) ⟨Nat.le_of_ble_eq_true rfl, Nat.le_of_ble_eq_true rfl⟩) (mx_preV (C := RX8) (T := TX8) (N := 53) (ci := 8) hKx hP hD hS hA [0, 1, 2] (by decide) rfl rfl rfl) rfl rfl hl.1 rfl (lv_room (Nat.le_of_ble_eq_true rfl)) dX8_gust_173 ⟨Nat.le_of_ble_eq_true rfl, Nat.le_of_ble_eq_true rfl⟩) hP hD hS hA [0, 1, 2] [] rfl rfl (by decide) (by decide) (fun r140 u140 H locs hq140 hP hD hS => ?_)
          replace hP : va_P (dC, dI) vwCl [(n, .inr (8, [.int 800, .int 0, .int 0, .int 0, .int 0, .int 0, .int 0, .ref nwi, .ref nco, .int 0, .ref nqu, .ref nmi, .ref nde, .ref nsa, .ref nsm, .int 0, .ref npa, .int 0, .ref nac, .ref nam, .ref naw, .int 0, .int 0, .int (-6), .int 0, .int 4000, .int (-6), .int (-6), .int 0, .int 0, .ref ncs, .ref nbw, .ref ndc, .ref nmk, .int 800, .int 0, .int 0, .int 0, .int 0, .int 0, .int 0, .ref npo, .int 0, .ref nta, .ref npl, .int 0, .int 0, .ref nmm, .ref ncu, .ref nke, .ref nik, .int 0, .int 0])), (ndc, .inl (cI, 14, .inl (upd (upd (upd (upd (upd (upd (upd (upd (upd (upd (upd (upd (upd (upd (upd (upd (upd (upd (upd (upd (upd (upd (upd (upd (upd (upd (upd (upd (fun _ => 0) 0 0) 1 0) 2 0) 3 0) 4 0) 5 0) 6 0) 7 0) 8 0) 9 0) 10 0) 11 0) 12 0) 13 0) 0 0) 1 0) 2 0) 3 0) 4 0) 5 0) 6 0) 7 0) 8 0) 9 0) 10 0) 11 0) 12 0) 13 0))), (nmk, .inl (cI, 61, .inl (upd (upd (fun _ => 0) 0 5000000) 0 4)))] H := hP
          replace hD : va_D A [(n, .inr (8, [.int 800, .int 0, .int 0, .int 0, .int 0, .int 0, .int 0, .ref nwi, .ref nco, .int 0, .ref nqu, .ref nmi, .ref nde, .ref nsa, .ref nsm, .int 0, .ref npa, .int 0, .ref nac, .ref nam, .ref naw, .int 0, .int 0, .int (-6), .int 0, .int 4000, .int (-6), .int (-6), .int 0, .int 0, .ref ncs, .ref nbw, .ref ndc, .ref nmk, .int 800, .int 0, .int 0, .int 0, .int 0, .int 0, .int 0, .ref npo, .int 0, .ref nta, .ref npl, .int 0, .int 0, .ref nmm, .ref ncu, .ref nke, .ref nik, .int 0, .int 0])), (ndc, .inl (cI, 14, .inl (upd (upd (upd (upd (upd (upd (upd (upd (upd (upd (upd (upd (upd (upd (upd (upd (upd (upd (upd (upd (upd (upd (upd (upd (upd (upd (upd (upd (fun _ => 0) 0 0) 1 0) 2 0) 3 0) 4 0) 5 0) 6 0) 7 0) 8 0) 9 0) 10 0) 11 0) 12 0) 13 0) 0 0) 1 0) 2 0) 3 0) 4 0) 5 0) 6 0) 7 0) 8 0) 9 0) 10 0) 11 0) 12 0) 13 0))), (nmk, .inl (cI, 61, .inl (upd (upd (fun _ => 0) 0 5000000) 0 4)))] := hD
          obtain rfl : r140 = 1 := hq140
          refine lv_i2l (v := 1) hx hb dX8_gust_176 (by decide) ?_
          refine lv_lmul hx hb dX8_gust_177 ?_
          refine lv_topl (fun x141 e141 => ?_)
          obtain rfl : x141 = 7 := e141.trans (by decide)
          refine lv_ladd hx hb dX8_gust_178 ?_
          refine lv_topl (fun x142 e142 => ?_)
          obtain rfl : x142 = 7 := e142.trans (by decide)
          refine lv_lstore (lv' := [(5, .long 7), (7, .long 7), (12, .int 1), (10, .long 7), (9, .int 0), (4, .int 1), (0, .ref n), (1, .int 3), (2, .int 0), (3, .int 0)]) hx hb dX8_gust_179 hl (by decide) rfl (fun ls hl => ?_)
          refine lv_iinc (v := 1) (lv' := [(9, .int 1), (5, .long 7), (7, .long 7), (12, .int 1), (10, .long 7), (4, .int 1), (0, .ref n), (1, .int 3), (2, .int 0), (3, .int 0)]) hx hb dX8_gust_181 hl (k := 4) rfl (by decide) (by decide) rfl (fun ls hl => ?_)
          refine lv_goto (tgt := 95) hx hb dX8_gust_184 (by decide) ?_
          refine lv_iload hx hb dX8_gust_95 (lv_at hl 0 rfl) ?_
          refine lv_iconst (v := 1) hx hb dX8_gust_97 (by decide) ?_
          refine lv_iload hx hb dX8_gust_98 (lv_at hl 5 rfl) ?_
          refine lv_ishl hx hb dX8_gust_100 ?_
          refine lv_topi (fun x143 e143 => ?_)
          obtain rfl : x143 = 2 := e143.trans (by decide)
          refine lv_icmp_ge (tgt := 187) hx hb dX8_gust_101 (by decide) (fun c144 => absurd c144 (by decide)) (fun c144 => ?_)
          refine lv_lconst (v := 1) hx hb dX8_gust_104 (by decide) ?_
          refine lv_lstore (lv' := [(10, .long 1), (9, .int 1), (5, .long 7), (7, .long 7), (12, .int 1), (4, .int 1), (0, .ref n), (1, .int 3), (2, .int 0), (3, .int 0)]) hx hb dX8_gust_105 hl (by decide) rfl (fun ls hl => ?_)
          refine lv_iconst (v := 0) hx hb dX8_gust_107 (by decide) ?_
          refine lv_istore (lv' := [(12, .int 0), (10, .long 1), (9, .int 1), (5, .long 7), (7, .long 7), (4, .int 1), (0, .ref n), (1, .int 3), (2, .int 0), (3, .int 0)]) hx hb dX8_gust_108 hl (by decide) rfl (fun ls hl => ?_)
          refine lv_iload hx hb dX8_gust_110 (lv_at hl 0 rfl) ?_
          refine lv_iload hx hb dX8_gust_112 (lv_at hl 5 rfl) ?_
          refine lv_icmp_ge (tgt := 149) hx hb dX8_gust_114 (by decide) (fun c145 => absurd c145 (by decide)) (fun c145 => ?_)
          refine lv_lload hx hb dX8_gust_117 (lv_at hl 1 rfl) ?_
          refine lv_iload hx hb dX8_gust_119 (lv_at hl 2 rfl) ?_
          refine lv_iload hx hb dX8_gust_121 (lv_at hl 0 rfl) ?_
          refine lv_ishr hx hb dX8_gust_123 ?_
          refine lv_topi (fun x146 e146 => ?_)
          obtain rfl : x146 = 1 := e146.trans (by decide)
          refine lv_iconst (v := 1) hx hb dX8_gust_124 (by decide) ?_
          refine lv_iand hx hb dX8_gust_125 ?_
          refine lv_topi (fun x147 e147 => ?_)
          obtain rfl : x147 = 1 := e147.trans (by decide)
          refine lv_iconst (v := 1) hx hb dX8_gust_126 (by decide) ?_
          refine lv_icmp_ne (tgt := 135) hx hb dX8_gust_127 (by decide) (fun c148 => absurd c148 (by decide)) (fun c148 => ?_)
          refine lv_iload_n hx hb dX8_gust_130 rfl (lv_at hl 7 rfl) ?_
          refine lv_i2l (v := 3) hx hb dX8_gust_131 (by decide) ?_
          refine lv_goto (tgt := 140) hx hb dX8_gust_132 (by decide) ?_
          refine lv_lmul hx hb dX8_gust_140 ?_
          refine lv_topl (fun x149 e149 => ?_)
          obtain rfl : x149 = 3 := e149.trans (by decide)
          refine lv_lstore (lv' := [(10, .long 3), (12, .int 0), (9, .int 1), (5, .long 7), (7, .long 7), (4, .int 1), (0, .ref n), (1, .int 3), (2, .int 0), (3, .int 0)]) hx hb dX8_gust_141 hl (by decide) rfl (fun ls hl => ?_)
          refine lv_iinc (v := 1) (lv' := [(12, .int 1), (10, .long 3), (9, .int 1), (5, .long 7), (7, .long 7), (4, .int 1), (0, .ref n), (1, .int 3), (2, .int 0), (3, .int 0)]) hx hb dX8_gust_143 hl (k := 1) rfl (by decide) (by decide) rfl (fun ls hl => ?_)
          refine lv_goto (tgt := 110) hx hb dX8_gust_146 (by decide) ?_
          refine lv_iload hx hb dX8_gust_110 (lv_at hl 0 rfl) ?_
          refine lv_iload hx hb dX8_gust_112 (lv_at hl 5 rfl) ?_
          refine lv_icmp_ge (tgt := 149) hx hb dX8_gust_114 (by decide) (fun c150 => ?_) (fun c150 => absurd c150 (by decide))
          refine lv_aload_n hx hb dX8_gust_149 rfl (lv_at hl 6 rfl) ?_
          refine lv_iload hx hb dX8_gust_150 (lv_at hl 2 rfl) ?_
          refine lv_aload_n hx hb dX8_gust_152 rfl (lv_at hl 6 rfl) ?_
          refine va_get (D := (dC, dI)) (ci := 8) (v := .int 0) (C := RX8) (T := TX8) (N := 53) hx hb hts hin8 hown hK hP 0 rfl rfl 4 (by decide) hw2 (fun _ h9 => h9) rfl dX8_gust_153 ?_
          refine lv_ishl hx hb dX8_gust_156 ?_
          refine lv_topi (fun x151 e151 => ?_)
          obtain rfl : x151 = 1 := e151.trans (by decide)
          refine va_put (D := (dC, dI)) (ci := 8) (v := .int 1) (ty := .int) (C := RX8) (T := TX8) (N := 53) hx hb hts hin8 tyX8 tyX8_ok nmX8 hown hK hP hD hS 0 rfl rfl 22 (by decide) hw3 (fun _ h9 => h9) rfl (by decide +kernel) rfl rfl (Nat.le_of_ble_eq_true rfl) dX8_gust_157 (fun H locs hP hD hS => ?_)
          replace hP : va_P (dC, dI) vwCl [(n, .inr (8, [.int 800, .int 0, .int 0, .int 0, .int 0, .int 0, .int 0, .ref nwi, .ref nco, .int 0, .ref nqu, .ref nmi, .ref nde, .ref nsa, .ref nsm, .int 0, .ref npa, .int 0, .ref nac, .ref nam, .ref naw, .int 0, .int 1, .int (-6), .int 0, .int 4000, .int (-6), .int (-6), .int 0, .int 0, .ref ncs, .ref nbw, .ref ndc, .ref nmk, .int 800, .int 0, .int 0, .int 0, .int 0, .int 0, .int 0, .ref npo, .int 0, .ref nta, .ref npl, .int 0, .int 0, .ref nmm, .ref ncu, .ref nke, .ref nik, .int 0, .int 0])), (ndc, .inl (cI, 14, .inl (upd (upd (upd (upd (upd (upd (upd (upd (upd (upd (upd (upd (upd (upd (upd (upd (upd (upd (upd (upd (upd (upd (upd (upd (upd (upd (upd (upd (fun _ => 0) 0 0) 1 0) 2 0) 3 0) 4 0) 5 0) 6 0) 7 0) 8 0) 9 0) 10 0) 11 0) 12 0) 13 0) 0 0) 1 0) 2 0) 3 0) 4 0) 5 0) 6 0) 7 0) 8 0) 9 0) 10 0) 11 0) 12 0) 13 0))), (nmk, .inl (cI, 61, .inl (upd (upd (fun _ => 0) 0 5000000) 0 4)))] H := hP
          replace hD : va_D A [(n, .inr (8, [.int 800, .int 0, .int 0, .int 0, .int 0, .int 0, .int 0, .ref nwi, .ref nco, .int 0, .ref nqu, .ref nmi, .ref nde, .ref nsa, .ref nsm, .int 0, .ref npa, .int 0, .ref nac, .ref nam, .ref naw, .int 0, .int 1, .int (-6), .int 0, .int 4000, .int (-6), .int (-6), .int 0, .int 0, .ref ncs, .ref nbw, .ref ndc, .ref nmk, .int 800, .int 0, .int 0, .int 0, .int 0, .int 0, .int 0, .ref npo, .int 0, .ref nta, .ref npl, .int 0, .int 0, .ref nmm, .ref ncu, .ref nke, .ref nik, .int 0, .int 0])), (ndc, .inl (cI, 14, .inl (upd (upd (upd (upd (upd (upd (upd (upd (upd (upd (upd (upd (upd (upd (upd (upd (upd (upd (upd (upd (upd (upd (upd (upd (upd (upd (upd (upd (fun _ => 0) 0 0) 1 0) 2 0) 3 0) 4 0) 5 0) 6 0) 7 0) 8 0) 9 0) 10 0) 11 0) 12 0) 13 0) 0 0) 1 0) 2 0) 3 0) 4 0) 5 0) 6 0) 7 0) 8 0) 9 0) 10 0) 11 0) 12 0) 13 0))), (nmk, .inl (cI, 61, .inl (upd (upd (fun _ => 0) 0 5000000) 0 4)))] := hD
          refine lv_lload hx hb dX8_gust_160 (lv_at hl 4 rfl) ?_
          refine lv_lload hx hb dX8_gust_162 (lv_at hl 1 rfl) ?_
          refine lv_ladd hx hb dX8_gust_164 ?_
          refine lv_topl (fun x152 e152 => ?_)
          obtain rfl : x152 = 10 := e152.trans (by decide)
          refine lv_lstore (lv' := [(7, .long 10), (12, .int 1), (10, .long 3), (9, .int 1), (5, .long 7), (4, .int 1), (0, .ref n), (1, .int 3), (2, .int 0), (3, .int 0)]) hx hb dX8_gust_165 hl (by decide) rfl (fun ls hl => ?_)
          refine lv_lload hx hb dX8_gust_167 (lv_at hl 4 rfl) ?_
          refine lv_lload hx hb dX8_gust_169 (lv_at hl 2 rfl) ?_
          refine lv_aload_n hx hb dX8_gust_171 rfl (lv_at hl 6 rfl) ?_
          refine lv_iload_n hx hb dX8_gust_172 rfl (lv_at hl 8 rfl) ?_
          refine mx_i (wr := []) (va_runV (As := [.int 0]) (rest := [.long 3, .long 7]) ⟨hx, hb, hml, hown, hts⟩ (c_X8_worthOfGusts_0 l dC dI cI cZ cK tS aK aV n nwi nco nqu nmi nde nsa nsm npa nac nam naw ncs nbw ndc nmk npo nta npl nmm ncu nke nik 0 0 0 0 0 0 0 0 0 1 (-6) 0 4000 (-6) (-6) 0 0 800 0 0 0 0 0 0 0 0 0 0 0 (upd (upd (upd (upd (upd (upd (upd (upd (upd (upd (upd (upd (upd (upd (upd (upd (upd (upd (upd (upd (upd (upd (upd (upd (upd (upd (upd (upd (fun _ => 0) 0 0) 1 0) 2 0) 3 0) 4 0) 5 0) 6 0) 7 0) 8 0) 9 0) 10 0) 11 0) 12 0) 13 0) 0 0) 1 0) 2 0) 3 0) 4 0) 5 0) 6 0) 7 0) 8 0) 9 0) 10 0) 11 0) 12 0) 13 0) (upd (upd (fun _ => 0) 0 5000000) 0 4) H.size) (cwV 1 hts (gw_v (fun _ h9 => List.mem_cons_of_mem _ h9) wm_524 wm_525 wm_526 wm_385 wm_527) rfl rfl rfl (by decide +kernel) ⟨Nat.le_of_ble_eq_true rfl, Nat.le_of_ble_eq_true rfl⟩) (mx_preV (C := RX8) (T := TX8) (N := 53) (ci := 8) hKx hP hD hS hA [0, 1, 2] (by decide) rfl rfl rfl) rfl rfl hl.1 rfl (lv_room (Nat.le_of_ble_eq_true rfl)) dX8_gust_173 ⟨Nat.le_of_ble_eq_true rfl, Nat.le_of_ble_eq_true rfl⟩) hP hD hS hA [0, 1, 2] [] rfl rfl (by decide) (by decide) (fun r153 u153 H locs hq153 hP hD hS => ?_)
          replace hP : va_P (dC, dI) vwCl [(n, .inr (8, [.int 800, .int 0, .int 0, .int 0, .int 0, .int 0, .int 0, .ref nwi, .ref nco, .int 0, .ref nqu, .ref nmi, .ref nde, .ref nsa, .ref nsm, .int 0, .ref npa, .int 0, .ref nac, .ref nam, .ref naw, .int 0, .int 1, .int (-6), .int 0, .int 4000, .int (-6), .int (-6), .int 0, .int 0, .ref ncs, .ref nbw, .ref ndc, .ref nmk, .int 800, .int 0, .int 0, .int 0, .int 0, .int 0, .int 0, .ref npo, .int 0, .ref nta, .ref npl, .int 0, .int 0, .ref nmm, .ref ncu, .ref nke, .ref nik, .int 0, .int 0])), (ndc, .inl (cI, 14, .inl (upd (upd (upd (upd (upd (upd (upd (upd (upd (upd (upd (upd (upd (upd (upd (upd (upd (upd (upd (upd (upd (upd (upd (upd (upd (upd (upd (upd (upd (upd (upd (upd (upd (upd (upd (upd (upd (upd (upd (upd (upd (upd (fun _ => 0) 0 0) 1 0) 2 0) 3 0) 4 0) 5 0) 6 0) 7 0) 8 0) 9 0) 10 0) 11 0) 12 0) 13 0) 0 0) 1 0) 2 0) 3 0) 4 0) 5 0) 6 0) 7 0) 8 0) 9 0) 10 0) 11 0) 12 0) 13 0) 0 0) 1 0) 2 0) 3 0) 4 0) 5 0) 6 0) 7 0) 8 0) 9 0) 10 0) 11 0) 12 0) 13 0))), (nmk, .inl (cI, 61, .inl (upd (upd (upd (fun _ => 0) 0 5000000) 0 4) 0 4)))] H := hP
          replace hD : va_D A [(n, .inr (8, [.int 800, .int 0, .int 0, .int 0, .int 0, .int 0, .int 0, .ref nwi, .ref nco, .int 0, .ref nqu, .ref nmi, .ref nde, .ref nsa, .ref nsm, .int 0, .ref npa, .int 0, .ref nac, .ref nam, .ref naw, .int 0, .int 1, .int (-6), .int 0, .int 4000, .int (-6), .int (-6), .int 0, .int 0, .ref ncs, .ref nbw, .ref ndc, .ref nmk, .int 800, .int 0, .int 0, .int 0, .int 0, .int 0, .int 0, .ref npo, .int 0, .ref nta, .ref npl, .int 0, .int 0, .ref nmm, .ref ncu, .ref nke, .ref nik, .int 0, .int 0])), (ndc, .inl (cI, 14, .inl (upd (upd (upd (upd (upd (upd (upd (upd (upd (upd (upd (upd (upd (upd (upd (upd (upd (upd (upd (upd (upd (upd (upd (upd (upd (upd (upd (upd (upd (upd (upd (upd (upd (upd (upd (upd (upd (upd (upd (upd (upd (upd (fun _ => 0) 0 0) 1 0) 2 0) 3 0) 4 0) 5 0) 6 0) 7 0) 8 0) 9 0) 10 0) 11 0) 12 0) 13 0) 0 0) 1 0) 2 0) 3 0) 4 0) 5 0) 6 0) 7 0) 8 0) 9 0) 10 0) 11 0) 12 0) 13 0) 0 0) 1 0) 2 0) 3 0) 4 0) 5 0) 6 0) 7 0) 8 0) 9 0) 10 0) 11 0) 12 0) 13 0))), (nmk, .inl (cI, 61, .inl (upd (upd (upd (fun _ => 0) 0 5000000) 0 4) 0 4)))] := hD
          obtain rfl : r153 = 1 := hq153
          refine lv_i2l (v := 1) hx hb dX8_gust_176 (by decide) ?_
          refine lv_lmul hx hb dX8_gust_177 ?_
          refine lv_topl (fun x154 e154 => ?_)
          obtain rfl : x154 = 3 := e154.trans (by decide)
          refine lv_ladd hx hb dX8_gust_178 ?_
          refine lv_topl (fun x155 e155 => ?_)
          obtain rfl : x155 = 10 := e155.trans (by decide)
          refine lv_lstore (lv' := [(5, .long 10), (7, .long 10), (12, .int 1), (10, .long 3), (9, .int 1), (4, .int 1), (0, .ref n), (1, .int 3), (2, .int 0), (3, .int 0)]) hx hb dX8_gust_179 hl (by decide) rfl (fun ls hl => ?_)
          refine lv_iinc (v := 2) (lv' := [(9, .int 2), (5, .long 10), (7, .long 10), (12, .int 1), (10, .long 3), (4, .int 1), (0, .ref n), (1, .int 3), (2, .int 0), (3, .int 0)]) hx hb dX8_gust_181 hl (k := 4) rfl (by decide) (by decide) rfl (fun ls hl => ?_)
          refine lv_goto (tgt := 95) hx hb dX8_gust_184 (by decide) ?_
          refine lv_iload hx hb dX8_gust_95 (lv_at hl 0 rfl) ?_
          refine lv_iconst (v := 1) hx hb dX8_gust_97 (by decide) ?_
          refine lv_iload hx hb dX8_gust_98 (lv_at hl 5 rfl) ?_
          refine lv_ishl hx hb dX8_gust_100 ?_
          refine lv_topi (fun x156 e156 => ?_)
          obtain rfl : x156 = 2 := e156.trans (by decide)
          refine lv_icmp_ge (tgt := 187) hx hb dX8_gust_101 (by decide) (fun c157 => ?_) (fun c157 => absurd c157 (by decide))
          refine lv_aload_n hx hb dX8_gust_187 rfl (lv_at hl 6 rfl) ?_
          refine lv_iconst (v := 0) hx hb dX8_gust_188 (by decide) ?_
          refine va_put (D := (dC, dI)) (ci := 8) (v := .int 0) (ty := .int) (C := RX8) (T := TX8) (N := 53) hx hb hts hin8 tyX8 tyX8_ok nmX8 hown hK hP hD hS 0 rfl rfl 22 (by decide) hw3 (fun _ h9 => h9) rfl (by decide +kernel) rfl rfl (Nat.le_of_ble_eq_true rfl) dX8_gust_189 (fun H locs hP hD hS => ?_)
          replace hP : va_P (dC, dI) vwCl [(n, .inr (8, [.int 800, .int 0, .int 0, .int 0, .int 0, .int 0, .int 0, .ref nwi, .ref nco, .int 0, .ref nqu, .ref nmi, .ref nde, .ref nsa, .ref nsm, .int 0, .ref npa, .int 0, .ref nac, .ref nam, .ref naw, .int 0, .int 0, .int (-6), .int 0, .int 4000, .int (-6), .int (-6), .int 0, .int 0, .ref ncs, .ref nbw, .ref ndc, .ref nmk, .int 800, .int 0, .int 0, .int 0, .int 0, .int 0, .int 0, .ref npo, .int 0, .ref nta, .ref npl, .int 0, .int 0, .ref nmm, .ref ncu, .ref nke, .ref nik, .int 0, .int 0])), (ndc, .inl (cI, 14, .inl (upd (upd (upd (upd (upd (upd (upd (upd (upd (upd (upd (upd (upd (upd (upd (upd (upd (upd (upd (upd (upd (upd (upd (upd (upd (upd (upd (upd (upd (upd (upd (upd (upd (upd (upd (upd (upd (upd (upd (upd (upd (upd (fun _ => 0) 0 0) 1 0) 2 0) 3 0) 4 0) 5 0) 6 0) 7 0) 8 0) 9 0) 10 0) 11 0) 12 0) 13 0) 0 0) 1 0) 2 0) 3 0) 4 0) 5 0) 6 0) 7 0) 8 0) 9 0) 10 0) 11 0) 12 0) 13 0) 0 0) 1 0) 2 0) 3 0) 4 0) 5 0) 6 0) 7 0) 8 0) 9 0) 10 0) 11 0) 12 0) 13 0))), (nmk, .inl (cI, 61, .inl (upd (upd (upd (fun _ => 0) 0 5000000) 0 4) 0 4)))] H := hP
          replace hD : va_D A [(n, .inr (8, [.int 800, .int 0, .int 0, .int 0, .int 0, .int 0, .int 0, .ref nwi, .ref nco, .int 0, .ref nqu, .ref nmi, .ref nde, .ref nsa, .ref nsm, .int 0, .ref npa, .int 0, .ref nac, .ref nam, .ref naw, .int 0, .int 0, .int (-6), .int 0, .int 4000, .int (-6), .int (-6), .int 0, .int 0, .ref ncs, .ref nbw, .ref ndc, .ref nmk, .int 800, .int 0, .int 0, .int 0, .int 0, .int 0, .int 0, .ref npo, .int 0, .ref nta, .ref npl, .int 0, .int 0, .ref nmm, .ref ncu, .ref nke, .ref nik, .int 0, .int 0])), (ndc, .inl (cI, 14, .inl (upd (upd (upd (upd (upd (upd (upd (upd (upd (upd (upd (upd (upd (upd (upd (upd (upd (upd (upd (upd (upd (upd (upd (upd (upd (upd (upd (upd (upd (upd (upd (upd (upd (upd (upd (upd (upd (upd (upd (upd (upd (upd (fun _ => 0) 0 0) 1 0) 2 0) 3 0) 4 0) 5 0) 6 0) 7 0) 8 0) 9 0) 10 0) 11 0) 12 0) 13 0) 0 0) 1 0) 2 0) 3 0) 4 0) 5 0) 6 0) 7 0) 8 0) 9 0) 10 0) 11 0) 12 0) 13 0) 0 0) 1 0) 2 0) 3 0) 4 0) 5 0) 6 0) 7 0) 8 0) 9 0) 10 0) 11 0) 12 0) 13 0))), (nmk, .inl (cI, 61, .inl (upd (upd (upd (fun _ => 0) 0 5000000) 0 4) 0 4)))] := hD
          refine lv_lload hx hb dX8_gust_192 (lv_at hl 1 rfl) ?_
          refine lv_lload hx hb dX8_gust_194 (lv_at hl 2 rfl) ?_
          refine lv_iload_n hx hb dX8_gust_196 rfl (lv_at hl 9 rfl) ?_
          refine mx_l (wr := [(n, .inr (8, [.int 800, .int 0, .int 0, .int 0, .int 0, .int 0, .int 0, .ref nwi, .ref nco, .int 0, .ref nqu, .ref nmi, .ref nde, .ref nsa, .ref nsm, .int 0, .ref npa, .int 0, .ref nac, .ref nam, .ref naw, .int 0, .int 0, .int (-6), .int 0, .int 4000, .int (-6), .int (-6), .int 0, .int 0, .ref ncs, .ref nbw, .ref ndc, .ref nmk, .int 800, .int 0, .int 0, .int 0, .int 0, .int 0, .int 0, .ref npo, .int 0, .ref nta, .ref npl, .int 0, .int 0, .ref nmm, .ref ncu, .ref nke, .ref nik, .int 0, .int 0])), (ndc, .inl (cI, 14, .inl (upd (upd (upd (upd (upd (upd (upd (upd (upd (upd (upd (upd (upd (upd (upd (upd (upd (upd (upd (upd (upd (upd (upd (upd (upd (upd (upd (upd (upd (upd (upd (upd (upd (upd (upd (upd (upd (upd (upd (upd (upd (upd (fun _ => 0) 0 0) 1 0) 2 0) 3 0) 4 0) 5 0) 6 0) 7 0) 8 0) 9 0) 10 0) 11 0) 12 0) 13 0) 0 0) 1 0) 2 0) 3 0) 4 0) 5 0) 6 0) 7 0) 8 0) 9 0) 10 0) 11 0) 12 0) 13 0) 0 0) 1 0) 2 0) 3 0) 4 0) 5 0) 6 0) 7 0) 8 0) 9 0) 10 0) 11 0) 12 0) 13 0))), (nmk, .inl (cI, 61, .inl (upd (upd (upd (fun _ => 0) 0 5000000) 0 4) 0 4)))]) (va_runS (As := [.long 10, .long 10, .int 0]) (rest := []) ⟨hx, hb, hml, hown, hts⟩ (c_X8_lowest_10_0 l dC dI cI cZ cK tS aK aV  H.size) (va_cwS 3 hts (gw_s (fun _ h9 => List.mem_cons_of_mem _ h9) wm_528 wm_529 wm_385 wm_530) rfl rfl rfl (by decide +kernel) ⟨Nat.le_of_ble_eq_true rfl, Nat.le_of_ble_eq_true rfl⟩) (mx_preS hKx hP hD hS hA [] (by decide) rfl) rfl rfl hl.1 rfl (lv_room (Nat.le_of_ble_eq_true rfl)) dX8_gust_197 ⟨Nat.le_of_ble_eq_true rfl, Nat.le_of_ble_eq_true rfl⟩) hP hD hS hA [] [0, 1, 2] rfl rfl (by decide) (by decide) (fun r158 u158 H locs hq158 hP hD hS => ?_)
          replace hP : va_P (dC, dI) vwCl [(n, .inr (8, [.int 800, .int 0, .int 0, .int 0, .int 0, .int 0, .int 0, .ref nwi, .ref nco, .int 0, .ref nqu, .ref nmi, .ref nde, .ref nsa, .ref nsm, .int 0, .ref npa, .int 0, .ref nac, .ref nam, .ref naw, .int 0, .int 0, .int (-6), .int 0, .int 4000, .int (-6), .int (-6), .int 0, .int 0, .ref ncs, .ref nbw, .ref ndc, .ref nmk, .int 800, .int 0, .int 0, .int 0, .int 0, .int 0, .int 0, .ref npo, .int 0, .ref nta, .ref npl, .int 0, .int 0, .ref nmm, .ref ncu, .ref nke, .ref nik, .int 0, .int 0])), (ndc, .inl (cI, 14, .inl (upd (upd (upd (upd (upd (upd (upd (upd (upd (upd (upd (upd (upd (upd (upd (upd (upd (upd (upd (upd (upd (upd (upd (upd (upd (upd (upd (upd (upd (upd (upd (upd (upd (upd (upd (upd (upd (upd (upd (upd (upd (upd (fun _ => 0) 0 0) 1 0) 2 0) 3 0) 4 0) 5 0) 6 0) 7 0) 8 0) 9 0) 10 0) 11 0) 12 0) 13 0) 0 0) 1 0) 2 0) 3 0) 4 0) 5 0) 6 0) 7 0) 8 0) 9 0) 10 0) 11 0) 12 0) 13 0) 0 0) 1 0) 2 0) 3 0) 4 0) 5 0) 6 0) 7 0) 8 0) 9 0) 10 0) 11 0) 12 0) 13 0))), (nmk, .inl (cI, 61, .inl (upd (upd (upd (fun _ => 0) 0 5000000) 0 4) 0 4)))] H := hP
          replace hD : va_D A [(n, .inr (8, [.int 800, .int 0, .int 0, .int 0, .int 0, .int 0, .int 0, .ref nwi, .ref nco, .int 0, .ref nqu, .ref nmi, .ref nde, .ref nsa, .ref nsm, .int 0, .ref npa, .int 0, .ref nac, .ref nam, .ref naw, .int 0, .int 0, .int (-6), .int 0, .int 4000, .int (-6), .int (-6), .int 0, .int 0, .ref ncs, .ref nbw, .ref ndc, .ref nmk, .int 800, .int 0, .int 0, .int 0, .int 0, .int 0, .int 0, .ref npo, .int 0, .ref nta, .ref npl, .int 0, .int 0, .ref nmm, .ref ncu, .ref nke, .ref nik, .int 0, .int 0])), (ndc, .inl (cI, 14, .inl (upd (upd (upd (upd (upd (upd (upd (upd (upd (upd (upd (upd (upd (upd (upd (upd (upd (upd (upd (upd (upd (upd (upd (upd (upd (upd (upd (upd (upd (upd (upd (upd (upd (upd (upd (upd (upd (upd (upd (upd (upd (upd (fun _ => 0) 0 0) 1 0) 2 0) 3 0) 4 0) 5 0) 6 0) 7 0) 8 0) 9 0) 10 0) 11 0) 12 0) 13 0) 0 0) 1 0) 2 0) 3 0) 4 0) 5 0) 6 0) 7 0) 8 0) 9 0) 10 0) 11 0) 12 0) 13 0) 0 0) 1 0) 2 0) 3 0) 4 0) 5 0) 6 0) 7 0) 8 0) 9 0) 10 0) 11 0) 12 0) 13 0))), (nmk, .inl (cI, 61, .inl (upd (upd (upd (fun _ => 0) 0 5000000) 0 4) 0 4)))] := hD
          obtain rfl : r158 = 1 := hq158
          have hP9 := mx_subP (wc := []) hP [] rfl
          have hD9 := hD.sub (ws' := []) [] (by decide) rfl
          exact W.lret (v := 1) hx hb hr (fun t ht hW => ⟨⟨1, (), rfl, rfl, by rw [ht]; exact hP9, hD9⟩, hS.F ht⟩) hS.2.2 dX8_gust_200
        · have z9 : (4 : Int32).toInt = 4 := rfl
          refine lv_aload_n hx hb dX8_gust_36 rfl (lv_at hl 0 rfl) ?_
          refine mx_i (wr := [(ndc, .inl (cI, 14, .inl (fun _ => 0))), (nmk, .inl (cI, 61, .inl (fun _ => 0)))]) (va_runV (As := []) (rest := []) ⟨hx, hb, hml, hown, hts⟩ (c_X8_faultIn l dC dI cI cZ cK tS aK aV n nwi nco nqu nmi nde nsa nsm npa nac nam naw ncs nbw ndc nmk npo nta npl nmm ncu nke nik 800 0 0 0 0 0 0 0 0 0 0 0 0 0 0 0 0 0 0 0 0 0 0 0 0 0 0 0 0 0 H.size) (cwV 0 hts (gw_v (fun _ h9 => List.mem_cons_of_mem _ h9) wm_453 wm_454 wm_455 wm_385 wm_456) rfl rfl rfl (by decide +kernel) ⟨Nat.le_of_ble_eq_true rfl, Nat.le_of_ble_eq_true rfl⟩) (mx_preV (C := RX8) (T := TX8) (N := 53) (ci := 8) hKx hP hD hS hA [0] (by decide) rfl rfl rfl) rfl rfl hl.1 rfl (lv_room (Nat.le_of_ble_eq_true rfl)) dX8_gust_37 ⟨Nat.le_of_ble_eq_true rfl, Nat.le_of_ble_eq_true rfl⟩) hP hD hS hA [0] [1, 2] rfl rfl (by decide) (by decide) (fun r159 u159 H locs hq159 hP hD hS => ?_)
          replace hP : va_P (dC, dI) vwCl [(ndc, .inl (cI, 14, .inl (fun _ => 0))), (nmk, .inl (cI, 61, .inl (fun _ => 0))), (n, .inr (8, [.int 800, .int 0, .int 0, .int 0, .int 0, .int 0, .int 0, .ref nwi, .ref nco, .int 0, .ref nqu, .ref nmi, .ref nde, .ref nsa, .ref nsm, .int 0, .ref npa, .int 0, .ref nac, .ref nam, .ref naw, .int 0, .int 0, .int 0, .int 0, .int 0, .int 0, .int 0, .int 0, .int 0, .ref ncs, .ref nbw, .ref ndc, .ref nmk, .int 0, .int 0, .int 0, .int 0, .int 0, .int 0, .int 0, .ref npo, .int 0, .ref nta, .ref npl, .int 0, .int 0, .ref nmm, .ref ncu, .ref nke, .ref nik, .int 0, .int 0]))] H := hP
          replace hD : va_D A [(ndc, .inl (cI, 14, .inl (fun _ => 0))), (nmk, .inl (cI, 61, .inl (fun _ => 0))), (n, .inr (8, [.int 800, .int 0, .int 0, .int 0, .int 0, .int 0, .int 0, .ref nwi, .ref nco, .int 0, .ref nqu, .ref nmi, .ref nde, .ref nsa, .ref nsm, .int 0, .ref npa, .int 0, .ref nac, .ref nam, .ref naw, .int 0, .int 0, .int 0, .int 0, .int 0, .int 0, .int 0, .int 0, .int 0, .ref ncs, .ref nbw, .ref ndc, .ref nmk, .int 0, .int 0, .int 0, .int 0, .int 0, .int 0, .int 0, .ref npo, .int 0, .ref nta, .ref npl, .int 0, .int 0, .ref nmm, .ref ncu, .ref nke, .ref nik, .int 0, .int 0]))] := hD
          obtain rfl : r159 = (-6) := hq159
          refine lv_if_lt (tgt := 47) hx hb dX8_gust_40 (by decide) (fun c160 => ?_) (fun c160 => absurd c160 (by decide))
          refine lv_aload_n hx hb dX8_gust_47 rfl (lv_at hl 0 rfl) ?_
          refine mx_v (wr := [(ndc, .inl (cI, 14, .inl (fun _ => 0))), (nmk, .inl (cI, 61, .inl (fun _ => 0)))]) (va_runV (As := []) (rest := []) ⟨hx, hb, hml, hown, hts⟩ (c_X8_keepNow l dC dI cI cZ cK tS aK aV n nwi nco nqu nmi nde nsa nsm npa nac nam naw ncs nbw ndc nmk npo nta npl nmm ncu nke nik 800 0 0 0 0 0 0 0 0 0 0 0 0 0 0 0 0 0 0 0 0 0 0 0 0 0 0 0 0 0 0 H.size) (cwV 0 hts (gw_v (fun _ h9 => List.mem_cons_of_mem _ h9) wm_457 wm_458 wm_459 wm_385 wm_460) rfl rfl rfl (by decide +kernel) ⟨Nat.le_of_ble_eq_true rfl, Nat.le_of_ble_eq_true rfl⟩) (mx_preV (C := RX8) (T := TX8) (N := 53) (ci := 8) hKx hP hD hS hA [2] (by decide) rfl rfl rfl) rfl rfl hl.1 rfl (lv_room (Nat.le_of_ble_eq_true rfl)) dX8_gust_48 ⟨Nat.le_of_ble_eq_true rfl, Nat.le_of_ble_eq_true rfl⟩) hP hD hS hA [2] [0, 1] rfl rfl (by decide) (by decide) (fun u161 H locs hq161 hP hD hS => ?_)
          replace hP : va_P (dC, dI) vwCl [(ndc, .inl (cI, 14, .inl (fun _ => 0))), (nmk, .inl (cI, 61, .inl (fun _ => 0))), (n, .inr (8, [.int 800, .int 0, .int 0, .int 0, .int 0, .int 0, .int 0, .ref nwi, .ref nco, .int 0, .ref nqu, .ref nmi, .ref nde, .ref nsa, .ref nsm, .int 0, .ref npa, .int 0, .ref nac, .ref nam, .ref naw, .int 0, .int 0, .int (-6), .int 0, .int 4000, .int 0, .int 0, .int 0, .int 0, .ref ncs, .ref nbw, .ref ndc, .ref nmk, .int 800, .int 0, .int 0, .int 0, .int 0, .int 0, .int 0, .ref npo, .int 0, .ref nta, .ref npl, .int 0, .int 0, .ref nmm, .ref ncu, .ref nke, .ref nik, .int 0, .int 0]))] H := hP
          replace hD : va_D A [(ndc, .inl (cI, 14, .inl (fun _ => 0))), (nmk, .inl (cI, 61, .inl (fun _ => 0))), (n, .inr (8, [.int 800, .int 0, .int 0, .int 0, .int 0, .int 0, .int 0, .ref nwi, .ref nco, .int 0, .ref nqu, .ref nmi, .ref nde, .ref nsa, .ref nsm, .int 0, .ref npa, .int 0, .ref nac, .ref nam, .ref naw, .int 0, .int 0, .int (-6), .int 0, .int 4000, .int 0, .int 0, .int 0, .int 0, .ref ncs, .ref nbw, .ref ndc, .ref nmk, .int 800, .int 0, .int 0, .int 0, .int 0, .int 0, .int 0, .ref npo, .int 0, .ref nta, .ref npl, .int 0, .int 0, .ref nmm, .ref ncu, .ref nke, .ref nik, .int 0, .int 0]))] := hD
          refine lv_aload_n hx hb dX8_gust_51 rfl (lv_at hl 0 rfl) ?_
          refine mx_i (wr := []) (va_runV (As := []) (rest := []) ⟨hx, hb, hml, hown, hts⟩ (c_X8_canWithoutEnd l dC dI cI cZ cK tS aK aV n nwi nco nqu nmi nde nsa nsm npa nac nam naw ncs nbw ndc nmk npo nta npl nmm ncu nke nik 800 0 0 0 0 0 0 0 0 0 0 (-6) 0 4000 0 0 0 0 800 0 0 0 0 0 0 0 0 0 0 0 (fun _ => 0) (fun _ => 0) H.size) (cwV 0 hts (gw_v (fun _ h9 => List.mem_cons_of_mem _ h9) wm_519 wm_520 wm_521 wm_385 wm_522) rfl rfl rfl (by decide +kernel) ⟨Nat.le_of_ble_eq_true rfl, Nat.le_of_ble_eq_true rfl⟩) (mx_preV (C := RX8) (T := TX8) (N := 53) (ci := 8) hKx hP hD hS hA [2, 0, 1] (by decide) rfl rfl rfl) rfl rfl hl.1 rfl (lv_room (Nat.le_of_ble_eq_true rfl)) dX8_gust_52 ⟨Nat.le_of_ble_eq_true rfl, Nat.le_of_ble_eq_true rfl⟩) hP hD hS hA [2, 0, 1] [] rfl rfl (by decide) (by decide) (fun r162 u162 H locs hq162 hP hD hS => ?_)
          replace hP : va_P (dC, dI) vwCl [(n, .inr (8, [.int 800, .int 0, .int 0, .int 0, .int 0, .int 0, .int 0, .ref nwi, .ref nco, .int 0, .ref nqu, .ref nmi, .ref nde, .ref nsa, .ref nsm, .int 0, .ref npa, .int 0, .ref nac, .ref nam, .ref naw, .int 0, .int 0, .int (-6), .int 0, .int 4000, .int (-6), .int (-6), .int 0, .int 0, .ref ncs, .ref nbw, .ref ndc, .ref nmk, .int 800, .int 0, .int 0, .int 0, .int 0, .int 0, .int 0, .ref npo, .int 0, .ref nta, .ref npl, .int 0, .int 0, .ref nmm, .ref ncu, .ref nke, .ref nik, .int 0, .int 0])), (ndc, .inl (cI, 14, .inl (upd (upd (upd (upd (upd (upd (upd (upd (upd (upd (upd (upd (upd (upd (fun _ => 0) 0 0) 1 0) 2 0) 3 0) 4 0) 5 0) 6 0) 7 0) 8 0) 9 0) 10 0) 11 0) 12 0) 13 0))), (nmk, .inl (cI, 61, .inl (upd (fun _ => 0) 0 5000000)))] H := hP
          replace hD : va_D A [(n, .inr (8, [.int 800, .int 0, .int 0, .int 0, .int 0, .int 0, .int 0, .ref nwi, .ref nco, .int 0, .ref nqu, .ref nmi, .ref nde, .ref nsa, .ref nsm, .int 0, .ref npa, .int 0, .ref nac, .ref nam, .ref naw, .int 0, .int 0, .int (-6), .int 0, .int 4000, .int (-6), .int (-6), .int 0, .int 0, .ref ncs, .ref nbw, .ref ndc, .ref nmk, .int 800, .int 0, .int 0, .int 0, .int 0, .int 0, .int 0, .ref npo, .int 0, .ref nta, .ref npl, .int 0, .int 0, .ref nmm, .ref ncu, .ref nke, .ref nik, .int 0, .int 0])), (ndc, .inl (cI, 14, .inl (upd (upd (upd (upd (upd (upd (upd (upd (upd (upd (upd (upd (upd (upd (fun _ => 0) 0 0) 1 0) 2 0) 3 0) 4 0) 5 0) 6 0) 7 0) 8 0) 9 0) 10 0) 11 0) 12 0) 13 0))), (nmk, .inl (cI, 61, .inl (upd (fun _ => 0) 0 5000000)))] := hD
          obtain rfl : r162 = 1 := hq162
          refine lv_if_ne (tgt := 62) hx hb dX8_gust_55 (by decide) (fun c163 => ?_) (fun c163 => absurd c163 (by decide))
          refine lv_aload_n hx hb dX8_gust_62 rfl (lv_at hl 0 rfl) ?_
          refine va_get (D := (dC, dI)) (ci := 8) (v := .int 0) (C := RX8) (T := TX8) (N := 53) hx hb hts hin8 hown hK hP 0 rfl rfl 39 (by decide) hw1 (fun _ h9 => h9) rfl dX8_gust_63 ?_
          refine lv_aload_n hx hb dX8_gust_66 rfl (lv_at hl 0 rfl) ?_
          refine va_get (D := (dC, dI)) (ci := 8) (v := .int 0) (C := RX8) (T := TX8) (N := 53) hx hb hts hin8 hown hK hP 0 rfl rfl 4 (by decide) hw2 (fun _ h9 => h9) rfl dX8_gust_67 ?_
          refine lv_isub hx hb dX8_gust_70 ?_
          refine lv_topi (fun x164 e164 => ?_)
          obtain rfl : x164 = 0 := e164.trans (by decide)
          refine lv_iconst (v := 1) hx hb dX8_gust_71 (by decide) ?_
          refine lv_iadd hx hb dX8_gust_72 ?_
          refine lv_topi (fun x165 e165 => ?_)
          obtain rfl : x165 = 1 := e165.trans (by decide)
          refine lv_istore (lv' := [(4, .int 1), (0, .ref n), (1, .int 4), (2, .int 0), (3, .int 0)]) hx hb dX8_gust_73 hl (by decide) rfl (fun ls hl => ?_)
          refine lv_iload hx hb dX8_gust_75 (lv_at hl 0 rfl) ?_
          refine lv_bipush (v := 8) hx hb dX8_gust_77 (by decide) ?_
          refine lv_icmp_le (tgt := 86) hx hb dX8_gust_79 (by decide) (fun c166 => ?_) (fun c166 => absurd c166 (by decide))
          refine lv_lconst (v := 0) hx hb dX8_gust_86 (by decide) ?_
          refine lv_lstore (lv' := [(5, .long 0), (4, .int 1), (0, .ref n), (1, .int 4), (2, .int 0), (3, .int 0)]) hx hb dX8_gust_87 hl (by decide) rfl (fun ls hl => ?_)
          refine lv_lconst (v := 0) hx hb dX8_gust_89 (by decide) ?_
          refine lv_lstore (lv' := [(7, .long 0), (5, .long 0), (4, .int 1), (0, .ref n), (1, .int 4), (2, .int 0), (3, .int 0)]) hx hb dX8_gust_90 hl (by decide) rfl (fun ls hl => ?_)
          refine lv_iconst (v := 0) hx hb dX8_gust_92 (by decide) ?_
          refine lv_istore (lv' := [(9, .int 0), (7, .long 0), (5, .long 0), (4, .int 1), (0, .ref n), (1, .int 4), (2, .int 0), (3, .int 0)]) hx hb dX8_gust_93 hl (by decide) rfl (fun ls hl => ?_)
          refine lv_iload hx hb dX8_gust_95 (lv_at hl 0 rfl) ?_
          refine lv_iconst (v := 1) hx hb dX8_gust_97 (by decide) ?_
          refine lv_iload hx hb dX8_gust_98 (lv_at hl 3 rfl) ?_
          refine lv_ishl hx hb dX8_gust_100 ?_
          refine lv_topi (fun x167 e167 => ?_)
          obtain rfl : x167 = 2 := e167.trans (by decide)
          refine lv_icmp_ge (tgt := 187) hx hb dX8_gust_101 (by decide) (fun c168 => absurd c168 (by decide)) (fun c168 => ?_)
          refine lv_lconst (v := 1) hx hb dX8_gust_104 (by decide) ?_
          refine lv_lstore (lv' := [(10, .long 1), (9, .int 0), (7, .long 0), (5, .long 0), (4, .int 1), (0, .ref n), (1, .int 4), (2, .int 0), (3, .int 0)]) hx hb dX8_gust_105 hl (by decide) rfl (fun ls hl => ?_)
          refine lv_iconst (v := 0) hx hb dX8_gust_107 (by decide) ?_
          refine lv_istore (lv' := [(12, .int 0), (10, .long 1), (9, .int 0), (7, .long 0), (5, .long 0), (4, .int 1), (0, .ref n), (1, .int 4), (2, .int 0), (3, .int 0)]) hx hb dX8_gust_108 hl (by decide) rfl (fun ls hl => ?_)
          refine lv_iload hx hb dX8_gust_110 (lv_at hl 0 rfl) ?_
          refine lv_iload hx hb dX8_gust_112 (lv_at hl 5 rfl) ?_
          refine lv_icmp_ge (tgt := 149) hx hb dX8_gust_114 (by decide) (fun c169 => absurd c169 (by decide)) (fun c169 => ?_)
          refine lv_lload hx hb dX8_gust_117 (lv_at hl 1 rfl) ?_
          refine lv_iload hx hb dX8_gust_119 (lv_at hl 2 rfl) ?_
          refine lv_iload hx hb dX8_gust_121 (lv_at hl 0 rfl) ?_
          refine lv_ishr hx hb dX8_gust_123 ?_
          refine lv_topi (fun x170 e170 => ?_)
          obtain rfl : x170 = 0 := e170.trans (by decide)
          refine lv_iconst (v := 1) hx hb dX8_gust_124 (by decide) ?_
          refine lv_iand hx hb dX8_gust_125 ?_
          refine lv_topi (fun x171 e171 => ?_)
          obtain rfl : x171 = 0 := e171.trans (by decide)
          refine lv_iconst (v := 1) hx hb dX8_gust_126 (by decide) ?_
          refine lv_icmp_ne (tgt := 135) hx hb dX8_gust_127 (by decide) (fun c172 => ?_) (fun c172 => absurd c172 (by decide))
          refine lv_bipush (v := 10) hx hb dX8_gust_135 (by decide) ?_
          refine lv_iload_n hx hb dX8_gust_137 rfl (lv_at hl 7 rfl) ?_
          refine lv_isub hx hb dX8_gust_138 ?_
          refine lv_topi (fun x173 e173 => ?_)
          obtain rfl : x173 = 6 := e173.trans (by decide)
          refine lv_i2l (v := 6) hx hb dX8_gust_139 (by decide) ?_
          refine lv_lmul hx hb dX8_gust_140 ?_
          refine lv_topl (fun x174 e174 => ?_)
          obtain rfl : x174 = 6 := e174.trans (by decide)
          refine lv_lstore (lv' := [(10, .long 6), (12, .int 0), (9, .int 0), (7, .long 0), (5, .long 0), (4, .int 1), (0, .ref n), (1, .int 4), (2, .int 0), (3, .int 0)]) hx hb dX8_gust_141 hl (by decide) rfl (fun ls hl => ?_)
          refine lv_iinc (v := 1) (lv' := [(12, .int 1), (10, .long 6), (9, .int 0), (7, .long 0), (5, .long 0), (4, .int 1), (0, .ref n), (1, .int 4), (2, .int 0), (3, .int 0)]) hx hb dX8_gust_143 hl (k := 1) rfl (by decide) (by decide) rfl (fun ls hl => ?_)
          refine lv_goto (tgt := 110) hx hb dX8_gust_146 (by decide) ?_
          refine lv_iload hx hb dX8_gust_110 (lv_at hl 0 rfl) ?_
          refine lv_iload hx hb dX8_gust_112 (lv_at hl 5 rfl) ?_
          refine lv_icmp_ge (tgt := 149) hx hb dX8_gust_114 (by decide) (fun c175 => ?_) (fun c175 => absurd c175 (by decide))
          refine lv_aload_n hx hb dX8_gust_149 rfl (lv_at hl 6 rfl) ?_
          refine lv_iload hx hb dX8_gust_150 (lv_at hl 2 rfl) ?_
          refine lv_aload_n hx hb dX8_gust_152 rfl (lv_at hl 6 rfl) ?_
          refine va_get (D := (dC, dI)) (ci := 8) (v := .int 0) (C := RX8) (T := TX8) (N := 53) hx hb hts hin8 hown hK hP 0 rfl rfl 4 (by decide) hw2 (fun _ h9 => h9) rfl dX8_gust_153 ?_
          refine lv_ishl hx hb dX8_gust_156 ?_
          refine lv_topi (fun x176 e176 => ?_)
          obtain rfl : x176 = 0 := e176.trans (by decide)
          refine va_put (D := (dC, dI)) (ci := 8) (v := .int 0) (ty := .int) (C := RX8) (T := TX8) (N := 53) hx hb hts hin8 tyX8 tyX8_ok nmX8 hown hK hP hD hS 0 rfl rfl 22 (by decide) hw3 (fun _ h9 => h9) rfl (by decide +kernel) rfl rfl (Nat.le_of_ble_eq_true rfl) dX8_gust_157 (fun H locs hP hD hS => ?_)
          replace hP : va_P (dC, dI) vwCl [(n, .inr (8, [.int 800, .int 0, .int 0, .int 0, .int 0, .int 0, .int 0, .ref nwi, .ref nco, .int 0, .ref nqu, .ref nmi, .ref nde, .ref nsa, .ref nsm, .int 0, .ref npa, .int 0, .ref nac, .ref nam, .ref naw, .int 0, .int 0, .int (-6), .int 0, .int 4000, .int (-6), .int (-6), .int 0, .int 0, .ref ncs, .ref nbw, .ref ndc, .ref nmk, .int 800, .int 0, .int 0, .int 0, .int 0, .int 0, .int 0, .ref npo, .int 0, .ref nta, .ref npl, .int 0, .int 0, .ref nmm, .ref ncu, .ref nke, .ref nik, .int 0, .int 0])), (ndc, .inl (cI, 14, .inl (upd (upd (upd (upd (upd (upd (upd (upd (upd (upd (upd (upd (upd (upd (fun _ => 0) 0 0) 1 0) 2 0) 3 0) 4 0) 5 0) 6 0) 7 0) 8 0) 9 0) 10 0) 11 0) 12 0) 13 0))), (nmk, .inl (cI, 61, .inl (upd (fun _ => 0) 0 5000000)))] H := hP
          replace hD : va_D A [(n, .inr (8, [.int 800, .int 0, .int 0, .int 0, .int 0, .int 0, .int 0, .ref nwi, .ref nco, .int 0, .ref nqu, .ref nmi, .ref nde, .ref nsa, .ref nsm, .int 0, .ref npa, .int 0, .ref nac, .ref nam, .ref naw, .int 0, .int 0, .int (-6), .int 0, .int 4000, .int (-6), .int (-6), .int 0, .int 0, .ref ncs, .ref nbw, .ref ndc, .ref nmk, .int 800, .int 0, .int 0, .int 0, .int 0, .int 0, .int 0, .ref npo, .int 0, .ref nta, .ref npl, .int 0, .int 0, .ref nmm, .ref ncu, .ref nke, .ref nik, .int 0, .int 0])), (ndc, .inl (cI, 14, .inl (upd (upd (upd (upd (upd (upd (upd (upd (upd (upd (upd (upd (upd (upd (fun _ => 0) 0 0) 1 0) 2 0) 3 0) 4 0) 5 0) 6 0) 7 0) 8 0) 9 0) 10 0) 11 0) 12 0) 13 0))), (nmk, .inl (cI, 61, .inl (upd (fun _ => 0) 0 5000000)))] := hD
          refine lv_lload hx hb dX8_gust_160 (lv_at hl 3 rfl) ?_
          refine lv_lload hx hb dX8_gust_162 (lv_at hl 1 rfl) ?_
          refine lv_ladd hx hb dX8_gust_164 ?_
          refine lv_topl (fun x177 e177 => ?_)
          obtain rfl : x177 = 6 := e177.trans (by decide)
          refine lv_lstore (lv' := [(7, .long 6), (12, .int 1), (10, .long 6), (9, .int 0), (5, .long 0), (4, .int 1), (0, .ref n), (1, .int 4), (2, .int 0), (3, .int 0)]) hx hb dX8_gust_165 hl (by decide) rfl (fun ls hl => ?_)
          refine lv_lload hx hb dX8_gust_167 (lv_at hl 4 rfl) ?_
          refine lv_lload hx hb dX8_gust_169 (lv_at hl 2 rfl) ?_
          refine lv_aload_n hx hb dX8_gust_171 rfl (lv_at hl 6 rfl) ?_
          refine lv_iload_n hx hb dX8_gust_172 rfl (lv_at hl 8 rfl) ?_
          refine mx_i (wr := []) (va_runV (As := [.int 0]) (rest := [.long 6, .long 0]) ⟨hx, hb, hml, hown, hts⟩ (c_X8_worthOfGusts_0 l dC dI cI cZ cK tS aK aV n nwi nco nqu nmi nde nsa nsm npa nac nam naw ncs nbw ndc nmk npo nta npl nmm ncu nke nik 0 0 0 0 0 0 0 0 0 0 (-6) 0 4000 (-6) (-6) 0 0 800 0 0 0 0 0 0 0 0 0 0 0 (upd (upd (upd (upd (upd (upd (upd (upd (upd (upd (upd (upd (upd (upd (fun _ => 0) 0 0) 1 0) 2 0) 3 0) 4 0) 5 0) 6 0) 7 0) 8 0) 9 0) 10 0) 11 0) 12 0) 13 0) (upd (fun _ => 0) 0 5000000) H.size) (cwV 1 hts (gw_v (fun _ h9 => List.mem_cons_of_mem _ h9) wm_524 wm_525 wm_526 wm_385 wm_527) rfl rfl rfl (by decide +kernel) ⟨Nat.le_of_ble_eq_true rfl, Nat.le_of_ble_eq_true rfl⟩) (mx_preV (C := RX8) (T := TX8) (N := 53) (ci := 8) hKx hP hD hS hA [0, 1, 2] (by decide) rfl rfl rfl) rfl rfl hl.1 rfl (lv_room (Nat.le_of_ble_eq_true rfl)) dX8_gust_173 ⟨Nat.le_of_ble_eq_true rfl, Nat.le_of_ble_eq_true rfl⟩) hP hD hS hA [0, 1, 2] [] rfl rfl (by decide) (by decide) (fun r178 u178 H locs hq178 hP hD hS => ?_)
          replace hP : va_P (dC, dI) vwCl [(n, .inr (8, [.int 800, .int 0, .int 0, .int 0, .int 0, .int 0, .int 0, .ref nwi, .ref nco, .int 0, .ref nqu, .ref nmi, .ref nde, .ref nsa, .ref nsm, .int 0, .ref npa, .int 0, .ref nac, .ref nam, .ref naw, .int 0, .int 0, .int (-6), .int 0, .int 4000, .int (-6), .int (-6), .int 0, .int 0, .ref ncs, .ref nbw, .ref ndc, .ref nmk, .int 800, .int 0, .int 0, .int 0, .int 0, .int 0, .int 0, .ref npo, .int 0, .ref nta, .ref npl, .int 0, .int 0, .ref nmm, .ref ncu, .ref nke, .ref nik, .int 0, .int 0])), (ndc, .inl (cI, 14, .inl (upd (upd (upd (upd (upd (upd (upd (upd (upd (upd (upd (upd (upd (upd (upd (upd (upd (upd (upd (upd (upd (upd (upd (upd (upd (upd (upd (upd (fun _ => 0) 0 0) 1 0) 2 0) 3 0) 4 0) 5 0) 6 0) 7 0) 8 0) 9 0) 10 0) 11 0) 12 0) 13 0) 0 0) 1 0) 2 0) 3 0) 4 0) 5 0) 6 0) 7 0) 8 0) 9 0) 10 0) 11 0) 12 0) 13 0))), (nmk, .inl (cI, 61, .inl (upd (upd (fun _ => 0) 0 5000000) 0 4)))] H := hP
          replace hD : va_D A [(n, .inr (8, [.int 800, .int 0, .int 0, .int 0, .int 0, .int 0, .int 0, .ref nwi, .ref nco, .int 0, .ref nqu, .ref nmi, .ref nde, .ref nsa, .ref nsm, .int 0, .ref npa, .int 0, .ref nac, .ref nam, .ref naw, .int 0, .int 0, .int (-6), .int 0, .int 4000, .int (-6), .int (-6), .int 0, .int 0, .ref ncs, .ref nbw, .ref ndc, .ref nmk, .int 800, .int 0, .int 0, .int 0, .int 0, .int 0, .int 0, .ref npo, .int 0, .ref nta, .ref npl, .int 0, .int 0, .ref nmm, .ref ncu, .ref nke, .ref nik, .int 0, .int 0])), (ndc, .inl (cI, 14, .inl (upd (upd (upd (upd (upd (upd (upd (upd (upd (upd (upd (upd (upd (upd (upd (upd (upd (upd (upd (upd (upd (upd (upd (upd (upd (upd (upd (upd (fun _ => 0) 0 0) 1 0) 2 0) 3 0) 4 0) 5 0) 6 0) 7 0) 8 0) 9 0) 10 0) 11 0) 12 0) 13 0) 0 0) 1 0) 2 0) 3 0) 4 0) 5 0) 6 0) 7 0) 8 0) 9 0) 10 0) 11 0) 12 0) 13 0))), (nmk, .inl (cI, 61, .inl (upd (upd (fun _ => 0) 0 5000000) 0 4)))] := hD
          obtain rfl : r178 = 1 := hq178
          refine lv_i2l (v := 1) hx hb dX8_gust_176 (by decide) ?_
          refine lv_lmul hx hb dX8_gust_177 ?_
          refine lv_topl (fun x179 e179 => ?_)
          obtain rfl : x179 = 6 := e179.trans (by decide)
          refine lv_ladd hx hb dX8_gust_178 ?_
          refine lv_topl (fun x180 e180 => ?_)
          obtain rfl : x180 = 6 := e180.trans (by decide)
          refine lv_lstore (lv' := [(5, .long 6), (7, .long 6), (12, .int 1), (10, .long 6), (9, .int 0), (4, .int 1), (0, .ref n), (1, .int 4), (2, .int 0), (3, .int 0)]) hx hb dX8_gust_179 hl (by decide) rfl (fun ls hl => ?_)
          refine lv_iinc (v := 1) (lv' := [(9, .int 1), (5, .long 6), (7, .long 6), (12, .int 1), (10, .long 6), (4, .int 1), (0, .ref n), (1, .int 4), (2, .int 0), (3, .int 0)]) hx hb dX8_gust_181 hl (k := 4) rfl (by decide) (by decide) rfl (fun ls hl => ?_)
          refine lv_goto (tgt := 95) hx hb dX8_gust_184 (by decide) ?_
          refine lv_iload hx hb dX8_gust_95 (lv_at hl 0 rfl) ?_
          refine lv_iconst (v := 1) hx hb dX8_gust_97 (by decide) ?_
          refine lv_iload hx hb dX8_gust_98 (lv_at hl 5 rfl) ?_
          refine lv_ishl hx hb dX8_gust_100 ?_
          refine lv_topi (fun x181 e181 => ?_)
          obtain rfl : x181 = 2 := e181.trans (by decide)
          refine lv_icmp_ge (tgt := 187) hx hb dX8_gust_101 (by decide) (fun c182 => absurd c182 (by decide)) (fun c182 => ?_)
          refine lv_lconst (v := 1) hx hb dX8_gust_104 (by decide) ?_
          refine lv_lstore (lv' := [(10, .long 1), (9, .int 1), (5, .long 6), (7, .long 6), (12, .int 1), (4, .int 1), (0, .ref n), (1, .int 4), (2, .int 0), (3, .int 0)]) hx hb dX8_gust_105 hl (by decide) rfl (fun ls hl => ?_)
          refine lv_iconst (v := 0) hx hb dX8_gust_107 (by decide) ?_
          refine lv_istore (lv' := [(12, .int 0), (10, .long 1), (9, .int 1), (5, .long 6), (7, .long 6), (4, .int 1), (0, .ref n), (1, .int 4), (2, .int 0), (3, .int 0)]) hx hb dX8_gust_108 hl (by decide) rfl (fun ls hl => ?_)
          refine lv_iload hx hb dX8_gust_110 (lv_at hl 0 rfl) ?_
          refine lv_iload hx hb dX8_gust_112 (lv_at hl 5 rfl) ?_
          refine lv_icmp_ge (tgt := 149) hx hb dX8_gust_114 (by decide) (fun c183 => absurd c183 (by decide)) (fun c183 => ?_)
          refine lv_lload hx hb dX8_gust_117 (lv_at hl 1 rfl) ?_
          refine lv_iload hx hb dX8_gust_119 (lv_at hl 2 rfl) ?_
          refine lv_iload hx hb dX8_gust_121 (lv_at hl 0 rfl) ?_
          refine lv_ishr hx hb dX8_gust_123 ?_
          refine lv_topi (fun x184 e184 => ?_)
          obtain rfl : x184 = 1 := e184.trans (by decide)
          refine lv_iconst (v := 1) hx hb dX8_gust_124 (by decide) ?_
          refine lv_iand hx hb dX8_gust_125 ?_
          refine lv_topi (fun x185 e185 => ?_)
          obtain rfl : x185 = 1 := e185.trans (by decide)
          refine lv_iconst (v := 1) hx hb dX8_gust_126 (by decide) ?_
          refine lv_icmp_ne (tgt := 135) hx hb dX8_gust_127 (by decide) (fun c186 => absurd c186 (by decide)) (fun c186 => ?_)
          refine lv_iload_n hx hb dX8_gust_130 rfl (lv_at hl 7 rfl) ?_
          refine lv_i2l (v := 4) hx hb dX8_gust_131 (by decide) ?_
          refine lv_goto (tgt := 140) hx hb dX8_gust_132 (by decide) ?_
          refine lv_lmul hx hb dX8_gust_140 ?_
          refine lv_topl (fun x187 e187 => ?_)
          obtain rfl : x187 = 4 := e187.trans (by decide)
          refine lv_lstore (lv' := [(10, .long 4), (12, .int 0), (9, .int 1), (5, .long 6), (7, .long 6), (4, .int 1), (0, .ref n), (1, .int 4), (2, .int 0), (3, .int 0)]) hx hb dX8_gust_141 hl (by decide) rfl (fun ls hl => ?_)
          refine lv_iinc (v := 1) (lv' := [(12, .int 1), (10, .long 4), (9, .int 1), (5, .long 6), (7, .long 6), (4, .int 1), (0, .ref n), (1, .int 4), (2, .int 0), (3, .int 0)]) hx hb dX8_gust_143 hl (k := 1) rfl (by decide) (by decide) rfl (fun ls hl => ?_)
          refine lv_goto (tgt := 110) hx hb dX8_gust_146 (by decide) ?_
          refine lv_iload hx hb dX8_gust_110 (lv_at hl 0 rfl) ?_
          refine lv_iload hx hb dX8_gust_112 (lv_at hl 5 rfl) ?_
          refine lv_icmp_ge (tgt := 149) hx hb dX8_gust_114 (by decide) (fun c188 => ?_) (fun c188 => absurd c188 (by decide))
          refine lv_aload_n hx hb dX8_gust_149 rfl (lv_at hl 6 rfl) ?_
          refine lv_iload hx hb dX8_gust_150 (lv_at hl 2 rfl) ?_
          refine lv_aload_n hx hb dX8_gust_152 rfl (lv_at hl 6 rfl) ?_
          refine va_get (D := (dC, dI)) (ci := 8) (v := .int 0) (C := RX8) (T := TX8) (N := 53) hx hb hts hin8 hown hK hP 0 rfl rfl 4 (by decide) hw2 (fun _ h9 => h9) rfl dX8_gust_153 ?_
          refine lv_ishl hx hb dX8_gust_156 ?_
          refine lv_topi (fun x189 e189 => ?_)
          obtain rfl : x189 = 1 := e189.trans (by decide)
          refine va_put (D := (dC, dI)) (ci := 8) (v := .int 1) (ty := .int) (C := RX8) (T := TX8) (N := 53) hx hb hts hin8 tyX8 tyX8_ok nmX8 hown hK hP hD hS 0 rfl rfl 22 (by decide) hw3 (fun _ h9 => h9) rfl (by decide +kernel) rfl rfl (Nat.le_of_ble_eq_true rfl) dX8_gust_157 (fun H locs hP hD hS => ?_)
          replace hP : va_P (dC, dI) vwCl [(n, .inr (8, [.int 800, .int 0, .int 0, .int 0, .int 0, .int 0, .int 0, .ref nwi, .ref nco, .int 0, .ref nqu, .ref nmi, .ref nde, .ref nsa, .ref nsm, .int 0, .ref npa, .int 0, .ref nac, .ref nam, .ref naw, .int 0, .int 1, .int (-6), .int 0, .int 4000, .int (-6), .int (-6), .int 0, .int 0, .ref ncs, .ref nbw, .ref ndc, .ref nmk, .int 800, .int 0, .int 0, .int 0, .int 0, .int 0, .int 0, .ref npo, .int 0, .ref nta, .ref npl, .int 0, .int 0, .ref nmm, .ref ncu, .ref nke, .ref nik, .int 0, .int 0])), (ndc, .inl (cI, 14, .inl (upd (upd (upd (upd (upd (upd (upd (upd (upd (upd (upd (upd (upd (upd (upd (upd (upd (upd (upd (upd (upd (upd (upd (upd (upd (upd (upd (upd (fun _ => 0) 0 0) 1 0) 2 0) 3 0) 4 0) 5 0) 6 0) 7 0) 8 0) 9 0) 10 0) 11 0) 12 0) 13 0) 0 0) 1 0) 2 0) 3 0) 4 0) 5 0) 6 0) 7 0) 8 0) 9 0) 10 0) 11 0) 12 0) 13 0))), (nmk, .inl (cI, 61, .inl (upd (upd (fun _ => 0) 0 5000000) 0 4)))] H := hP
          replace hD : va_D A [(n, .inr (8, [.int 800, .int 0, .int 0, .int 0, .int 0, .int 0, .int 0, .ref nwi, .ref nco, .int 0, .ref nqu, .ref nmi, .ref nde, .ref nsa, .ref nsm, .int 0, .ref npa, .int 0, .ref nac, .ref nam, .ref naw, .int 0, .int 1, .int (-6), .int 0, .int 4000, .int (-6), .int (-6), .int 0, .int 0, .ref ncs, .ref nbw, .ref ndc, .ref nmk, .int 800, .int 0, .int 0, .int 0, .int 0, .int 0, .int 0, .ref npo, .int 0, .ref nta, .ref npl, .int 0, .int 0, .ref nmm, .ref ncu, .ref nke, .ref nik, .int 0, .int 0])), (ndc, .inl (cI, 14, .inl (upd (upd (upd (upd (upd (upd (upd (upd (upd (upd (upd (upd (upd (upd (upd (upd (upd (upd (upd (upd (upd (upd (upd (upd (upd (upd (upd (upd (fun _ => 0) 0 0) 1 0) 2 0) 3 0) 4 0) 5 0) 6 0) 7 0) 8 0) 9 0) 10 0) 11 0) 12 0) 13 0) 0 0) 1 0) 2 0) 3 0) 4 0) 5 0) 6 0) 7 0) 8 0) 9 0) 10 0) 11 0) 12 0) 13 0))), (nmk, .inl (cI, 61, .inl (upd (upd (fun _ => 0) 0 5000000) 0 4)))] := hD
          refine lv_lload hx hb dX8_gust_160 (lv_at hl 4 rfl) ?_
          refine lv_lload hx hb dX8_gust_162 (lv_at hl 1 rfl) ?_
          refine lv_ladd hx hb dX8_gust_164 ?_
          refine lv_topl (fun x190 e190 => ?_)
          obtain rfl : x190 = 10 := e190.trans (by decide)
          refine lv_lstore (lv' := [(7, .long 10), (12, .int 1), (10, .long 4), (9, .int 1), (5, .long 6), (4, .int 1), (0, .ref n), (1, .int 4), (2, .int 0), (3, .int 0)]) hx hb dX8_gust_165 hl (by decide) rfl (fun ls hl => ?_)
          refine lv_lload hx hb dX8_gust_167 (lv_at hl 4 rfl) ?_
          refine lv_lload hx hb dX8_gust_169 (lv_at hl 2 rfl) ?_
          refine lv_aload_n hx hb dX8_gust_171 rfl (lv_at hl 6 rfl) ?_
          refine lv_iload_n hx hb dX8_gust_172 rfl (lv_at hl 8 rfl) ?_
          refine mx_i (wr := []) (va_runV (As := [.int 0]) (rest := [.long 4, .long 6]) ⟨hx, hb, hml, hown, hts⟩ (c_X8_worthOfGusts_0 l dC dI cI cZ cK tS aK aV n nwi nco nqu nmi nde nsa nsm npa nac nam naw ncs nbw ndc nmk npo nta npl nmm ncu nke nik 0 0 0 0 0 0 0 0 0 1 (-6) 0 4000 (-6) (-6) 0 0 800 0 0 0 0 0 0 0 0 0 0 0 (upd (upd (upd (upd (upd (upd (upd (upd (upd (upd (upd (upd (upd (upd (upd (upd (upd (upd (upd (upd (upd (upd (upd (upd (upd (upd (upd (upd (fun _ => 0) 0 0) 1 0) 2 0) 3 0) 4 0) 5 0) 6 0) 7 0) 8 0) 9 0) 10 0) 11 0) 12 0) 13 0) 0 0) 1 0) 2 0) 3 0) 4 0) 5 0) 6 0) 7 0) 8 0) 9 0) 10 0) 11 0) 12 0) 13 0) (upd (upd (fun _ => 0) 0 5000000) 0 4) H.size) (cwV 1 hts (gw_v (fun _ h9 => List.mem_cons_of_mem _ h9) wm_524 wm_525 wm_526 wm_385 wm_527) rfl rfl rfl (by decide +kernel) ⟨Nat.le_of_ble_eq_true rfl, Nat.le_of_ble_eq_true rfl⟩) (mx_preV (C := RX8) (T := TX8) (N := 53) (ci := 8) hKx hP hD hS hA [0, 1, 2] (by decide) rfl rfl rfl) rfl rfl hl.1 rfl (lv_room (Nat.le_of_ble_eq_true rfl)) dX8_gust_173 ⟨Nat.le_of_ble_eq_true rfl, Nat.le_of_ble_eq_true rfl⟩) hP hD hS hA [0, 1, 2] [] rfl rfl (by decide) (by decide) (fun r191 u191 H locs hq191 hP hD hS => ?_)
          replace hP : va_P (dC, dI) vwCl [(n, .inr (8, [.int 800, .int 0, .int 0, .int 0, .int 0, .int 0, .int 0, .ref nwi, .ref nco, .int 0, .ref nqu, .ref nmi, .ref nde, .ref nsa, .ref nsm, .int 0, .ref npa, .int 0, .ref nac, .ref nam, .ref naw, .int 0, .int 1, .int (-6), .int 0, .int 4000, .int (-6), .int (-6), .int 0, .int 0, .ref ncs, .ref nbw, .ref ndc, .ref nmk, .int 800, .int 0, .int 0, .int 0, .int 0, .int 0, .int 0, .ref npo, .int 0, .ref nta, .ref npl, .int 0, .int 0, .ref nmm, .ref ncu, .ref nke, .ref nik, .int 0, .int 0])), (ndc, .inl (cI, 14, .inl (upd (upd (upd (upd (upd (upd (upd (upd (upd (upd (upd (upd (upd (upd (upd (upd (upd (upd (upd (upd (upd (upd (upd (upd (upd (upd (upd (upd (upd (upd (upd (upd (upd (upd (upd (upd (upd (upd (upd (upd (upd (upd (fun _ => 0) 0 0) 1 0) 2 0) 3 0) 4 0) 5 0) 6 0) 7 0) 8 0) 9 0) 10 0) 11 0) 12 0) 13 0) 0 0) 1 0) 2 0) 3 0) 4 0) 5 0) 6 0) 7 0) 8 0) 9 0) 10 0) 11 0) 12 0) 13 0) 0 0) 1 0) 2 0) 3 0) 4 0) 5 0) 6 0) 7 0) 8 0) 9 0) 10 0) 11 0) 12 0) 13 0))), (nmk, .inl (cI, 61, .inl (upd (upd (upd (fun _ => 0) 0 5000000) 0 4) 0 4)))] H := hP
          replace hD : va_D A [(n, .inr (8, [.int 800, .int 0, .int 0, .int 0, .int 0, .int 0, .int 0, .ref nwi, .ref nco, .int 0, .ref nqu, .ref nmi, .ref nde, .ref nsa, .ref nsm, .int 0, .ref npa, .int 0, .ref nac, .ref nam, .ref naw, .int 0, .int 1, .int (-6), .int 0, .int 4000, .int (-6), .int (-6), .int 0, .int 0, .ref ncs, .ref nbw, .ref ndc, .ref nmk, .int 800, .int 0, .int 0, .int 0, .int 0, .int 0, .int 0, .ref npo, .int 0, .ref nta, .ref npl, .int 0, .int 0, .ref nmm, .ref ncu, .ref nke, .ref nik, .int 0, .int 0])), (ndc, .inl (cI, 14, .inl (upd (upd (upd (upd (upd (upd (upd (upd (upd (upd (upd (upd (upd (upd (upd (upd (upd (upd (upd (upd (upd (upd (upd (upd (upd (upd (upd (upd (upd (upd (upd (upd (upd (upd (upd (upd (upd (upd (upd (upd (upd (upd (fun _ => 0) 0 0) 1 0) 2 0) 3 0) 4 0) 5 0) 6 0) 7 0) 8 0) 9 0) 10 0) 11 0) 12 0) 13 0) 0 0) 1 0) 2 0) 3 0) 4 0) 5 0) 6 0) 7 0) 8 0) 9 0) 10 0) 11 0) 12 0) 13 0) 0 0) 1 0) 2 0) 3 0) 4 0) 5 0) 6 0) 7 0) 8 0) 9 0) 10 0) 11 0) 12 0) 13 0))), (nmk, .inl (cI, 61, .inl (upd (upd (upd (fun _ => 0) 0 5000000) 0 4) 0 4)))] := hD
          obtain rfl : r191 = 1 := hq191
          refine lv_i2l (v := 1) hx hb dX8_gust_176 (by decide) ?_
          refine lv_lmul hx hb dX8_gust_177 ?_
          refine lv_topl (fun x192 e192 => ?_)
          obtain rfl : x192 = 4 := e192.trans (by decide)
          refine lv_ladd hx hb dX8_gust_178 ?_
          refine lv_topl (fun x193 e193 => ?_)
          obtain rfl : x193 = 10 := e193.trans (by decide)
          refine lv_lstore (lv' := [(5, .long 10), (7, .long 10), (12, .int 1), (10, .long 4), (9, .int 1), (4, .int 1), (0, .ref n), (1, .int 4), (2, .int 0), (3, .int 0)]) hx hb dX8_gust_179 hl (by decide) rfl (fun ls hl => ?_)
          refine lv_iinc (v := 2) (lv' := [(9, .int 2), (5, .long 10), (7, .long 10), (12, .int 1), (10, .long 4), (4, .int 1), (0, .ref n), (1, .int 4), (2, .int 0), (3, .int 0)]) hx hb dX8_gust_181 hl (k := 4) rfl (by decide) (by decide) rfl (fun ls hl => ?_)
          refine lv_goto (tgt := 95) hx hb dX8_gust_184 (by decide) ?_
          refine lv_iload hx hb dX8_gust_95 (lv_at hl 0 rfl) ?_
          refine lv_iconst (v := 1) hx hb dX8_gust_97 (by decide) ?_
          refine lv_iload hx hb dX8_gust_98 (lv_at hl 5 rfl) ?_
          refine lv_ishl hx hb dX8_gust_100 ?_
          refine lv_topi (fun x194 e194 => ?_)
          obtain rfl : x194 = 2 := e194.trans (by decide)
          refine lv_icmp_ge (tgt := 187) hx hb dX8_gust_101 (by decide) (fun c195 => ?_) (fun c195 => absurd c195 (by decide))
          refine lv_aload_n hx hb dX8_gust_187 rfl (lv_at hl 6 rfl) ?_
          refine lv_iconst (v := 0) hx hb dX8_gust_188 (by decide) ?_
          refine va_put (D := (dC, dI)) (ci := 8) (v := .int 0) (ty := .int) (C := RX8) (T := TX8) (N := 53) hx hb hts hin8 tyX8 tyX8_ok nmX8 hown hK hP hD hS 0 rfl rfl 22 (by decide) hw3 (fun _ h9 => h9) rfl (by decide +kernel) rfl rfl (Nat.le_of_ble_eq_true rfl) dX8_gust_189 (fun H locs hP hD hS => ?_)
          replace hP : va_P (dC, dI) vwCl [(n, .inr (8, [.int 800, .int 0, .int 0, .int 0, .int 0, .int 0, .int 0, .ref nwi, .ref nco, .int 0, .ref nqu, .ref nmi, .ref nde, .ref nsa, .ref nsm, .int 0, .ref npa, .int 0, .ref nac, .ref nam, .ref naw, .int 0, .int 0, .int (-6), .int 0, .int 4000, .int (-6), .int (-6), .int 0, .int 0, .ref ncs, .ref nbw, .ref ndc, .ref nmk, .int 800, .int 0, .int 0, .int 0, .int 0, .int 0, .int 0, .ref npo, .int 0, .ref nta, .ref npl, .int 0, .int 0, .ref nmm, .ref ncu, .ref nke, .ref nik, .int 0, .int 0])), (ndc, .inl (cI, 14, .inl (upd (upd (upd (upd (upd (upd (upd (upd (upd (upd (upd (upd (upd (upd (upd (upd (upd (upd (upd (upd (upd (upd (upd (upd (upd (upd (upd (upd (upd (upd (upd (upd (upd (upd (upd (upd (upd (upd (upd (upd (upd (upd (fun _ => 0) 0 0) 1 0) 2 0) 3 0) 4 0) 5 0) 6 0) 7 0) 8 0) 9 0) 10 0) 11 0) 12 0) 13 0) 0 0) 1 0) 2 0) 3 0) 4 0) 5 0) 6 0) 7 0) 8 0) 9 0) 10 0) 11 0) 12 0) 13 0) 0 0) 1 0) 2 0) 3 0) 4 0) 5 0) 6 0) 7 0) 8 0) 9 0) 10 0) 11 0) 12 0) 13 0))), (nmk, .inl (cI, 61, .inl (upd (upd (upd (fun _ => 0) 0 5000000) 0 4) 0 4)))] H := hP
          replace hD : va_D A [(n, .inr (8, [.int 800, .int 0, .int 0, .int 0, .int 0, .int 0, .int 0, .ref nwi, .ref nco, .int 0, .ref nqu, .ref nmi, .ref nde, .ref nsa, .ref nsm, .int 0, .ref npa, .int 0, .ref nac, .ref nam, .ref naw, .int 0, .int 0, .int (-6), .int 0, .int 4000, .int (-6), .int (-6), .int 0, .int 0, .ref ncs, .ref nbw, .ref ndc, .ref nmk, .int 800, .int 0, .int 0, .int 0, .int 0, .int 0, .int 0, .ref npo, .int 0, .ref nta, .ref npl, .int 0, .int 0, .ref nmm, .ref ncu, .ref nke, .ref nik, .int 0, .int 0])), (ndc, .inl (cI, 14, .inl (upd (upd (upd (upd (upd (upd (upd (upd (upd (upd (upd (upd (upd (upd (upd (upd (upd (upd (upd (upd (upd (upd (upd (upd (upd (upd (upd (upd (upd (upd (upd (upd (upd (upd (upd (upd (upd (upd (upd (upd (upd (upd (fun _ => 0) 0 0) 1 0) 2 0) 3 0) 4 0) 5 0) 6 0) 7 0) 8 0) 9 0) 10 0) 11 0) 12 0) 13 0) 0 0) 1 0) 2 0) 3 0) 4 0) 5 0) 6 0) 7 0) 8 0) 9 0) 10 0) 11 0) 12 0) 13 0) 0 0) 1 0) 2 0) 3 0) 4 0) 5 0) 6 0) 7 0) 8 0) 9 0) 10 0) 11 0) 12 0) 13 0))), (nmk, .inl (cI, 61, .inl (upd (upd (upd (fun _ => 0) 0 5000000) 0 4) 0 4)))] := hD
          refine lv_lload hx hb dX8_gust_192 (lv_at hl 1 rfl) ?_
          refine lv_lload hx hb dX8_gust_194 (lv_at hl 2 rfl) ?_
          refine lv_iload_n hx hb dX8_gust_196 rfl (lv_at hl 9 rfl) ?_
          refine mx_l (wr := [(n, .inr (8, [.int 800, .int 0, .int 0, .int 0, .int 0, .int 0, .int 0, .ref nwi, .ref nco, .int 0, .ref nqu, .ref nmi, .ref nde, .ref nsa, .ref nsm, .int 0, .ref npa, .int 0, .ref nac, .ref nam, .ref naw, .int 0, .int 0, .int (-6), .int 0, .int 4000, .int (-6), .int (-6), .int 0, .int 0, .ref ncs, .ref nbw, .ref ndc, .ref nmk, .int 800, .int 0, .int 0, .int 0, .int 0, .int 0, .int 0, .ref npo, .int 0, .ref nta, .ref npl, .int 0, .int 0, .ref nmm, .ref ncu, .ref nke, .ref nik, .int 0, .int 0])), (ndc, .inl (cI, 14, .inl (upd (upd (upd (upd (upd (upd (upd (upd (upd (upd (upd (upd (upd (upd (upd (upd (upd (upd (upd (upd (upd (upd (upd (upd (upd (upd (upd (upd (upd (upd (upd (upd (upd (upd (upd (upd (upd (upd (upd (upd (upd (upd (fun _ => 0) 0 0) 1 0) 2 0) 3 0) 4 0) 5 0) 6 0) 7 0) 8 0) 9 0) 10 0) 11 0) 12 0) 13 0) 0 0) 1 0) 2 0) 3 0) 4 0) 5 0) 6 0) 7 0) 8 0) 9 0) 10 0) 11 0) 12 0) 13 0) 0 0) 1 0) 2 0) 3 0) 4 0) 5 0) 6 0) 7 0) 8 0) 9 0) 10 0) 11 0) 12 0) 13 0))), (nmk, .inl (cI, 61, .inl (upd (upd (upd (fun _ => 0) 0 5000000) 0 4) 0 4)))]) (va_runS (As := [.long 10, .long 10, .int 0]) (rest := []) ⟨hx, hb, hml, hown, hts⟩ (c_X8_lowest_10_0 l dC dI cI cZ cK tS aK aV  H.size) (va_cwS 3 hts (gw_s (fun _ h9 => List.mem_cons_of_mem _ h9) wm_528 wm_529 wm_385 wm_530) rfl rfl rfl (by decide +kernel) ⟨Nat.le_of_ble_eq_true rfl, Nat.le_of_ble_eq_true rfl⟩) (mx_preS hKx hP hD hS hA [] (by decide) rfl) rfl rfl hl.1 rfl (lv_room (Nat.le_of_ble_eq_true rfl)) dX8_gust_197 ⟨Nat.le_of_ble_eq_true rfl, Nat.le_of_ble_eq_true rfl⟩) hP hD hS hA [] [0, 1, 2] rfl rfl (by decide) (by decide) (fun r196 u196 H locs hq196 hP hD hS => ?_)
          replace hP : va_P (dC, dI) vwCl [(n, .inr (8, [.int 800, .int 0, .int 0, .int 0, .int 0, .int 0, .int 0, .ref nwi, .ref nco, .int 0, .ref nqu, .ref nmi, .ref nde, .ref nsa, .ref nsm, .int 0, .ref npa, .int 0, .ref nac, .ref nam, .ref naw, .int 0, .int 0, .int (-6), .int 0, .int 4000, .int (-6), .int (-6), .int 0, .int 0, .ref ncs, .ref nbw, .ref ndc, .ref nmk, .int 800, .int 0, .int 0, .int 0, .int 0, .int 0, .int 0, .ref npo, .int 0, .ref nta, .ref npl, .int 0, .int 0, .ref nmm, .ref ncu, .ref nke, .ref nik, .int 0, .int 0])), (ndc, .inl (cI, 14, .inl (upd (upd (upd (upd (upd (upd (upd (upd (upd (upd (upd (upd (upd (upd (upd (upd (upd (upd (upd (upd (upd (upd (upd (upd (upd (upd (upd (upd (upd (upd (upd (upd (upd (upd (upd (upd (upd (upd (upd (upd (upd (upd (fun _ => 0) 0 0) 1 0) 2 0) 3 0) 4 0) 5 0) 6 0) 7 0) 8 0) 9 0) 10 0) 11 0) 12 0) 13 0) 0 0) 1 0) 2 0) 3 0) 4 0) 5 0) 6 0) 7 0) 8 0) 9 0) 10 0) 11 0) 12 0) 13 0) 0 0) 1 0) 2 0) 3 0) 4 0) 5 0) 6 0) 7 0) 8 0) 9 0) 10 0) 11 0) 12 0) 13 0))), (nmk, .inl (cI, 61, .inl (upd (upd (upd (fun _ => 0) 0 5000000) 0 4) 0 4)))] H := hP
          replace hD : va_D A [(n, .inr (8, [.int 800, .int 0, .int 0, .int 0, .int 0, .int 0, .int 0, .ref nwi, .ref nco, .int 0, .ref nqu, .ref nmi, .ref nde, .ref nsa, .ref nsm, .int 0, .ref npa, .int 0, .ref nac, .ref nam, .ref naw, .int 0, .int 0, .int (-6), .int 0, .int 4000, .int (-6), .int (-6), .int 0, .int 0, .ref ncs, .ref nbw, .ref ndc, .ref nmk, .int 800, .int 0, .int 0, .int 0, .int 0, .int 0, .int 0, .ref npo, .int 0, .ref nta, .ref npl, .int 0, .int 0, .ref nmm, .ref ncu, .ref nke, .ref nik, .int 0, .int 0])), (ndc, .inl (cI, 14, .inl (upd (upd (upd (upd (upd (upd (upd (upd (upd (upd (upd (upd (upd (upd (upd (upd (upd (upd (upd (upd (upd (upd (upd (upd (upd (upd (upd (upd (upd (upd (upd (upd (upd (upd (upd (upd (upd (upd (upd (upd (upd (upd (fun _ => 0) 0 0) 1 0) 2 0) 3 0) 4 0) 5 0) 6 0) 7 0) 8 0) 9 0) 10 0) 11 0) 12 0) 13 0) 0 0) 1 0) 2 0) 3 0) 4 0) 5 0) 6 0) 7 0) 8 0) 9 0) 10 0) 11 0) 12 0) 13 0) 0 0) 1 0) 2 0) 3 0) 4 0) 5 0) 6 0) 7 0) 8 0) 9 0) 10 0) 11 0) 12 0) 13 0))), (nmk, .inl (cI, 61, .inl (upd (upd (upd (fun _ => 0) 0 5000000) 0 4) 0 4)))] := hD
          obtain rfl : r196 = 1 := hq196
          have hP9 := mx_subP (wc := []) hP [] rfl
          have hD9 := hD.sub (ws' := []) [] (by decide) rfl
          exact W.lret (v := 1) hx hb hr (fun t ht hW => ⟨⟨1, (), rfl, rfl, by rw [ht]; exact hP9, hD9⟩, hS.F ht⟩) hS.2.2 dX8_gust_200
        · have z9 : (5 : Int32).toInt = 5 := rfl
          refine lv_aload_n hx hb dX8_gust_36 rfl (lv_at hl 0 rfl) ?_
          refine mx_i (wr := [(ndc, .inl (cI, 14, .inl (fun _ => 0))), (nmk, .inl (cI, 61, .inl (fun _ => 0)))]) (va_runV (As := []) (rest := []) ⟨hx, hb, hml, hown, hts⟩ (c_X8_faultIn l dC dI cI cZ cK tS aK aV n nwi nco nqu nmi nde nsa nsm npa nac nam naw ncs nbw ndc nmk npo nta npl nmm ncu nke nik 800 0 0 0 0 0 0 0 0 0 0 0 0 0 0 0 0 0 0 0 0 0 0 0 0 0 0 0 0 0 H.size) (cwV 0 hts (gw_v (fun _ h9 => List.mem_cons_of_mem _ h9) wm_453 wm_454 wm_455 wm_385 wm_456) rfl rfl rfl (by decide +kernel) ⟨Nat.le_of_ble_eq_true rfl, Nat.le_of_ble_eq_true rfl⟩) (mx_preV (C := RX8) (T := TX8) (N := 53) (ci := 8) hKx hP hD hS hA [0] (by decide) rfl rfl rfl) rfl rfl hl.1 rfl (lv_room (Nat.le_of_ble_eq_true rfl)) dX8_gust_37 ⟨Nat.le_of_ble_eq_true rfl, Nat.le_of_ble_eq_true rfl⟩) hP hD hS hA [0] [1, 2] rfl rfl (by decide) (by decide) (fun r197 u197 H locs hq197 hP hD hS => ?_)
          replace hP : va_P (dC, dI) vwCl [(ndc, .inl (cI, 14, .inl (fun _ => 0))), (nmk, .inl (cI, 61, .inl (fun _ => 0))), (n, .inr (8, [.int 800, .int 0, .int 0, .int 0, .int 0, .int 0, .int 0, .ref nwi, .ref nco, .int 0, .ref nqu, .ref nmi, .ref nde, .ref nsa, .ref nsm, .int 0, .ref npa, .int 0, .ref nac, .ref nam, .ref naw, .int 0, .int 0, .int 0, .int 0, .int 0, .int 0, .int 0, .int 0, .int 0, .ref ncs, .ref nbw, .ref ndc, .ref nmk, .int 0, .int 0, .int 0, .int 0, .int 0, .int 0, .int 0, .ref npo, .int 0, .ref nta, .ref npl, .int 0, .int 0, .ref nmm, .ref ncu, .ref nke, .ref nik, .int 0, .int 0]))] H := hP
          replace hD : va_D A [(ndc, .inl (cI, 14, .inl (fun _ => 0))), (nmk, .inl (cI, 61, .inl (fun _ => 0))), (n, .inr (8, [.int 800, .int 0, .int 0, .int 0, .int 0, .int 0, .int 0, .ref nwi, .ref nco, .int 0, .ref nqu, .ref nmi, .ref nde, .ref nsa, .ref nsm, .int 0, .ref npa, .int 0, .ref nac, .ref nam, .ref naw, .int 0, .int 0, .int 0, .int 0, .int 0, .int 0, .int 0, .int 0, .int 0, .ref ncs, .ref nbw, .ref ndc, .ref nmk, .int 0, .int 0, .int 0, .int 0, .int 0, .int 0, .int 0, .ref npo, .int 0, .ref nta, .ref npl, .int 0, .int 0, .ref nmm, .ref ncu, .ref nke, .ref nik, .int 0, .int 0]))] := hD
          obtain rfl : r197 = (-6) := hq197
          refine lv_if_lt (tgt := 47) hx hb dX8_gust_40 (by decide) (fun c198 => ?_) (fun c198 => absurd c198 (by decide))
          refine lv_aload_n hx hb dX8_gust_47 rfl (lv_at hl 0 rfl) ?_
          refine mx_v (wr := [(ndc, .inl (cI, 14, .inl (fun _ => 0))), (nmk, .inl (cI, 61, .inl (fun _ => 0)))]) (va_runV (As := []) (rest := []) ⟨hx, hb, hml, hown, hts⟩ (c_X8_keepNow l dC dI cI cZ cK tS aK aV n nwi nco nqu nmi nde nsa nsm npa nac nam naw ncs nbw ndc nmk npo nta npl nmm ncu nke nik 800 0 0 0 0 0 0 0 0 0 0 0 0 0 0 0 0 0 0 0 0 0 0 0 0 0 0 0 0 0 0 H.size) (cwV 0 hts (gw_v (fun _ h9 => List.mem_cons_of_mem _ h9) wm_457 wm_458 wm_459 wm_385 wm_460) rfl rfl rfl (by decide +kernel) ⟨Nat.le_of_ble_eq_true rfl, Nat.le_of_ble_eq_true rfl⟩) (mx_preV (C := RX8) (T := TX8) (N := 53) (ci := 8) hKx hP hD hS hA [2] (by decide) rfl rfl rfl) rfl rfl hl.1 rfl (lv_room (Nat.le_of_ble_eq_true rfl)) dX8_gust_48 ⟨Nat.le_of_ble_eq_true rfl, Nat.le_of_ble_eq_true rfl⟩) hP hD hS hA [2] [0, 1] rfl rfl (by decide) (by decide) (fun u199 H locs hq199 hP hD hS => ?_)
          replace hP : va_P (dC, dI) vwCl [(ndc, .inl (cI, 14, .inl (fun _ => 0))), (nmk, .inl (cI, 61, .inl (fun _ => 0))), (n, .inr (8, [.int 800, .int 0, .int 0, .int 0, .int 0, .int 0, .int 0, .ref nwi, .ref nco, .int 0, .ref nqu, .ref nmi, .ref nde, .ref nsa, .ref nsm, .int 0, .ref npa, .int 0, .ref nac, .ref nam, .ref naw, .int 0, .int 0, .int (-6), .int 0, .int 4000, .int 0, .int 0, .int 0, .int 0, .ref ncs, .ref nbw, .ref ndc, .ref nmk, .int 800, .int 0, .int 0, .int 0, .int 0, .int 0, .int 0, .ref npo, .int 0, .ref nta, .ref npl, .int 0, .int 0, .ref nmm, .ref ncu, .ref nke, .ref nik, .int 0, .int 0]))] H := hP
          replace hD : va_D A [(ndc, .inl (cI, 14, .inl (fun _ => 0))), (nmk, .inl (cI, 61, .inl (fun _ => 0))), (n, .inr (8, [.int 800, .int 0, .int 0, .int 0, .int 0, .int 0, .int 0, .ref nwi, .ref nco, .int 0, .ref nqu, .ref nmi, .ref nde, .ref nsa, .ref nsm, .int 0, .ref npa, .int 0, .ref nac, .ref nam, .ref naw, .int 0, .int 0, .int (-6), .int 0, .int 4000, .int 0, .int 0, .int 0, .int 0, .ref ncs, .ref nbw, .ref ndc, .ref nmk, .int 800, .int 0, .int 0, .int 0, .int 0, .int 0, .int 0, .ref npo, .int 0, .ref nta, .ref npl, .int 0, .int 0, .ref nmm, .ref ncu, .ref nke, .ref nik, .int 0, .int 0]))] := hD
          refine lv_aload_n hx hb dX8_gust_51 rfl (lv_at hl 0 rfl) ?_
          refine mx_i (wr := []) (va_runV (As := []) (rest := []) ⟨hx, hb, hml, hown, hts⟩ (c_X8_canWithoutEnd l dC dI cI cZ cK tS aK aV n nwi nco nqu nmi nde nsa nsm npa nac nam naw ncs nbw ndc nmk npo nta npl nmm ncu nke nik 800 0 0 0 0 0 0 0 0 0 0 (-6) 0 4000 0 0 0 0 800 0 0 0 0 0 0 0 0 0 0 0 (fun _ => 0) (fun _ => 0) H.size) (cwV 0 hts (gw_v (fun _ h9 => List.mem_cons_of_mem _ h9) wm_519 wm_520 wm_521 wm_385 wm_522) rfl rfl rfl (by decide +kernel) ⟨Nat.le_of_ble_eq_true rfl, Nat.le_of_ble_eq_true rfl⟩) (mx_preV (C := RX8) (T := TX8) (N := 53) (ci := 8) hKx hP hD hS hA [2, 0, 1] (by decide) rfl rfl rfl) rfl rfl hl.1 rfl (lv_room (Nat.le_of_ble_eq_true rfl)) dX8_gust_52 ⟨Nat.le_of_ble_eq_true rfl, Nat.le_of_ble_eq_true rfl⟩) hP hD hS hA [2, 0, 1] [] rfl rfl (by decide) (by decide) (fun r200 u200 H locs hq200 hP hD hS => ?_)
          replace hP : va_P (dC, dI) vwCl [(n, .inr (8, [.int 800, .int 0, .int 0, .int 0, .int 0, .int 0, .int 0, .ref nwi, .ref nco, .int 0, .ref nqu, .ref nmi, .ref nde, .ref nsa, .ref nsm, .int 0, .ref npa, .int 0, .ref nac, .ref nam, .ref naw, .int 0, .int 0, .int (-6), .int 0, .int 4000, .int (-6), .int (-6), .int 0, .int 0, .ref ncs, .ref nbw, .ref ndc, .ref nmk, .int 800, .int 0, .int 0, .int 0, .int 0, .int 0, .int 0, .ref npo, .int 0, .ref nta, .ref npl, .int 0, .int 0, .ref nmm, .ref ncu, .ref nke, .ref nik, .int 0, .int 0])), (ndc, .inl (cI, 14, .inl (upd (upd (upd (upd (upd (upd (upd (upd (upd (upd (upd (upd (upd (upd (fun _ => 0) 0 0) 1 0) 2 0) 3 0) 4 0) 5 0) 6 0) 7 0) 8 0) 9 0) 10 0) 11 0) 12 0) 13 0))), (nmk, .inl (cI, 61, .inl (upd (fun _ => 0) 0 5000000)))] H := hP
          replace hD : va_D A [(n, .inr (8, [.int 800, .int 0, .int 0, .int 0, .int 0, .int 0, .int 0, .ref nwi, .ref nco, .int 0, .ref nqu, .ref nmi, .ref nde, .ref nsa, .ref nsm, .int 0, .ref npa, .int 0, .ref nac, .ref nam, .ref naw, .int 0, .int 0, .int (-6), .int 0, .int 4000, .int (-6), .int (-6), .int 0, .int 0, .ref ncs, .ref nbw, .ref ndc, .ref nmk, .int 800, .int 0, .int 0, .int 0, .int 0, .int 0, .int 0, .ref npo, .int 0, .ref nta, .ref npl, .int 0, .int 0, .ref nmm, .ref ncu, .ref nke, .ref nik, .int 0, .int 0])), (ndc, .inl (cI, 14, .inl (upd (upd (upd (upd (upd (upd (upd (upd (upd (upd (upd (upd (upd (upd (fun _ => 0) 0 0) 1 0) 2 0) 3 0) 4 0) 5 0) 6 0) 7 0) 8 0) 9 0) 10 0) 11 0) 12 0) 13 0))), (nmk, .inl (cI, 61, .inl (upd (fun _ => 0) 0 5000000)))] := hD
          obtain rfl : r200 = 1 := hq200
          refine lv_if_ne (tgt := 62) hx hb dX8_gust_55 (by decide) (fun c201 => ?_) (fun c201 => absurd c201 (by decide))
          refine lv_aload_n hx hb dX8_gust_62 rfl (lv_at hl 0 rfl) ?_
          refine va_get (D := (dC, dI)) (ci := 8) (v := .int 0) (C := RX8) (T := TX8) (N := 53) hx hb hts hin8 hown hK hP 0 rfl rfl 39 (by decide) hw1 (fun _ h9 => h9) rfl dX8_gust_63 ?_
          refine lv_aload_n hx hb dX8_gust_66 rfl (lv_at hl 0 rfl) ?_
          refine va_get (D := (dC, dI)) (ci := 8) (v := .int 0) (C := RX8) (T := TX8) (N := 53) hx hb hts hin8 hown hK hP 0 rfl rfl 4 (by decide) hw2 (fun _ h9 => h9) rfl dX8_gust_67 ?_
          refine lv_isub hx hb dX8_gust_70 ?_
          refine lv_topi (fun x202 e202 => ?_)
          obtain rfl : x202 = 0 := e202.trans (by decide)
          refine lv_iconst (v := 1) hx hb dX8_gust_71 (by decide) ?_
          refine lv_iadd hx hb dX8_gust_72 ?_
          refine lv_topi (fun x203 e203 => ?_)
          obtain rfl : x203 = 1 := e203.trans (by decide)
          refine lv_istore (lv' := [(4, .int 1), (0, .ref n), (1, .int 5), (2, .int 0), (3, .int 0)]) hx hb dX8_gust_73 hl (by decide) rfl (fun ls hl => ?_)
          refine lv_iload hx hb dX8_gust_75 (lv_at hl 0 rfl) ?_
          refine lv_bipush (v := 8) hx hb dX8_gust_77 (by decide) ?_
          refine lv_icmp_le (tgt := 86) hx hb dX8_gust_79 (by decide) (fun c204 => ?_) (fun c204 => absurd c204 (by decide))
          refine lv_lconst (v := 0) hx hb dX8_gust_86 (by decide) ?_
          refine lv_lstore (lv' := [(5, .long 0), (4, .int 1), (0, .ref n), (1, .int 5), (2, .int 0), (3, .int 0)]) hx hb dX8_gust_87 hl (by decide) rfl (fun ls hl => ?_)
          refine lv_lconst (v := 0) hx hb dX8_gust_89 (by decide) ?_
          refine lv_lstore (lv' := [(7, .long 0), (5, .long 0), (4, .int 1), (0, .ref n), (1, .int 5), (2, .int 0), (3, .int 0)]) hx hb dX8_gust_90 hl (by decide) rfl (fun ls hl => ?_)
          refine lv_iconst (v := 0) hx hb dX8_gust_92 (by decide) ?_
          refine lv_istore (lv' := [(9, .int 0), (7, .long 0), (5, .long 0), (4, .int 1), (0, .ref n), (1, .int 5), (2, .int 0), (3, .int 0)]) hx hb dX8_gust_93 hl (by decide) rfl (fun ls hl => ?_)
          refine lv_iload hx hb dX8_gust_95 (lv_at hl 0 rfl) ?_
          refine lv_iconst (v := 1) hx hb dX8_gust_97 (by decide) ?_
          refine lv_iload hx hb dX8_gust_98 (lv_at hl 3 rfl) ?_
          refine lv_ishl hx hb dX8_gust_100 ?_
          refine lv_topi (fun x205 e205 => ?_)
          obtain rfl : x205 = 2 := e205.trans (by decide)
          refine lv_icmp_ge (tgt := 187) hx hb dX8_gust_101 (by decide) (fun c206 => absurd c206 (by decide)) (fun c206 => ?_)
          refine lv_lconst (v := 1) hx hb dX8_gust_104 (by decide) ?_
          refine lv_lstore (lv' := [(10, .long 1), (9, .int 0), (7, .long 0), (5, .long 0), (4, .int 1), (0, .ref n), (1, .int 5), (2, .int 0), (3, .int 0)]) hx hb dX8_gust_105 hl (by decide) rfl (fun ls hl => ?_)
          refine lv_iconst (v := 0) hx hb dX8_gust_107 (by decide) ?_
          refine lv_istore (lv' := [(12, .int 0), (10, .long 1), (9, .int 0), (7, .long 0), (5, .long 0), (4, .int 1), (0, .ref n), (1, .int 5), (2, .int 0), (3, .int 0)]) hx hb dX8_gust_108 hl (by decide) rfl (fun ls hl => ?_)
          refine lv_iload hx hb dX8_gust_110 (lv_at hl 0 rfl) ?_
          refine lv_iload hx hb dX8_gust_112 (lv_at hl 5 rfl) ?_
          refine lv_icmp_ge (tgt := 149) hx hb dX8_gust_114 (by decide) (fun c207 => absurd c207 (by decide)) (fun c207 => ?_)
          refine lv_lload hx hb dX8_gust_117 (lv_at hl 1 rfl) ?_
          refine lv_iload hx hb dX8_gust_119 (lv_at hl 2 rfl) ?_
          refine lv_iload hx hb dX8_gust_121 (lv_at hl 0 rfl) ?_
          refine lv_ishr hx hb dX8_gust_123 ?_
          refine lv_topi (fun x208 e208 => ?_)
          obtain rfl : x208 = 0 := e208.trans (by decide)
          refine lv_iconst (v := 1) hx hb dX8_gust_124 (by decide) ?_
          refine lv_iand hx hb dX8_gust_125 ?_
          refine lv_topi (fun x209 e209 => ?_)
          obtain rfl : x209 = 0 := e209.trans (by decide)
          refine lv_iconst (v := 1) hx hb dX8_gust_126 (by decide) ?_
          refine lv_icmp_ne (tgt := 135) hx hb dX8_gust_127 (by decide) (fun c210 => ?_) (fun c210 => absurd c210 (by decide))
          refine lv_bipush (v := 10) hx hb dX8_gust_135 (by decide) ?_
          refine lv_iload_n hx hb dX8_gust_137 rfl (lv_at hl 7 rfl) ?_
          refine lv_isub hx hb dX8_gust_138 ?_
          refine lv_topi (fun x211 e211 => ?_)
          obtain rfl : x211 = 5 := e211.trans (by decide)
          refine lv_i2l (v := 5) hx hb dX8_gust_139 (by decide) ?_
          refine lv_lmul hx hb dX8_gust_140 ?_
          refine lv_topl (fun x212 e212 => ?_)
          obtain rfl : x212 = 5 := e212.trans (by decide)
          refine lv_lstore (lv' := [(10, .long 5), (12, .int 0), (9, .int 0), (7, .long 0), (5, .long 0), (4, .int 1), (0, .ref n), (1, .int 5), (2, .int 0), (3, .int 0)]) hx hb dX8_gust_141 hl (by decide) rfl (fun ls hl => ?_)
          refine lv_iinc (v := 1) (lv' := [(12, .int 1), (10, .long 5), (9, .int 0), (7, .long 0), (5, .long 0), (4, .int 1), (0, .ref n), (1, .int 5), (2, .int 0), (3, .int 0)]) hx hb dX8_gust_143 hl (k := 1) rfl (by decide) (by decide) rfl (fun ls hl => ?_)
          refine lv_goto (tgt := 110) hx hb dX8_gust_146 (by decide) ?_
          refine lv_iload hx hb dX8_gust_110 (lv_at hl 0 rfl) ?_
          refine lv_iload hx hb dX8_gust_112 (lv_at hl 5 rfl) ?_
          refine lv_icmp_ge (tgt := 149) hx hb dX8_gust_114 (by decide) (fun c213 => ?_) (fun c213 => absurd c213 (by decide))
          refine lv_aload_n hx hb dX8_gust_149 rfl (lv_at hl 6 rfl) ?_
          refine lv_iload hx hb dX8_gust_150 (lv_at hl 2 rfl) ?_
          refine lv_aload_n hx hb dX8_gust_152 rfl (lv_at hl 6 rfl) ?_
          refine va_get (D := (dC, dI)) (ci := 8) (v := .int 0) (C := RX8) (T := TX8) (N := 53) hx hb hts hin8 hown hK hP 0 rfl rfl 4 (by decide) hw2 (fun _ h9 => h9) rfl dX8_gust_153 ?_
          refine lv_ishl hx hb dX8_gust_156 ?_
          refine lv_topi (fun x214 e214 => ?_)
          obtain rfl : x214 = 0 := e214.trans (by decide)
          refine va_put (D := (dC, dI)) (ci := 8) (v := .int 0) (ty := .int) (C := RX8) (T := TX8) (N := 53) hx hb hts hin8 tyX8 tyX8_ok nmX8 hown hK hP hD hS 0 rfl rfl 22 (by decide) hw3 (fun _ h9 => h9) rfl (by decide +kernel) rfl rfl (Nat.le_of_ble_eq_true rfl) dX8_gust_157 (fun H locs hP hD hS => ?_)
          replace hP : va_P (dC, dI) vwCl [(n, .inr (8, [.int 800, .int 0, .int 0, .int 0, .int 0, .int 0, .int 0, .ref nwi, .ref nco, .int 0, .ref nqu, .ref nmi, .ref nde, .ref nsa, .ref nsm, .int 0, .ref npa, .int 0, .ref nac, .ref nam, .ref naw, .int 0, .int 0, .int (-6), .int 0, .int 4000, .int (-6), .int (-6), .int 0, .int 0, .ref ncs, .ref nbw, .ref ndc, .ref nmk, .int 800, .int 0, .int 0, .int 0, .int 0, .int 0, .int 0, .ref npo, .int 0, .ref nta, .ref npl, .int 0, .int 0, .ref nmm, .ref ncu, .ref nke, .ref nik, .int 0, .int 0])), (ndc, .inl (cI, 14, .inl (upd (upd (upd (upd (upd (upd (upd (upd (upd (upd (upd (upd (upd (upd (fun _ => 0) 0 0) 1 0) 2 0) 3 0) 4 0) 5 0) 6 0) 7 0) 8 0) 9 0) 10 0) 11 0) 12 0) 13 0))), (nmk, .inl (cI, 61, .inl (upd (fun _ => 0) 0 5000000)))] H := hP
          replace hD : va_D A [(n, .inr (8, [.int 800, .int 0, .int 0, .int 0, .int 0, .int 0, .int 0, .ref nwi, .ref nco, .int 0, .ref nqu, .ref nmi, .ref nde, .ref nsa, .ref nsm, .int 0, .ref npa, .int 0, .ref nac, .ref nam, .ref naw, .int 0, .int 0, .int (-6), .int 0, .int 4000, .int (-6), .int (-6), .int 0, .int 0, .ref ncs, .ref nbw, .ref ndc, .ref nmk, .int 800, .int 0, .int 0, .int 0, .int 0, .int 0, .int 0, .ref npo, .int 0, .ref nta, .ref npl, .int 0, .int 0, .ref nmm, .ref ncu, .ref nke, .ref nik, .int 0, .int 0])), (ndc, .inl (cI, 14, .inl (upd (upd (upd (upd (upd (upd (upd (upd (upd (upd (upd (upd (upd (upd (fun _ => 0) 0 0) 1 0) 2 0) 3 0) 4 0) 5 0) 6 0) 7 0) 8 0) 9 0) 10 0) 11 0) 12 0) 13 0))), (nmk, .inl (cI, 61, .inl (upd (fun _ => 0) 0 5000000)))] := hD
          refine lv_lload hx hb dX8_gust_160 (lv_at hl 3 rfl) ?_
          refine lv_lload hx hb dX8_gust_162 (lv_at hl 1 rfl) ?_
          refine lv_ladd hx hb dX8_gust_164 ?_
          refine lv_topl (fun x215 e215 => ?_)
          obtain rfl : x215 = 5 := e215.trans (by decide)
          refine lv_lstore (lv' := [(7, .long 5), (12, .int 1), (10, .long 5), (9, .int 0), (5, .long 0), (4, .int 1), (0, .ref n), (1, .int 5), (2, .int 0), (3, .int 0)]) hx hb dX8_gust_165 hl (by decide) rfl (fun ls hl => ?_)
          refine lv_lload hx hb dX8_gust_167 (lv_at hl 4 rfl) ?_
          refine lv_lload hx hb dX8_gust_169 (lv_at hl 2 rfl) ?_
          refine lv_aload_n hx hb dX8_gust_171 rfl (lv_at hl 6 rfl) ?_
          refine lv_iload_n hx hb dX8_gust_172 rfl (lv_at hl 8 rfl) ?_
          refine mx_i (wr := []) (va_runV (As := [.int 0]) (rest := [.long 5, .long 0]) ⟨hx, hb, hml, hown, hts⟩ (c_X8_worthOfGusts_0 l dC dI cI cZ cK tS aK aV n nwi nco nqu nmi nde nsa nsm npa nac nam naw ncs nbw ndc nmk npo nta npl nmm ncu nke nik 0 0 0 0 0 0 0 0 0 0 (-6) 0 4000 (-6) (-6) 0 0 800 0 0 0 0 0 0 0 0 0 0 0 (upd (upd (upd (upd (upd (upd (upd (upd (upd (upd (upd (upd (upd (upd (fun _ => 0) 0 0) 1 0) 2 0) 3 0) 4 0) 5 0) 6 0) 7 0) 8 0) 9 0) 10 0) 11 0) 12 0) 13 0) (upd (fun _ => 0) 0 5000000) H.size) (cwV 1 hts (gw_v (fun _ h9 => List.mem_cons_of_mem _ h9) wm_524 wm_525 wm_526 wm_385 wm_527) rfl rfl rfl (by decide +kernel) ⟨Nat.le_of_ble_eq_true rfl, Nat.le_of_ble_eq_true rfl⟩) (mx_preV (C := RX8) (T := TX8) (N := 53) (ci := 8) hKx hP hD hS hA [0, 1, 2] (by decide) rfl rfl rfl) rfl rfl hl.1 rfl (lv_room (Nat.le_of_ble_eq_true rfl)) dX8_gust_173 ⟨Nat.le_of_ble_eq_true rfl, Nat.le_of_ble_eq_true rfl⟩) hP hD hS hA [0, 1, 2] [] rfl rfl (by decide) (by decide) (fun r216 u216 H locs hq216 hP hD hS => ?_)
          replace hP : va_P (dC, dI) vwCl [(n, .inr (8, [.int 800, .int 0, .int 0, .int 0, .int 0, .int 0, .int 0, .ref nwi, .ref nco, .int 0, .ref nqu, .ref nmi, .ref nde, .ref nsa, .ref nsm, .int 0, .ref npa, .int 0, .ref nac, .ref nam, .ref naw, .int 0, .int 0, .int (-6), .int 0, .int 4000, .int (-6), .int (-6), .int 0, .int 0, .ref ncs, .ref nbw, .ref ndc, .ref nmk, .int 800, .int 0, .int 0, .int 0, .int 0, .int 0, .int 0, .ref npo, .int 0, .ref nta, .ref npl, .int 0, .int 0, .ref nmm, .ref ncu, .ref nke, .ref nik, .int 0, .int 0])), (ndc, .inl (cI, 14, .inl (upd (upd (upd (upd (upd (upd (upd (upd (upd (upd (upd (upd (upd (upd (upd (upd (upd (upd (upd (upd (upd (upd (upd (upd (upd (upd (upd (upd (fun _ => 0) 0 0) 1 0) 2 0) 3 0) 4 0) 5 0) 6 0) 7 0) 8 0) 9 0) 10 0) 11 0) 12 0) 13 0) 0 0) 1 0) 2 0) 3 0) 4 0) 5 0) 6 0) 7 0) 8 0) 9 0) 10 0) 11 0) 12 0) 13 0))), (nmk, .inl (cI, 61, .inl (upd (upd (fun _ => 0) 0 5000000) 0 4)))] H := hP
          replace hD : va_D A [(n, .inr (8, [.int 800, .int 0, .int 0, .int 0, .int 0, .int 0, .int 0, .ref nwi, .ref nco, .int 0, .ref nqu, .ref nmi, .ref nde, .ref nsa, .ref nsm, .int 0, .ref npa, .int 0, .ref nac, .ref nam, .ref naw, .int 0, .int 0, .int (-6), .int 0, .int 4000, .int (-6), .int (-6), .int 0, .int 0, .ref ncs, .ref nbw, .ref ndc, .ref nmk, .int 800, .int 0, .int 0, .int 0, .int 0, .int 0, .int 0, .ref npo, .int 0, .ref nta, .ref npl, .int 0, .int 0, .ref nmm, .ref ncu, .ref nke, .ref nik, .int 0, .int 0])), (ndc, .inl (cI, 14, .inl (upd (upd (upd (upd (upd (upd (upd (upd (upd (upd (upd (upd (upd (upd (upd (upd (upd (upd (upd (upd (upd (upd (upd (upd (upd (upd (upd (upd (fun _ => 0) 0 0) 1 0) 2 0) 3 0) 4 0) 5 0) 6 0) 7 0) 8 0) 9 0) 10 0) 11 0) 12 0) 13 0) 0 0) 1 0) 2 0) 3 0) 4 0) 5 0) 6 0) 7 0) 8 0) 9 0) 10 0) 11 0) 12 0) 13 0))), (nmk, .inl (cI, 61, .inl (upd (upd (fun _ => 0) 0 5000000) 0 4)))] := hD
          obtain rfl : r216 = 1 := hq216
          refine lv_i2l (v := 1) hx hb dX8_gust_176 (by decide) ?_
          refine lv_lmul hx hb dX8_gust_177 ?_
          refine lv_topl (fun x217 e217 => ?_)
          obtain rfl : x217 = 5 := e217.trans (by decide)
          refine lv_ladd hx hb dX8_gust_178 ?_
          refine lv_topl (fun x218 e218 => ?_)
          obtain rfl : x218 = 5 := e218.trans (by decide)
          refine lv_lstore (lv' := [(5, .long 5), (7, .long 5), (12, .int 1), (10, .long 5), (9, .int 0), (4, .int 1), (0, .ref n), (1, .int 5), (2, .int 0), (3, .int 0)]) hx hb dX8_gust_179 hl (by decide) rfl (fun ls hl => ?_)
          refine lv_iinc (v := 1) (lv' := [(9, .int 1), (5, .long 5), (7, .long 5), (12, .int 1), (10, .long 5), (4, .int 1), (0, .ref n), (1, .int 5), (2, .int 0), (3, .int 0)]) hx hb dX8_gust_181 hl (k := 4) rfl (by decide) (by decide) rfl (fun ls hl => ?_)
          refine lv_goto (tgt := 95) hx hb dX8_gust_184 (by decide) ?_
          refine lv_iload hx hb dX8_gust_95 (lv_at hl 0 rfl) ?_
          refine lv_iconst (v := 1) hx hb dX8_gust_97 (by decide) ?_
          refine lv_iload hx hb dX8_gust_98 (lv_at hl 5 rfl) ?_
          refine lv_ishl hx hb dX8_gust_100 ?_
          refine lv_topi (fun x219 e219 => ?_)
          obtain rfl : x219 = 2 := e219.trans (by decide)
          refine lv_icmp_ge (tgt := 187) hx hb dX8_gust_101 (by decide) (fun c220 => absurd c220 (by decide)) (fun c220 => ?_)
          refine lv_lconst (v := 1) hx hb dX8_gust_104 (by decide) ?_
          refine lv_lstore (lv' := [(10, .long 1), (9, .int 1), (5, .long 5), (7, .long 5), (12, .int 1), (4, .int 1), (0, .ref n), (1, .int 5), (2, .int 0), (3, .int 0)]) hx hb dX8_gust_105 hl (by decide) rfl (fun ls hl => ?_)
          refine lv_iconst (v := 0) hx hb dX8_gust_107 (by decide) ?_
          refine lv_istore (lv' := [(12, .int 0), (10, .long 1), (9, .int 1), (5, .long 5), (7, .long 5), (4, .int 1), (0, .ref n), (1, .int 5), (2, .int 0), (3, .int 0)]) hx hb dX8_gust_108 hl (by decide) rfl (fun ls hl => ?_)
          refine lv_iload hx hb dX8_gust_110 (lv_at hl 0 rfl) ?_
          refine lv_iload hx hb dX8_gust_112 (lv_at hl 5 rfl) ?_
          refine lv_icmp_ge (tgt := 149) hx hb dX8_gust_114 (by decide) (fun c221 => absurd c221 (by decide)) (fun c221 => ?_)
          refine lv_lload hx hb dX8_gust_117 (lv_at hl 1 rfl) ?_
          refine lv_iload hx hb dX8_gust_119 (lv_at hl 2 rfl) ?_
          refine lv_iload hx hb dX8_gust_121 (lv_at hl 0 rfl) ?_
          refine lv_ishr hx hb dX8_gust_123 ?_
          refine lv_topi (fun x222 e222 => ?_)
          obtain rfl : x222 = 1 := e222.trans (by decide)
          refine lv_iconst (v := 1) hx hb dX8_gust_124 (by decide) ?_
          refine lv_iand hx hb dX8_gust_125 ?_
          refine lv_topi (fun x223 e223 => ?_)
          obtain rfl : x223 = 1 := e223.trans (by decide)
          refine lv_iconst (v := 1) hx hb dX8_gust_126 (by decide) ?_
          refine lv_icmp_ne (tgt := 135) hx hb dX8_gust_127 (by decide) (fun c224 => absurd c224 (by decide)) (fun c224 => ?_)
          refine lv_iload_n hx hb dX8_gust_130 rfl (lv_at hl 7 rfl) ?_
          refine lv_i2l (v := 5) hx hb dX8_gust_131 (by decide) ?_
          refine lv_goto (tgt := 140) hx hb dX8_gust_132 (by decide) ?_
          refine lv_lmul hx hb dX8_gust_140 ?_
          refine lv_topl (fun x225 e225 => ?_)
          obtain rfl : x225 = 5 := e225.trans (by decide)
          refine lv_lstore (lv' := [(10, .long 5), (12, .int 0), (9, .int 1), (5, .long 5), (7, .long 5), (4, .int 1), (0, .ref n), (1, .int 5), (2, .int 0), (3, .int 0)]) hx hb dX8_gust_141 hl (by decide) rfl (fun ls hl => ?_)
          refine lv_iinc (v := 1) (lv' := [(12, .int 1), (10, .long 5), (9, .int 1), (5, .long 5), (7, .long 5), (4, .int 1), (0, .ref n), (1, .int 5), (2, .int 0), (3, .int 0)]) hx hb dX8_gust_143 hl (k := 1) rfl (by decide) (by decide) rfl (fun ls hl => ?_)
          refine lv_goto (tgt := 110) hx hb dX8_gust_146 (by decide) ?_
          refine lv_iload hx hb dX8_gust_110 (lv_at hl 0 rfl) ?_
          refine lv_iload hx hb dX8_gust_112 (lv_at hl 5 rfl) ?_
          refine lv_icmp_ge (tgt := 149) hx hb dX8_gust_114 (by decide) (fun c226 => ?_) (fun c226 => absurd c226 (by decide))
          refine lv_aload_n hx hb dX8_gust_149 rfl (lv_at hl 6 rfl) ?_
          refine lv_iload hx hb dX8_gust_150 (lv_at hl 2 rfl) ?_
          refine lv_aload_n hx hb dX8_gust_152 rfl (lv_at hl 6 rfl) ?_
          refine va_get (D := (dC, dI)) (ci := 8) (v := .int 0) (C := RX8) (T := TX8) (N := 53) hx hb hts hin8 hown hK hP 0 rfl rfl 4 (by decide) hw2 (fun _ h9 => h9) rfl dX8_gust_153 ?_
          refine lv_ishl hx hb dX8_gust_156 ?_
          refine lv_topi (fun x227 e227 => ?_)
          obtain rfl : x227 = 1 := e227.trans (by decide)
          refine va_put (D := (dC, dI)) (ci := 8) (v := .int 1) (ty := .int) (C := RX8) (T := TX8) (N := 53) hx hb hts hin8 tyX8 tyX8_ok nmX8 hown hK hP hD hS 0 rfl rfl 22 (by decide) hw3 (fun _ h9 => h9) rfl (by decide +kernel) rfl rfl (Nat.le_of_ble_eq_true rfl) dX8_gust_157 (fun H locs hP hD hS => ?_)
          replace hP : va_P (dC, dI) vwCl [(n, .inr (8, [.int 800, .int 0, .int 0, .int 0, .int 0, .int 0, .int 0, .ref nwi, .ref nco, .int 0, .ref nqu, .ref nmi, .ref nde, .ref nsa, .ref nsm, .int 0, .ref npa, .int 0, .ref nac, .ref nam, .ref naw, .int 0, .int 1, .int (-6), .int 0, .int 4000, .int (-6), .int (-6), .int 0, .int 0, .ref ncs, .ref nbw, .ref ndc, .ref nmk, .int 800, .int 0, .int 0, .int 0, .int 0, .int 0, .int 0, .ref npo, .int 0, .ref nta, .ref npl, .int 0, .int 0, .ref nmm, .ref ncu, .ref nke, .ref nik, .int 0, .int 0])), (ndc, .inl (cI, 14, .inl (upd (upd (upd (upd (upd (upd (upd (upd (upd (upd (upd (upd (upd (upd (upd (upd (upd (upd (upd (upd (upd (upd (upd (upd (upd (upd (upd (upd (fun _ => 0) 0 0) 1 0) 2 0) 3 0) 4 0) 5 0) 6 0) 7 0) 8 0) 9 0) 10 0) 11 0) 12 0) 13 0) 0 0) 1 0) 2 0) 3 0) 4 0) 5 0) 6 0) 7 0) 8 0) 9 0) 10 0) 11 0) 12 0) 13 0))), (nmk, .inl (cI, 61, .inl (upd (upd (fun _ => 0) 0 5000000) 0 4)))] H := hP
          replace hD : va_D A [(n, .inr (8, [.int 800, .int 0, .int 0, .int 0, .int 0, .int 0, .int 0, .ref nwi, .ref nco, .int 0, .ref nqu, .ref nmi, .ref nde, .ref nsa, .ref nsm, .int 0, .ref npa, .int 0, .ref nac, .ref nam, .ref naw, .int 0, .int 1, .int (-6), .int 0, .int 4000, .int (-6), .int (-6), .int 0, .int 0, .ref ncs, .ref nbw, .ref ndc, .ref nmk, .int 800, .int 0, .int 0, .int 0, .int 0, .int 0, .int 0, .ref npo, .int 0, .ref nta, .ref npl, .int 0, .int 0, .ref nmm, .ref ncu, .ref nke, .ref nik, .int 0, .int 0])), (ndc, .inl (cI, 14, .inl (upd (upd (upd (upd (upd (upd (upd (upd (upd (upd (upd (upd (upd (upd (upd (upd (upd (upd (upd (upd (upd (upd (upd (upd (upd (upd (upd (upd (fun _ => 0) 0 0) 1 0) 2 0) 3 0) 4 0) 5 0) 6 0) 7 0) 8 0) 9 0) 10 0) 11 0) 12 0) 13 0) 0 0) 1 0) 2 0) 3 0) 4 0) 5 0) 6 0) 7 0) 8 0) 9 0) 10 0) 11 0) 12 0) 13 0))), (nmk, .inl (cI, 61, .inl (upd (upd (fun _ => 0) 0 5000000) 0 4)))] := hD
          refine lv_lload hx hb dX8_gust_160 (lv_at hl 4 rfl) ?_
          refine lv_lload hx hb dX8_gust_162 (lv_at hl 1 rfl) ?_
          refine lv_ladd hx hb dX8_gust_164 ?_
          refine lv_topl (fun x228 e228 => ?_)
          obtain rfl : x228 = 10 := e228.trans (by decide)
          refine lv_lstore (lv' := [(7, .long 10), (12, .int 1), (10, .long 5), (9, .int 1), (5, .long 5), (4, .int 1), (0, .ref n), (1, .int 5), (2, .int 0), (3, .int 0)]) hx hb dX8_gust_165 hl (by decide) rfl (fun ls hl => ?_)
          refine lv_lload hx hb dX8_gust_167 (lv_at hl 4 rfl) ?_
          refine lv_lload hx hb dX8_gust_169 (lv_at hl 2 rfl) ?_
          refine lv_aload_n hx hb dX8_gust_171 rfl (lv_at hl 6 rfl) ?_
          refine lv_iload_n hx hb dX8_gust_172 rfl (lv_at hl 8 rfl) ?_
          refine mx_i (wr := []) (va_runV (As := [.int 0]) (rest := [.long 5, .long 5]) ⟨hx, hb, hml, hown, hts⟩ (c_X8_worthOfGusts_0 l dC dI cI cZ cK tS aK aV n nwi nco nqu nmi nde nsa nsm npa nac nam naw ncs nbw ndc nmk npo nta npl nmm ncu nke nik 0 0 0 0 0 0 0 0 0 1 (-6) 0 4000 (-6) (-6) 0 0 800 0 0 0 0 0 0 0 0 0 0 0 (upd (upd (upd (upd (upd (upd (upd (upd (upd (upd (upd (upd (upd (upd (upd (upd (upd (upd (upd (upd (upd (upd (upd (upd (upd (upd (upd (upd (fun _ => 0) 0 0) 1 0) 2 0) 3 0) 4 0) 5 0) 6 0) 7 0) 8 0) 9 0) 10 0) 11 0) 12 0) 13 0) 0 0) 1 0) 2 0) 3 0) 4 0) 5 0) 6 0) 7 0) 8 0) 9 0) 10 0) 11 0) 12 0) 13 0) (upd (upd (fun _ => 0) 0 5000000) 0 4) H.size) (cwV 1 hts (gw_v (fun _ h9 => List.mem_cons_of_mem _ h9) wm_524 wm_525 wm_526 wm_385 wm_527) rfl rfl rfl (by decide +kernel) ⟨Nat.le_of_ble_eq_true rfl, Nat.le_of_ble_eq_true rfl⟩) (mx_preV (C := RX8) (T := TX8) (N := 53) (ci := 8) hKx hP hD hS hA [0, 1, 2] (by decide) rfl rfl rfl) rfl rfl hl.1 rfl (lv_room (Nat.le_of_ble_eq_true rfl)) dX8_gust_173 ⟨Nat.le_of_ble_eq_true rfl, Nat.le_of_ble_eq_true rfl⟩) hP hD hS hA [0, 1, 2] [] rfl rfl (by decide) (by decide) (fun r229 u229 H locs hq229 hP hD hS => ?_)
          replace hP : va_P (dC, dI) vwCl [(n, .inr (8, [.int 800, .int 0, .int 0, .int 0, .int 0, .int 0, .int 0, .ref nwi, .ref nco, .int 0, .ref nqu, .ref nmi, .ref nde, .ref nsa, .ref nsm, .int 0, .ref npa, .int 0, .ref nac, .ref nam, .ref naw, .int 0, .int 1, .int (-6), .int 0, .int 4000, .int (-6), .int (-6), .int 0, .int 0, .ref ncs, .ref nbw, .ref ndc, .ref nmk, .int 800, .int 0, .int 0, .int 0, .int 0, .int 0, .int 0, .ref npo, .int 0, .ref nta, .ref npl, .int 0, .int 0, .ref nmm, .ref ncu, .ref nke, .ref nik, .int 0, .int 0])), (ndc, .inl (cI, 14, .inl (upd (upd (upd (upd (upd (upd (upd (upd (upd (upd (upd (upd (upd (upd (upd (upd (upd (upd (upd (upd (upd (upd (upd (upd (upd (upd (upd (upd (upd (upd (upd (upd (upd (upd (upd (upd (upd (upd (upd (upd (upd (upd (fun _ => 0) 0 0) 1 0) 2 0) 3 0) 4 0) 5 0) 6 0) 7 0) 8 0) 9 0) 10 0) 11 0) 12 0) 13 0) 0 0) 1 0) 2 0) 3 0) 4 0) 5 0) 6 0) 7 0) 8 0) 9 0) 10 0) 11 0) 12 0) 13 0) 0 0) 1 0) 2 0) 3 0) 4 0) 5 0) 6 0) 7 0) 8 0) 9 0) 10 0) 11 0) 12 0) 13 0))), (nmk, .inl (cI, 61, .inl (upd (upd (upd (fun _ => 0) 0 5000000) 0 4) 0 4)))] H := hP
          replace hD : va_D A [(n, .inr (8, [.int 800, .int 0, .int 0, .int 0, .int 0, .int 0, .int 0, .ref nwi, .ref nco, .int 0, .ref nqu, .ref nmi, .ref nde, .ref nsa, .ref nsm, .int 0, .ref npa, .int 0, .ref nac, .ref nam, .ref naw, .int 0, .int 1, .int (-6), .int 0, .int 4000, .int (-6), .int (-6), .int 0, .int 0, .ref ncs, .ref nbw, .ref ndc, .ref nmk, .int 800, .int 0, .int 0, .int 0, .int 0, .int 0, .int 0, .ref npo, .int 0, .ref nta, .ref npl, .int 0, .int 0, .ref nmm, .ref ncu, .ref nke, .ref nik, .int 0, .int 0])), (ndc, .inl (cI, 14, .inl (upd (upd (upd (upd (upd (upd (upd (upd (upd (upd (upd (upd (upd (upd (upd (upd (upd (upd (upd (upd (upd (upd (upd (upd (upd (upd (upd (upd (upd (upd (upd (upd (upd (upd (upd (upd (upd (upd (upd (upd (upd (upd (fun _ => 0) 0 0) 1 0) 2 0) 3 0) 4 0) 5 0) 6 0) 7 0) 8 0) 9 0) 10 0) 11 0) 12 0) 13 0) 0 0) 1 0) 2 0) 3 0) 4 0) 5 0) 6 0) 7 0) 8 0) 9 0) 10 0) 11 0) 12 0) 13 0) 0 0) 1 0) 2 0) 3 0) 4 0) 5 0) 6 0) 7 0) 8 0) 9 0) 10 0) 11 0) 12 0) 13 0))), (nmk, .inl (cI, 61, .inl (upd (upd (upd (fun _ => 0) 0 5000000) 0 4) 0 4)))] := hD
          obtain rfl : r229 = 1 := hq229
          refine lv_i2l (v := 1) hx hb dX8_gust_176 (by decide) ?_
          refine lv_lmul hx hb dX8_gust_177 ?_
          refine lv_topl (fun x230 e230 => ?_)
          obtain rfl : x230 = 5 := e230.trans (by decide)
          refine lv_ladd hx hb dX8_gust_178 ?_
          refine lv_topl (fun x231 e231 => ?_)
          obtain rfl : x231 = 10 := e231.trans (by decide)
          refine lv_lstore (lv' := [(5, .long 10), (7, .long 10), (12, .int 1), (10, .long 5), (9, .int 1), (4, .int 1), (0, .ref n), (1, .int 5), (2, .int 0), (3, .int 0)]) hx hb dX8_gust_179 hl (by decide) rfl (fun ls hl => ?_)
          refine lv_iinc (v := 2) (lv' := [(9, .int 2), (5, .long 10), (7, .long 10), (12, .int 1), (10, .long 5), (4, .int 1), (0, .ref n), (1, .int 5), (2, .int 0), (3, .int 0)]) hx hb dX8_gust_181 hl (k := 4) rfl (by decide) (by decide) rfl (fun ls hl => ?_)
          refine lv_goto (tgt := 95) hx hb dX8_gust_184 (by decide) ?_
          refine lv_iload hx hb dX8_gust_95 (lv_at hl 0 rfl) ?_
          refine lv_iconst (v := 1) hx hb dX8_gust_97 (by decide) ?_
          refine lv_iload hx hb dX8_gust_98 (lv_at hl 5 rfl) ?_
          refine lv_ishl hx hb dX8_gust_100 ?_
          refine lv_topi (fun x232 e232 => ?_)
          obtain rfl : x232 = 2 := e232.trans (by decide)
          refine lv_icmp_ge (tgt := 187) hx hb dX8_gust_101 (by decide) (fun c233 => ?_) (fun c233 => absurd c233 (by decide))
          refine lv_aload_n hx hb dX8_gust_187 rfl (lv_at hl 6 rfl) ?_
          refine lv_iconst (v := 0) hx hb dX8_gust_188 (by decide) ?_
          refine va_put (D := (dC, dI)) (ci := 8) (v := .int 0) (ty := .int) (C := RX8) (T := TX8) (N := 53) hx hb hts hin8 tyX8 tyX8_ok nmX8 hown hK hP hD hS 0 rfl rfl 22 (by decide) hw3 (fun _ h9 => h9) rfl (by decide +kernel) rfl rfl (Nat.le_of_ble_eq_true rfl) dX8_gust_189 (fun H locs hP hD hS => ?_)
          replace hP : va_P (dC, dI) vwCl [(n, .inr (8, [.int 800, .int 0, .int 0, .int 0, .int 0, .int 0, .int 0, .ref nwi, .ref nco, .int 0, .ref nqu, .ref nmi, .ref nde, .ref nsa, .ref nsm, .int 0, .ref npa, .int 0, .ref nac, .ref nam, .ref naw, .int 0, .int 0, .int (-6), .int 0, .int 4000, .int (-6), .int (-6), .int 0, .int 0, .ref ncs, .ref nbw, .ref ndc, .ref nmk, .int 800, .int 0, .int 0, .int 0, .int 0, .int 0, .int 0, .ref npo, .int 0, .ref nta, .ref npl, .int 0, .int 0, .ref nmm, .ref ncu, .ref nke, .ref nik, .int 0, .int 0])), (ndc, .inl (cI, 14, .inl (upd (upd (upd (upd (upd (upd (upd (upd (upd (upd (upd (upd (upd (upd (upd (upd (upd (upd (upd (upd (upd (upd (upd (upd (upd (upd (upd (upd (upd (upd (upd (upd (upd (upd (upd (upd (upd (upd (upd (upd (upd (upd (fun _ => 0) 0 0) 1 0) 2 0) 3 0) 4 0) 5 0) 6 0) 7 0) 8 0) 9 0) 10 0) 11 0) 12 0) 13 0) 0 0) 1 0) 2 0) 3 0) 4 0) 5 0) 6 0) 7 0) 8 0) 9 0) 10 0) 11 0) 12 0) 13 0) 0 0) 1 0) 2 0) 3 0) 4 0) 5 0) 6 0) 7 0) 8 0) 9 0) 10 0) 11 0) 12 0) 13 0))), (nmk, .inl (cI, 61, .inl (upd (upd (upd (fun _ => 0) 0 5000000) 0 4) 0 4)))] H := hP
          replace hD : va_D A [(n, .inr (8, [.int 800, .int 0, .int 0, .int 0, .int 0, .int 0, .int 0, .ref nwi, .ref nco, .int 0, .ref nqu, .ref nmi, .ref nde, .ref nsa, .ref nsm, .int 0, .ref npa, .int 0, .ref nac, .ref nam, .ref naw, .int 0, .int 0, .int (-6), .int 0, .int 4000, .int (-6), .int (-6), .int 0, .int 0, .ref ncs, .ref nbw, .ref ndc, .ref nmk, .int 800, .int 0, .int 0, .int 0, .int 0, .int 0, .int 0, .ref npo, .int 0, .ref nta, .ref npl, .int 0, .int 0, .ref nmm, .ref ncu, .ref nke, .ref nik, .int 0, .int 0])), (ndc, .inl (cI, 14, .inl (upd (upd (upd (upd (upd (upd (upd (upd (upd (upd (upd (upd (upd (upd (upd (upd (upd (upd (upd (upd (upd (upd (upd (upd (upd (upd (upd (upd (upd (upd (upd (upd (upd (upd (upd (upd (upd (upd (upd (upd (upd (upd (fun _ => 0) 0 0) 1 0) 2 0) 3 0) 4 0) 5 0) 6 0) 7 0) 8 0) 9 0) 10 0) 11 0) 12 0) 13 0) 0 0) 1 0) 2 0) 3 0) 4 0) 5 0) 6 0) 7 0) 8 0) 9 0) 10 0) 11 0) 12 0) 13 0) 0 0) 1 0) 2 0) 3 0) 4 0) 5 0) 6 0) 7 0) 8 0) 9 0) 10 0) 11 0) 12 0) 13 0))), (nmk, .inl (cI, 61, .inl (upd (upd (upd (fun _ => 0) 0 5000000) 0 4) 0 4)))] := hD
          refine lv_lload hx hb dX8_gust_192 (lv_at hl 1 rfl) ?_
          refine lv_lload hx hb dX8_gust_194 (lv_at hl 2 rfl) ?_
          refine lv_iload_n hx hb dX8_gust_196 rfl (lv_at hl 9 rfl) ?_
          refine mx_l (wr := [(n, .inr (8, [.int 800, .int 0, .int 0, .int 0, .int 0, .int 0, .int 0, .ref nwi, .ref nco, .int 0, .ref nqu, .ref nmi, .ref nde, .ref nsa, .ref nsm, .int 0, .ref npa, .int 0, .ref nac, .ref nam, .ref naw, .int 0, .int 0, .int (-6), .int 0, .int 4000, .int (-6), .int (-6), .int 0, .int 0, .ref ncs, .ref nbw, .ref ndc, .ref nmk, .int 800, .int 0, .int 0, .int 0, .int 0, .int 0, .int 0, .ref npo, .int 0, .ref nta, .ref npl, .int 0, .int 0, .ref nmm, .ref ncu, .ref nke, .ref nik, .int 0, .int 0])), (ndc, .inl (cI, 14, .inl (upd (upd (upd (upd (upd (upd (upd (upd (upd (upd (upd (upd (upd (upd (upd (upd (upd (upd (upd (upd (upd (upd (upd (upd (upd (upd (upd (upd (upd (upd (upd (upd (upd (upd (upd (upd (upd (upd (upd (upd (upd (upd (fun _ => 0) 0 0) 1 0) 2 0) 3 0) 4 0) 5 0) 6 0) 7 0) 8 0) 9 0) 10 0) 11 0) 12 0) 13 0) 0 0) 1 0) 2 0) 3 0) 4 0) 5 0) 6 0) 7 0) 8 0) 9 0) 10 0) 11 0) 12 0) 13 0) 0 0) 1 0) 2 0) 3 0) 4 0) 5 0) 6 0) 7 0) 8 0) 9 0) 10 0) 11 0) 12 0) 13 0))), (nmk, .inl (cI, 61, .inl (upd (upd (upd (fun _ => 0) 0 5000000) 0 4) 0 4)))]) (va_runS (As := [.long 10, .long 10, .int 0]) (rest := []) ⟨hx, hb, hml, hown, hts⟩ (c_X8_lowest_10_0 l dC dI cI cZ cK tS aK aV  H.size) (va_cwS 3 hts (gw_s (fun _ h9 => List.mem_cons_of_mem _ h9) wm_528 wm_529 wm_385 wm_530) rfl rfl rfl (by decide +kernel) ⟨Nat.le_of_ble_eq_true rfl, Nat.le_of_ble_eq_true rfl⟩) (mx_preS hKx hP hD hS hA [] (by decide) rfl) rfl rfl hl.1 rfl (lv_room (Nat.le_of_ble_eq_true rfl)) dX8_gust_197 ⟨Nat.le_of_ble_eq_true rfl, Nat.le_of_ble_eq_true rfl⟩) hP hD hS hA [] [0, 1, 2] rfl rfl (by decide) (by decide) (fun r234 u234 H locs hq234 hP hD hS => ?_)
          replace hP : va_P (dC, dI) vwCl [(n, .inr (8, [.int 800, .int 0, .int 0, .int 0, .int 0, .int 0, .int 0, .ref nwi, .ref nco, .int 0, .ref nqu, .ref nmi, .ref nde, .ref nsa, .ref nsm, .int 0, .ref npa, .int 0, .ref nac, .ref nam, .ref naw, .int 0, .int 0, .int (-6), .int 0, .int 4000, .int (-6), .int (-6), .int 0, .int 0, .ref ncs, .ref nbw, .ref ndc, .ref nmk, .int 800, .int 0, .int 0, .int 0, .int 0, .int 0, .int 0, .ref npo, .int 0, .ref nta, .ref npl, .int 0, .int 0, .ref nmm, .ref ncu, .ref nke, .ref nik, .int 0, .int 0])), (ndc, .inl (cI, 14, .inl (upd (upd (upd (upd (upd (upd (upd (upd (upd (upd (upd (upd (upd (upd (upd (upd (upd (upd (upd (upd (upd (upd (upd (upd (upd (upd (upd (upd (upd (upd (upd (upd (upd (upd (upd (upd (upd (upd (upd (upd (upd (upd (fun _ => 0) 0 0) 1 0) 2 0) 3 0) 4 0) 5 0) 6 0) 7 0) 8 0) 9 0) 10 0) 11 0) 12 0) 13 0) 0 0) 1 0) 2 0) 3 0) 4 0) 5 0) 6 0) 7 0) 8 0) 9 0) 10 0) 11 0) 12 0) 13 0) 0 0) 1 0) 2 0) 3 0) 4 0) 5 0) 6 0) 7 0) 8 0) 9 0) 10 0) 11 0) 12 0) 13 0))), (nmk, .inl (cI, 61, .inl (upd (upd (upd (fun _ => 0) 0 5000000) 0 4) 0 4)))] H := hP
          replace hD : va_D A [(n, .inr (8, [.int 800, .int 0, .int 0, .int 0, .int 0, .int 0, .int 0, .ref nwi, .ref nco, .int 0, .ref nqu, .ref nmi, .ref nde, .ref nsa, .ref nsm, .int 0, .ref npa, .int 0, .ref nac, .ref nam, .ref naw, .int 0, .int 0, .int (-6), .int 0, .int 4000, .int (-6), .int (-6), .int 0, .int 0, .ref ncs, .ref nbw, .ref ndc, .ref nmk, .int 800, .int 0, .int 0, .int 0, .int 0, .int 0, .int 0, .ref npo, .int 0, .ref nta, .ref npl, .int 0, .int 0, .ref nmm, .ref ncu, .ref nke, .ref nik, .int 0, .int 0])), (ndc, .inl (cI, 14, .inl (upd (upd (upd (upd (upd (upd (upd (upd (upd (upd (upd (upd (upd (upd (upd (upd (upd (upd (upd (upd (upd (upd (upd (upd (upd (upd (upd (upd (upd (upd (upd (upd (upd (upd (upd (upd (upd (upd (upd (upd (upd (upd (fun _ => 0) 0 0) 1 0) 2 0) 3 0) 4 0) 5 0) 6 0) 7 0) 8 0) 9 0) 10 0) 11 0) 12 0) 13 0) 0 0) 1 0) 2 0) 3 0) 4 0) 5 0) 6 0) 7 0) 8 0) 9 0) 10 0) 11 0) 12 0) 13 0) 0 0) 1 0) 2 0) 3 0) 4 0) 5 0) 6 0) 7 0) 8 0) 9 0) 10 0) 11 0) 12 0) 13 0))), (nmk, .inl (cI, 61, .inl (upd (upd (upd (fun _ => 0) 0 5000000) 0 4) 0 4)))] := hD
          obtain rfl : r234 = 1 := hq234
          have hP9 := mx_subP (wc := []) hP [] rfl
          have hD9 := hD.sub (ws' := []) [] (by decide) rfl
          exact W.lret (v := 1) hx hb hr (fun t ht hW => ⟨⟨1, (), rfl, rfl, by rw [ht]; exact hP9, hD9⟩, hS.F ht⟩) hS.2.2 dX8_gust_200
        · have z9 : (6 : Int32).toInt = 6 := rfl
          refine lv_aload_n hx hb dX8_gust_36 rfl (lv_at hl 0 rfl) ?_
          refine mx_i (wr := [(ndc, .inl (cI, 14, .inl (fun _ => 0))), (nmk, .inl (cI, 61, .inl (fun _ => 0)))]) (va_runV (As := []) (rest := []) ⟨hx, hb, hml, hown, hts⟩ (c_X8_faultIn l dC dI cI cZ cK tS aK aV n nwi nco nqu nmi nde nsa nsm npa nac nam naw ncs nbw ndc nmk npo nta npl nmm ncu nke nik 800 0 0 0 0 0 0 0 0 0 0 0 0 0 0 0 0 0 0 0 0 0 0 0 0 0 0 0 0 0 H.size) (cwV 0 hts (gw_v (fun _ h9 => List.mem_cons_of_mem _ h9) wm_453 wm_454 wm_455 wm_385 wm_456) rfl rfl rfl (by decide +kernel) ⟨Nat.le_of_ble_eq_true rfl, Nat.le_of_ble_eq_true rfl⟩) (mx_preV (C := RX8) (T := TX8) (N := 53) (ci := 8) hKx hP hD hS hA [0] (by decide) rfl rfl rfl) rfl rfl hl.1 rfl (lv_room (Nat.le_of_ble_eq_true rfl)) dX8_gust_37 ⟨Nat.le_of_ble_eq_true rfl, Nat.le_of_ble_eq_true rfl⟩) hP hD hS hA [0] [1, 2] rfl rfl (by decide) (by decide) (fun r235 u235 H locs hq235 hP hD hS => ?_)
          replace hP : va_P (dC, dI) vwCl [(ndc, .inl (cI, 14, .inl (fun _ => 0))), (nmk, .inl (cI, 61, .inl (fun _ => 0))), (n, .inr (8, [.int 800, .int 0, .int 0, .int 0, .int 0, .int 0, .int 0, .ref nwi, .ref nco, .int 0, .ref nqu, .ref nmi, .ref nde, .ref nsa, .ref nsm, .int 0, .ref npa, .int 0, .ref nac, .ref nam, .ref naw, .int 0, .int 0, .int 0, .int 0, .int 0, .int 0, .int 0, .int 0, .int 0, .ref ncs, .ref nbw, .ref ndc, .ref nmk, .int 0, .int 0, .int 0, .int 0, .int 0, .int 0, .int 0, .ref npo, .int 0, .ref nta, .ref npl, .int 0, .int 0, .ref nmm, .ref ncu, .ref nke, .ref nik, .int 0, .int 0]))] H := hP
          replace hD : va_D A [(ndc, .inl (cI, 14, .inl (fun _ => 0))), (nmk, .inl (cI, 61, .inl (fun _ => 0))), (n, .inr (8, [.int 800, .int 0, .int 0, .int 0, .int 0, .int 0, .int 0, .ref nwi, .ref nco, .int 0, .ref nqu, .ref nmi, .ref nde, .ref nsa, .ref nsm, .int 0, .ref npa, .int 0, .ref nac, .ref nam, .ref naw, .int 0, .int 0, .int 0, .int 0, .int 0, .int 0, .int 0, .int 0, .int 0, .ref ncs, .ref nbw, .ref ndc, .ref nmk, .int 0, .int 0, .int 0, .int 0, .int 0, .int 0, .int 0, .ref npo, .int 0, .ref nta, .ref npl, .int 0, .int 0, .ref nmm, .ref ncu, .ref nke, .ref nik, .int 0, .int 0]))] := hD
          obtain rfl : r235 = (-6) := hq235
          refine lv_if_lt (tgt := 47) hx hb dX8_gust_40 (by decide) (fun c236 => ?_) (fun c236 => absurd c236 (by decide))
          refine lv_aload_n hx hb dX8_gust_47 rfl (lv_at hl 0 rfl) ?_
          refine mx_v (wr := [(ndc, .inl (cI, 14, .inl (fun _ => 0))), (nmk, .inl (cI, 61, .inl (fun _ => 0)))]) (va_runV (As := []) (rest := []) ⟨hx, hb, hml, hown, hts⟩ (c_X8_keepNow l dC dI cI cZ cK tS aK aV n nwi nco nqu nmi nde nsa nsm npa nac nam naw ncs nbw ndc nmk npo nta npl nmm ncu nke nik 800 0 0 0 0 0 0 0 0 0 0 0 0 0 0 0 0 0 0 0 0 0 0 0 0 0 0 0 0 0 0 H.size) (cwV 0 hts (gw_v (fun _ h9 => List.mem_cons_of_mem _ h9) wm_457 wm_458 wm_459 wm_385 wm_460) rfl rfl rfl (by decide +kernel) ⟨Nat.le_of_ble_eq_true rfl, Nat.le_of_ble_eq_true rfl⟩) (mx_preV (C := RX8) (T := TX8) (N := 53) (ci := 8) hKx hP hD hS hA [2] (by decide) rfl rfl rfl) rfl rfl hl.1 rfl (lv_room (Nat.le_of_ble_eq_true rfl)) dX8_gust_48 ⟨Nat.le_of_ble_eq_true rfl, Nat.le_of_ble_eq_true rfl⟩) hP hD hS hA [2] [0, 1] rfl rfl (by decide) (by decide) (fun u237 H locs hq237 hP hD hS => ?_)
          replace hP : va_P (dC, dI) vwCl [(ndc, .inl (cI, 14, .inl (fun _ => 0))), (nmk, .inl (cI, 61, .inl (fun _ => 0))), (n, .inr (8, [.int 800, .int 0, .int 0, .int 0, .int 0, .int 0, .int 0, .ref nwi, .ref nco, .int 0, .ref nqu, .ref nmi, .ref nde, .ref nsa, .ref nsm, .int 0, .ref npa, .int 0, .ref nac, .ref nam, .ref naw, .int 0, .int 0, .int (-6), .int 0, .int 4000, .int 0, .int 0, .int 0, .int 0, .ref ncs, .ref nbw, .ref ndc, .ref nmk, .int 800, .int 0, .int 0, .int 0, .int 0, .int 0, .int 0, .ref npo, .int 0, .ref nta, .ref npl, .int 0, .int 0, .ref nmm, .ref ncu, .ref nke, .ref nik, .int 0, .int 0]))] H := hP
          replace hD : va_D A [(ndc, .inl (cI, 14, .inl (fun _ => 0))), (nmk, .inl (cI, 61, .inl (fun _ => 0))), (n, .inr (8, [.int 800, .int 0, .int 0, .int 0, .int 0, .int 0, .int 0, .ref nwi, .ref nco, .int 0, .ref nqu, .ref nmi, .ref nde, .ref nsa, .ref nsm, .int 0, .ref npa, .int 0, .ref nac, .ref nam, .ref naw, .int 0, .int 0, .int (-6), .int 0, .int 4000, .int 0, .int 0, .int 0, .int 0, .ref ncs, .ref nbw, .ref ndc, .ref nmk, .int 800, .int 0, .int 0, .int 0, .int 0, .int 0, .int 0, .ref npo, .int 0, .ref nta, .ref npl, .int 0, .int 0, .ref nmm, .ref ncu, .ref nke, .ref nik, .int 0, .int 0]))] := hD
          refine lv_aload_n hx hb dX8_gust_51 rfl (lv_at hl 0 rfl) ?_
          refine mx_i (wr := []) (va_runV (As := []) (rest := []) ⟨hx, hb, hml, hown, hts⟩ (c_X8_canWithoutEnd l dC dI cI cZ cK tS aK aV n nwi nco nqu nmi nde nsa nsm npa nac nam naw ncs nbw ndc nmk npo nta npl nmm ncu nke nik 800 0 0 0 0 0 0 0 0 0 0 (-6) 0 4000 0 0 0 0 800 0 0 0 0 0 0 0 0 0 0 0 (fun _ => 0) (fun _ => 0) H.size) (cwV 0 hts (gw_v (fun _ h9 => List.mem_cons_of_mem _ h9) wm_519 wm_520 wm_521 wm_385 wm_522) rfl rfl rfl (by decide +kernel) ⟨Nat.le_of_ble_eq_true rfl, Nat.le_of_ble_eq_true rfl⟩) (mx_preV (C := RX8) (T := TX8) (N := 53) (ci := 8) hKx hP hD hS hA [2, 0, 1] (by decide) rfl rfl rfl) rfl rfl hl.1 rfl (lv_room (Nat.le_of_ble_eq_true rfl)) dX8_gust_52 ⟨Nat.le_of_ble_eq_true rfl, Nat.le_of_ble_eq_true rfl⟩) hP hD hS hA [2, 0, 1] [] rfl rfl (by decide) (by decide) (fun r238 u238 H locs hq238 hP hD hS => ?_)
          replace hP : va_P (dC, dI) vwCl [(n, .inr (8, [.int 800, .int 0, .int 0, .int 0, .int 0, .int 0, .int 0, .ref nwi, .ref nco, .int 0, .ref nqu, .ref nmi, .ref nde, .ref nsa, .ref nsm, .int 0, .ref npa, .int 0, .ref nac, .ref nam, .ref naw, .int 0, .int 0, .int (-6), .int 0, .int 4000, .int (-6), .int (-6), .int 0, .int 0, .ref ncs, .ref nbw, .ref ndc, .ref nmk, .int 800, .int 0, .int 0, .int 0, .int 0, .int 0, .int 0, .ref npo, .int 0, .ref nta, .ref npl, .int 0, .int 0, .ref nmm, .ref ncu, .ref nke, .ref nik, .int 0, .int 0])), (ndc, .inl (cI, 14, .inl (upd (upd (upd (upd (upd (upd (upd (upd (upd (upd (upd (upd (upd (upd (fun _ => 0) 0 0) 1 0) 2 0) 3 0) 4 0) 5 0) 6 0) 7 0) 8 0) 9 0) 10 0) 11 0) 12 0) 13 0))), (nmk, .inl (cI, 61, .inl (upd (fun _ => 0) 0 5000000)))] H := hP
          replace hD : va_D A [(n, .inr (8, [.int 800, .int 0, .int 0, .int 0, .int 0, .int 0, .int 0, .ref nwi, .ref nco, .int 0, .ref nqu, .ref nmi, .ref nde, .ref nsa, .ref nsm, .int 0, .ref npa, .int 0, .ref nac, .ref nam, .ref naw, .int 0, .int 0, .int (-6), .int 0, .int 4000, .int (-6), .int (-6), .int 0, .int 0, .ref ncs, .ref nbw, .ref ndc, .ref nmk, .int 800, .int 0, .int 0, .int 0, .int 0, .int 0, .int 0, .ref npo, .int 0, .ref nta, .ref npl, .int 0, .int 0, .ref nmm, .ref ncu, .ref nke, .ref nik, .int 0, .int 0])), (ndc, .inl (cI, 14, .inl (upd (upd (upd (upd (upd (upd (upd (upd (upd (upd (upd (upd (upd (upd (fun _ => 0) 0 0) 1 0) 2 0) 3 0) 4 0) 5 0) 6 0) 7 0) 8 0) 9 0) 10 0) 11 0) 12 0) 13 0))), (nmk, .inl (cI, 61, .inl (upd (fun _ => 0) 0 5000000)))] := hD
          obtain rfl : r238 = 1 := hq238
          refine lv_if_ne (tgt := 62) hx hb dX8_gust_55 (by decide) (fun c239 => ?_) (fun c239 => absurd c239 (by decide))
          refine lv_aload_n hx hb dX8_gust_62 rfl (lv_at hl 0 rfl) ?_
          refine va_get (D := (dC, dI)) (ci := 8) (v := .int 0) (C := RX8) (T := TX8) (N := 53) hx hb hts hin8 hown hK hP 0 rfl rfl 39 (by decide) hw1 (fun _ h9 => h9) rfl dX8_gust_63 ?_
          refine lv_aload_n hx hb dX8_gust_66 rfl (lv_at hl 0 rfl) ?_
          refine va_get (D := (dC, dI)) (ci := 8) (v := .int 0) (C := RX8) (T := TX8) (N := 53) hx hb hts hin8 hown hK hP 0 rfl rfl 4 (by decide) hw2 (fun _ h9 => h9) rfl dX8_gust_67 ?_
          refine lv_isub hx hb dX8_gust_70 ?_
          refine lv_topi (fun x240 e240 => ?_)
          obtain rfl : x240 = 0 := e240.trans (by decide)
          refine lv_iconst (v := 1) hx hb dX8_gust_71 (by decide) ?_
          refine lv_iadd hx hb dX8_gust_72 ?_
          refine lv_topi (fun x241 e241 => ?_)
          obtain rfl : x241 = 1 := e241.trans (by decide)
          refine lv_istore (lv' := [(4, .int 1), (0, .ref n), (1, .int 6), (2, .int 0), (3, .int 0)]) hx hb dX8_gust_73 hl (by decide) rfl (fun ls hl => ?_)
          refine lv_iload hx hb dX8_gust_75 (lv_at hl 0 rfl) ?_
          refine lv_bipush (v := 8) hx hb dX8_gust_77 (by decide) ?_
          refine lv_icmp_le (tgt := 86) hx hb dX8_gust_79 (by decide) (fun c242 => ?_) (fun c242 => absurd c242 (by decide))
          refine lv_lconst (v := 0) hx hb dX8_gust_86 (by decide) ?_
          refine lv_lstore (lv' := [(5, .long 0), (4, .int 1), (0, .ref n), (1, .int 6), (2, .int 0), (3, .int 0)]) hx hb dX8_gust_87 hl (by decide) rfl (fun ls hl => ?_)
          refine lv_lconst (v := 0) hx hb dX8_gust_89 (by decide) ?_
          refine lv_lstore (lv' := [(7, .long 0), (5, .long 0), (4, .int 1), (0, .ref n), (1, .int 6), (2, .int 0), (3, .int 0)]) hx hb dX8_gust_90 hl (by decide) rfl (fun ls hl => ?_)
          refine lv_iconst (v := 0) hx hb dX8_gust_92 (by decide) ?_
          refine lv_istore (lv' := [(9, .int 0), (7, .long 0), (5, .long 0), (4, .int 1), (0, .ref n), (1, .int 6), (2, .int 0), (3, .int 0)]) hx hb dX8_gust_93 hl (by decide) rfl (fun ls hl => ?_)
          refine lv_iload hx hb dX8_gust_95 (lv_at hl 0 rfl) ?_
          refine lv_iconst (v := 1) hx hb dX8_gust_97 (by decide) ?_
          refine lv_iload hx hb dX8_gust_98 (lv_at hl 3 rfl) ?_
          refine lv_ishl hx hb dX8_gust_100 ?_
          refine lv_topi (fun x243 e243 => ?_)
          obtain rfl : x243 = 2 := e243.trans (by decide)
          refine lv_icmp_ge (tgt := 187) hx hb dX8_gust_101 (by decide) (fun c244 => absurd c244 (by decide)) (fun c244 => ?_)
          refine lv_lconst (v := 1) hx hb dX8_gust_104 (by decide) ?_
          refine lv_lstore (lv' := [(10, .long 1), (9, .int 0), (7, .long 0), (5, .long 0), (4, .int 1), (0, .ref n), (1, .int 6), (2, .int 0), (3, .int 0)]) hx hb dX8_gust_105 hl (by decide) rfl (fun ls hl => ?_)
          refine lv_iconst (v := 0) hx hb dX8_gust_107 (by decide) ?_
          refine lv_istore (lv' := [(12, .int 0), (10, .long 1), (9, .int 0), (7, .long 0), (5, .long 0), (4, .int 1), (0, .ref n), (1, .int 6), (2, .int 0), (3, .int 0)]) hx hb dX8_gust_108 hl (by decide) rfl (fun ls hl => ?_)
          refine lv_iload hx hb dX8_gust_110 (lv_at hl 0 rfl) ?_
          refine lv_iload hx hb dX8_gust_112 (lv_at hl 5 rfl) ?_
          refine lv_icmp_ge (tgt := 149) hx hb dX8_gust_114 (by decide) (fun c245 => absurd c245 (by decide)) (fun c245 => ?_)
          refine lv_lload hx hb dX8_gust_117 (lv_at hl 1 rfl) ?_
          refine lv_iload hx hb dX8_gust_119 (lv_at hl 2 rfl) ?_
          refine lv_iload hx hb dX8_gust_121 (lv_at hl 0 rfl) ?_
          refine lv_ishr hx hb dX8_gust_123 ?_
          refine lv_topi (fun x246 e246 => ?_)
          obtain rfl : x246 = 0 := e246.trans (by decide)
          refine lv_iconst (v := 1) hx hb dX8_gust_124 (by decide) ?_
          refine lv_iand hx hb dX8_gust_125 ?_
          refine lv_topi (fun x247 e247 => ?_)
          obtain rfl : x247 = 0 := e247.trans (by decide)
          refine lv_iconst (v := 1) hx hb dX8_gust_126 (by decide) ?_
          refine lv_icmp_ne (tgt := 135) hx hb dX8_gust_127 (by decide) (fun c248 => ?_) (fun c248 => absurd c248 (by decide))
          refine lv_bipush (v := 10) hx hb dX8_gust_135 (by decide) ?_
          refine lv_iload_n hx hb dX8_gust_137 rfl (lv_at hl 7 rfl) ?_
          refine lv_isub hx hb dX8_gust_138 ?_
          refine lv_topi (fun x249 e249 => ?_)
          obtain rfl : x249 = 4 := e249.trans (by decide)
          refine lv_i2l (v := 4) hx hb dX8_gust_139 (by decide) ?_
          refine lv_lmul hx hb dX8_gust_140 ?_
          refine lv_topl (fun x250 e250 => ?_)
          obtain rfl : x250 = 4 := e250.trans (by decide)
          refine lv_lstore (lv' := [(10, .long 4), (12, .int 0), (9, .int 0), (7, .long 0), (5, .long 0), (4, .int 1), (0, .ref n), (1, .int 6), (2, .int 0), (3, .int 0)]) hx hb dX8_gust_141 hl (by decide) rfl (fun ls hl => ?_)
          refine lv_iinc (v := 1) (lv' := [(12, .int 1), (10, .long 4), (9, .int 0), (7, .long 0), (5, .long 0), (4, .int 1), (0, .ref n), (1, .int 6), (2, .int 0), (3, .int 0)]) hx hb dX8_gust_143 hl (k := 1) rfl (by decide) (by decide) rfl (fun ls hl => ?_)
          refine lv_goto (tgt := 110) hx hb dX8_gust_146 (by decide) ?_
          refine lv_iload hx hb dX8_gust_110 (lv_at hl 0 rfl) ?_
          refine lv_iload hx hb dX8_gust_112 (lv_at hl 5 rfl) ?_
          refine lv_icmp_ge (tgt := 149) hx hb dX8_gust_114 (by decide) (fun c251 => ?_) (fun c251 => absurd c251 (by decide))
          refine lv_aload_n hx hb dX8_gust_149 rfl (lv_at hl 6 rfl) ?_
          refine lv_iload hx hb dX8_gust_150 (lv_at hl 2 rfl) ?_
          refine lv_aload_n hx hb dX8_gust_152 rfl (lv_at hl 6 rfl) ?_
          refine va_get (D := (dC, dI)) (ci := 8) (v := .int 0) (C := RX8) (T := TX8) (N := 53) hx hb hts hin8 hown hK hP 0 rfl rfl 4 (by decide) hw2 (fun _ h9 => h9) rfl dX8_gust_153 ?_
          refine lv_ishl hx hb dX8_gust_156 ?_
          refine lv_topi (fun x252 e252 => ?_)
          obtain rfl : x252 = 0 := e252.trans (by decide)
          refine va_put (D := (dC, dI)) (ci := 8) (v := .int 0) (ty := .int) (C := RX8) (T := TX8) (N := 53) hx hb hts hin8 tyX8 tyX8_ok nmX8 hown hK hP hD hS 0 rfl rfl 22 (by decide) hw3 (fun _ h9 => h9) rfl (by decide +kernel) rfl rfl (Nat.le_of_ble_eq_true rfl) dX8_gust_157 (fun H locs hP hD hS => ?_)
          replace hP : va_P (dC, dI) vwCl [(n, .inr (8, [.int 800, .int 0, .int 0, .int 0, .int 0, .int 0, .int 0, .ref nwi, .ref nco, .int 0, .ref nqu, .ref nmi, .ref nde, .ref nsa, .ref nsm, .int 0, .ref npa, .int 0, .ref nac, .ref nam, .ref naw, .int 0, .int 0, .int (-6), .int 0, .int 4000, .int (-6), .int (-6), .int 0, .int 0, .ref ncs, .ref nbw, .ref ndc, .ref nmk, .int 800, .int 0, .int 0, .int 0, .int 0, .int 0, .int 0, .ref npo, .int 0, .ref nta, .ref npl, .int 0, .int 0, .ref nmm, .ref ncu, .ref nke, .ref nik, .int 0, .int 0])), (ndc, .inl (cI, 14, .inl (upd (upd (upd (upd (upd (upd (upd (upd (upd (upd (upd (upd (upd (upd (fun _ => 0) 0 0) 1 0) 2 0) 3 0) 4 0) 5 0) 6 0) 7 0) 8 0) 9 0) 10 0) 11 0) 12 0) 13 0))), (nmk, .inl (cI, 61, .inl (upd (fun _ => 0) 0 5000000)))] H := hP
          replace hD : va_D A [(n, .inr (8, [.int 800, .int 0, .int 0, .int 0, .int 0, .int 0, .int 0, .ref nwi, .ref nco, .int 0, .ref nqu, .ref nmi, .ref nde, .ref nsa, .ref nsm, .int 0, .ref npa, .int 0, .ref nac, .ref nam, .ref naw, .int 0, .int 0, .int (-6), .int 0, .int 4000, .int (-6), .int (-6), .int 0, .int 0, .ref ncs, .ref nbw, .ref ndc, .ref nmk, .int 800, .int 0, .int 0, .int 0, .int 0, .int 0, .int 0, .ref npo, .int 0, .ref nta, .ref npl, .int 0, .int 0, .ref nmm, .ref ncu, .ref nke, .ref nik, .int 0, .int 0])), (ndc, .inl (cI, 14, .inl (upd (upd (upd (upd (upd (upd (upd (upd (upd (upd (upd (upd (upd (upd (fun _ => 0) 0 0) 1 0) 2 0) 3 0) 4 0) 5 0) 6 0) 7 0) 8 0) 9 0) 10 0) 11 0) 12 0) 13 0))), (nmk, .inl (cI, 61, .inl (upd (fun _ => 0) 0 5000000)))] := hD
          refine lv_lload hx hb dX8_gust_160 (lv_at hl 3 rfl) ?_
          refine lv_lload hx hb dX8_gust_162 (lv_at hl 1 rfl) ?_
          refine lv_ladd hx hb dX8_gust_164 ?_
          refine lv_topl (fun x253 e253 => ?_)
          obtain rfl : x253 = 4 := e253.trans (by decide)
          refine lv_lstore (lv' := [(7, .long 4), (12, .int 1), (10, .long 4), (9, .int 0), (5, .long 0), (4, .int 1), (0, .ref n), (1, .int 6), (2, .int 0), (3, .int 0)]) hx hb dX8_gust_165 hl (by decide) rfl (fun ls hl => ?_)
          refine lv_lload hx hb dX8_gust_167 (lv_at hl 4 rfl) ?_
          refine lv_lload hx hb dX8_gust_169 (lv_at hl 2 rfl) ?_
          refine lv_aload_n hx hb dX8_gust_171 rfl (lv_at hl 6 rfl) ?_
          refine lv_iload_n hx hb dX8_gust_172 rfl (lv_at hl 8 rfl) ?_
          refine mx_i (wr := []) (va_runV (As := [.int 0]) (rest := [.long 4, .long 0]) ⟨hx, hb, hml, hown, hts⟩ (c_X8_worthOfGusts_0 l dC dI cI cZ cK tS aK aV n nwi nco nqu nmi nde nsa nsm npa nac nam naw ncs nbw ndc nmk npo nta npl nmm ncu nke nik 0 0 0 0 0 0 0 0 0 0 (-6) 0 4000 (-6) (-6) 0 0 800 0 0 0 0 0 0 0 0 0 0 0 (upd (upd (upd (upd (upd (upd (upd (upd (upd (upd (upd (upd (upd (upd (fun _ => 0) 0 0) 1 0) 2 0) 3 0) 4 0) 5 0) 6 0) 7 0) 8 0) 9 0) 10 0) 11 0) 12 0) 13 0) (upd (fun _ => 0) 0 5000000) H.size) (cwV 1 hts (gw_v (fun _ h9 => List.mem_cons_of_mem _ h9) wm_524 wm_525 wm_526 wm_385 wm_527) rfl rfl rfl (by decide +kernel) ⟨Nat.le_of_ble_eq_true rfl, Nat.le_of_ble_eq_true rfl⟩) (mx_preV (C := RX8) (T := TX8) (N := 53) (ci := 8) hKx hP hD hS hA [0, 1, 2] (by decide) rfl rfl rfl) rfl rfl hl.1 rfl (lv_room (Nat.le_of_ble_eq_true rfl)) dX8_gust_173 ⟨Nat.le_of_ble_eq_true rfl, Nat.le_of_ble_eq_true rfl⟩) hP hD hS hA [0, 1, 2] [] rfl rfl (by decide) (by decide) (fun r254 u254 H locs hq254 hP hD hS => ?_)
          replace hP : va_P (dC, dI) vwCl [(n, .inr (8, [.int 800, .int 0, .int 0, .int 0, .int 0, .int 0, .int 0, .ref nwi, .ref nco, .int 0, .ref nqu, .ref nmi, .ref nde, .ref nsa, .ref nsm, .int 0, .ref npa, .int 0, .ref nac, .ref nam, .ref naw, .int 0, .int 0, .int (-6), .int 0, .int 4000, .int (-6), .int (-6), .int 0, .int 0, .ref ncs, .ref nbw, .ref ndc, .ref nmk, .int 800, .int 0, .int 0, .int 0, .int 0, .int 0, .int 0, .ref npo, .int 0, .ref nta, .ref npl, .int 0, .int 0, .ref nmm, .ref ncu, .ref nke, .ref nik, .int 0, .int 0])), (ndc, .inl (cI, 14, .inl (upd (upd (upd (upd (upd (upd (upd (upd (upd (upd (upd (upd (upd (upd (upd (upd (upd (upd (upd (upd (upd (upd (upd (upd (upd (upd (upd (upd (fun _ => 0) 0 0) 1 0) 2 0) 3 0) 4 0) 5 0) 6 0) 7 0) 8 0) 9 0) 10 0) 11 0) 12 0) 13 0) 0 0) 1 0) 2 0) 3 0) 4 0) 5 0) 6 0) 7 0) 8 0) 9 0) 10 0) 11 0) 12 0) 13 0))), (nmk, .inl (cI, 61, .inl (upd (upd (fun _ => 0) 0 5000000) 0 4)))] H := hP
          replace hD : va_D A [(n, .inr (8, [.int 800, .int 0, .int 0, .int 0, .int 0, .int 0, .int 0, .ref nwi, .ref nco, .int 0, .ref nqu, .ref nmi, .ref nde, .ref nsa, .ref nsm, .int 0, .ref npa, .int 0, .ref nac, .ref nam, .ref naw, .int 0, .int 0, .int (-6), .int 0, .int 4000, .int (-6), .int (-6), .int 0, .int 0, .ref ncs, .ref nbw, .ref ndc, .ref nmk, .int 800, .int 0, .int 0, .int 0, .int 0, .int 0, .int 0, .ref npo, .int 0, .ref nta, .ref npl, .int 0, .int 0, .ref nmm, .ref ncu, .ref nke, .ref nik, .int 0, .int 0])), (ndc, .inl (cI, 14, .inl (upd (upd (upd (upd (upd (upd (upd (upd (upd (upd (upd (upd (upd (upd (upd (upd (upd (upd (upd (upd (upd (upd (upd (upd (upd (upd (upd (upd (fun _ => 0) 0 0) 1 0) 2 0) 3 0) 4 0) 5 0) 6 0) 7 0) 8 0) 9 0) 10 0) 11 0) 12 0) 13 0) 0 0) 1 0) 2 0) 3 0) 4 0) 5 0) 6 0) 7 0) 8 0) 9 0) 10 0) 11 0) 12 0) 13 0))), (nmk, .inl (cI, 61, .inl (upd (upd (fun _ => 0) 0 5000000) 0 4)))] := hD
          obtain rfl : r254 = 1 := hq254
          refine lv_i2l (v := 1) hx hb dX8_gust_176 (by decide) ?_
          refine lv_lmul hx hb dX8_gust_177 ?_
          refine lv_topl (fun x255 e255 => ?_)
          obtain rfl : x255 = 4 := e255.trans (by decide)
          refine lv_ladd hx hb dX8_gust_178 ?_
          refine lv_topl (fun x256 e256 => ?_)
          obtain rfl : x256 = 4 := e256.trans (by decide)
          refine lv_lstore (lv' := [(5, .long 4), (7, .long 4), (12, .int 1), (10, .long 4), (9, .int 0), (4, .int 1), (0, .ref n), (1, .int 6), (2, .int 0), (3, .int 0)]) hx hb dX8_gust_179 hl (by decide) rfl (fun ls hl => ?_)
          refine lv_iinc (v := 1) (lv' := [(9, .int 1), (5, .long 4), (7, .long 4), (12, .int 1), (10, .long 4), (4, .int 1), (0, .ref n), (1, .int 6), (2, .int 0), (3, .int 0)]) hx hb dX8_gust_181 hl (k := 4) rfl (by decide) (by decide) rfl (fun ls hl => ?_)
          refine lv_goto (tgt := 95) hx hb dX8_gust_184 (by decide) ?_
          refine lv_iload hx hb dX8_gust_95 (lv_at hl 0 rfl) ?_
          refine lv_iconst (v := 1) hx hb dX8_gust_97 (by decide) ?_
          refine lv_iload hx hb dX8_gust_98 (lv_at hl 5 rfl) ?_
          refine lv_ishl hx hb dX8_gust_100 ?_
          refine lv_topi (fun x257 e257 => ?_)
          obtain rfl : x257 = 2 := e257.trans (by decide)
          refine lv_icmp_ge (tgt := 187) hx hb dX8_gust_101 (by decide) (fun c258 => absurd c258 (by decide)) (fun c258 => ?_)
          refine lv_lconst (v := 1) hx hb dX8_gust_104 (by decide) ?_
          refine lv_lstore (lv' := [(10, .long 1), (9, .int 1), (5, .long 4), (7, .long 4), (12, .int 1), (4, .int 1), (0, .ref n), (1, .int 6), (2, .int 0), (3, .int 0)]) hx hb dX8_gust_105 hl (by decide) rfl (fun ls hl => ?_)
          refine lv_iconst (v := 0) hx hb dX8_gust_107 (by decide) ?_
          refine lv_istore (lv' := [(12, .int 0), (10, .long 1), (9, .int 1), (5, .long 4), (7, .long 4), (4, .int 1), (0, .ref n), (1, .int 6), (2, .int 0), (3, .int 0)]) hx hb dX8_gust_108 hl (by decide) rfl (fun ls hl => ?_)
          refine lv_iload hx hb dX8_gust_110 (lv_at hl 0 rfl) ?_
          refine lv_iload hx hb dX8_gust_112 (lv_at hl 5 rfl) ?_
          refine lv_icmp_ge (tgt := 149) hx hb dX8_gust_114 (by decide) (fun c259 => absurd c259 (by decide)) (fun c259 => ?_)
          refine lv_lload hx hb dX8_gust_117 (lv_at hl 1 rfl) ?_
          refine lv_iload hx hb dX8_gust_119 (lv_at hl 2 rfl) ?_
          refine lv_iload hx hb dX8_gust_121 (lv_at hl 0 rfl) ?_
          refine lv_ishr hx hb dX8_gust_123 ?_
          refine lv_topi (fun x260 e260 => ?_)
          obtain rfl : x260 = 1 := e260.trans (by decide)
          refine lv_iconst (v := 1) hx hb dX8_gust_124 (by decide) ?_
          refine lv_iand hx hb dX8_gust_125 ?_
          refine lv_topi (fun x261 e261 => ?_)
          obtain rfl : x261 = 1 := e261.trans (by decide)
          refine lv_iconst (v := 1) hx hb dX8_gust_126 (by decide) ?_
          refine lv_icmp_ne (tgt := 135) hx hb dX8_gust_127 (by decide) (fun c262 => absurd c262 (by decide)) (fun c262 => ?_)
          refine lv_iload_n hx hb dX8_gust_130 rfl (lv_at hl 7 rfl) ?_
          refine lv_i2l (v := 6) hx hb dX8_gust_131 (by decide) ?_
          refine lv_goto (tgt := 140) hx hb dX8_gust_132 (by decide) ?_
          refine lv_lmul hx hb dX8_gust_140 ?_
          refine lv_topl (fun x263 e263 => ?_)
          obtain rfl : x263 = 6 := e263.trans (by decide)
          refine lv_lstore (lv' := [(10, .long 6), (12, .int 0), (9, .int 1), (5, .long 4), (7, .long 4), (4, .int 1), (0, .ref n), (1, .int 6), (2, .int 0), (3, .int 0)]) hx hb dX8_gust_141 hl (by decide) rfl (fun ls hl => ?_)
          refine lv_iinc (v := 1) (lv' := [(12, .int 1), (10, .long 6), (9, .int 1), (5, .long 4), (7, .long 4), (4, .int 1), (0, .ref n), (1, .int 6), (2, .int 0), (3, .int 0)]) hx hb dX8_gust_143 hl (k := 1) rfl (by decide) (by decide) rfl (fun ls hl => ?_)
          refine lv_goto (tgt := 110) hx hb dX8_gust_146 (by decide) ?_
          refine lv_iload hx hb dX8_gust_110 (lv_at hl 0 rfl) ?_
          refine lv_iload hx hb dX8_gust_112 (lv_at hl 5 rfl) ?_
          refine lv_icmp_ge (tgt := 149) hx hb dX8_gust_114 (by decide) (fun c264 => ?_) (fun c264 => absurd c264 (by decide))
          refine lv_aload_n hx hb dX8_gust_149 rfl (lv_at hl 6 rfl) ?_
          refine lv_iload hx hb dX8_gust_150 (lv_at hl 2 rfl) ?_
          refine lv_aload_n hx hb dX8_gust_152 rfl (lv_at hl 6 rfl) ?_
          refine va_get (D := (dC, dI)) (ci := 8) (v := .int 0) (C := RX8) (T := TX8) (N := 53) hx hb hts hin8 hown hK hP 0 rfl rfl 4 (by decide) hw2 (fun _ h9 => h9) rfl dX8_gust_153 ?_
          refine lv_ishl hx hb dX8_gust_156 ?_
          refine lv_topi (fun x265 e265 => ?_)
          obtain rfl : x265 = 1 := e265.trans (by decide)
          refine va_put (D := (dC, dI)) (ci := 8) (v := .int 1) (ty := .int) (C := RX8) (T := TX8) (N := 53) hx hb hts hin8 tyX8 tyX8_ok nmX8 hown hK hP hD hS 0 rfl rfl 22 (by decide) hw3 (fun _ h9 => h9) rfl (by decide +kernel) rfl rfl (Nat.le_of_ble_eq_true rfl) dX8_gust_157 (fun H locs hP hD hS => ?_)
          replace hP : va_P (dC, dI) vwCl [(n, .inr (8, [.int 800, .int 0, .int 0, .int 0, .int 0, .int 0, .int 0, .ref nwi, .ref nco, .int 0, .ref nqu, .ref nmi, .ref nde, .ref nsa, .ref nsm, .int 0, .ref npa, .int 0, .ref nac, .ref nam, .ref naw, .int 0, .int 1, .int (-6), .int 0, .int 4000, .int (-6), .int (-6), .int 0, .int 0, .ref ncs, .ref nbw, .ref ndc, .ref nmk, .int 800, .int 0, .int 0, .int 0, .int 0, .int 0, .int 0, .ref npo, .int 0, .ref nta, .ref npl, .int 0, .int 0, .ref nmm, .ref ncu, .ref nke, .ref nik, .int 0, .int 0])), (ndc, .inl (cI, 14, .inl (upd (upd (upd (upd (upd (upd (upd (upd (upd (upd (upd (upd (upd (upd (upd (upd (upd (upd (upd (upd (upd (upd (upd (upd (upd (upd (upd (upd (fun _ => 0) 0 0) 1 0) 2 0) 3 0) 4 0) 5 0) 6 0) 7 0) 8 0) 9 0) 10 0) 11 0) 12 0) 13 0) 0 0) 1 0) 2 0) 3 0) 4 0) 5 0) 6 0) 7 0) 8 0) 9 0) 10 0) 11 0) 12 0) 13 0))), (nmk, .inl (cI, 61, .inl (upd (upd (fun _ => 0) 0 5000000) 0 4)))] H := hP
          replace hD : va_D A [(n, .inr (8, [.int 800, .int 0, .int 0, .int 0, .int 0, .int 0, .int 0, .ref nwi, .ref nco, .int 0, .ref nqu, .ref nmi, .ref nde, .ref nsa, .ref nsm, .int 0, .ref npa, .int 0, .ref nac, .ref nam, .ref naw, .int 0, .int 1, .int (-6), .int 0, .int 4000, .int (-6), .int (-6), .int 0, .int 0, .ref ncs, .ref nbw, .ref ndc, .ref nmk, .int 800, .int 0, .int 0, .int 0, .int 0, .int 0, .int 0, .ref npo, .int 0, .ref nta, .ref npl, .int 0, .int 0, .ref nmm, .ref ncu, .ref nke, .ref nik, .int 0, .int 0])), (ndc, .inl (cI, 14, .inl (upd (upd (upd (upd (upd (upd (upd (upd (upd (upd (upd (upd (upd (upd (upd (upd (upd (upd (upd (upd (upd (upd (upd (upd (upd (upd (upd (upd (fun _ => 0) 0 0) 1 0) 2 0) 3 0) 4 0) 5 0) 6 0) 7 0) 8 0) 9 0) 10 0) 11 0) 12 0) 13 0) 0 0) 1 0) 2 0) 3 0) 4 0) 5 0) 6 0) 7 0) 8 0) 9 0) 10 0) 11 0) 12 0) 13 0))), (nmk, .inl (cI, 61, .inl (upd (upd (fun _ => 0) 0 5000000) 0 4)))] := hD
          refine lv_lload hx hb dX8_gust_160 (lv_at hl 4 rfl) ?_
          refine lv_lload hx hb dX8_gust_162 (lv_at hl 1 rfl) ?_
          refine lv_ladd hx hb dX8_gust_164 ?_
          refine lv_topl (fun x266 e266 => ?_)
          obtain rfl : x266 = 10 := e266.trans (by decide)
          refine lv_lstore (lv' := [(7, .long 10), (12, .int 1), (10, .long 6), (9, .int 1), (5, .long 4), (4, .int 1), (0, .ref n), (1, .int 6), (2, .int 0), (3, .int 0)]) hx hb dX8_gust_165 hl (by decide) rfl (fun ls hl => ?_)
          refine lv_lload hx hb dX8_gust_167 (lv_at hl 4 rfl) ?_
          refine lv_lload hx hb dX8_gust_169 (lv_at hl 2 rfl) ?_
          refine lv_aload_n hx hb dX8_gust_171 rfl (lv_at hl 6 rfl) ?_
          refine lv_iload_n hx hb dX8_gust_172 rfl (lv_at hl 8 rfl) ?_
          refine mx_i (wr := []) (va_runV (As := [.int 0]) (rest := [.long 6, .long 4]) ⟨hx, hb, hml, hown, hts⟩ (c_X8_worthOfGusts_0 l dC dI cI cZ cK tS aK aV n nwi nco nqu nmi nde nsa nsm npa nac nam naw ncs nbw ndc nmk npo nta npl nmm ncu nke nik 0 0 0 0 0 0 0 0 0 1 (-6) 0 4000 (-6) (-6) 0 0 800 0 0 0 0 0 0 0 0 0 0 0 (upd (upd (upd (upd (upd (upd (upd (upd (upd (upd (upd (upd (upd (upd (upd (upd (upd (upd (upd (upd (upd (upd (upd (upd (upd (upd (upd (upd (fun _ => 0) 0 0) 1 0) 2 0) 3 0) 4 0) 5 0) 6 0) 7 0) 8 0) 9 0) 10 0) 11 0) 12 0) 13 0) 0 0) 1 0) 2 0) 3 0) 4 0) 5 0) 6 0) 7 0) 8 0) 9 0) 10 0) 11 0) 12 0) 13 0) (upd (upd (fun _ => 0) 0 5000000) 0 4) H.size) (cwV 1 hts (gw_v (fun _ h9 => List.mem_cons_of_mem _ h9) wm_524 wm_525 wm_526 wm_385 wm_527) rfl rfl rfl (by decide +kernel) ⟨Nat.le_of_ble_eq_true rfl, Nat.le_of_ble_eq_true rfl⟩) (mx_preV (C := RX8) (T := TX8) (N := 53) (ci := 8) hKx hP hD hS hA [0, 1, 2] (by decide) rfl rfl rfl) rfl rfl hl.1 rfl (lv_room (Nat.le_of_ble_eq_true rfl)) dX8_gust_173 ⟨Nat.le_of_ble_eq_true rfl, Nat.le_of_ble_eq_true rfl⟩) hP hD hS hA [0, 1, 2] [] rfl rfl (by decide) (by decide) (fun r267 u267 H locs hq267 hP hD hS => ?_)
          replace hP : va_P (dC, dI) vwCl [(n, .inr (8, [.int 800, .int 0, .int 0, .int 0, .int 0, .int 0, .int 0, .ref nwi, .ref nco, .int 0, .ref nqu, .ref nmi, .ref nde, .ref nsa, .ref nsm, .int 0, .ref npa, .int 0, .ref nac, .ref nam, .ref naw, .int 0, .int 1, .int (-6), .int 0, .int 4000, .int (-6), .int (-6), .int 0, .int 0, .ref ncs, .ref nbw, .ref ndc, .ref nmk, .int 800, .int 0, .int 0, .int 0, .int 0, .int 0, .int 0, .ref npo, .int 0, .ref nta, .ref npl, .int 0, .int 0, .ref nmm, .ref ncu, .ref nke, .ref nik, .int 0, .int 0])), (ndc, .inl (cI, 14, .inl (upd (upd (upd (upd (upd (upd (upd (upd (upd (upd (upd (upd (upd (upd (upd (upd (upd (upd (upd (upd (upd (upd (upd (upd (upd (upd (upd (upd (upd (upd (upd (upd (upd (upd (upd (upd (upd (upd (upd (upd (upd (upd (fun _ => 0) 0 0) 1 0) 2 0) 3 0) 4 0) 5 0) 6 0) 7 0) 8 0) 9 0) 10 0) 11 0) 12 0) 13 0) 0 0) 1 0) 2 0) 3 0) 4 0) 5 0) 6 0) 7 0) 8 0) 9 0) 10 0) 11 0) 12 0) 13 0) 0 0) 1 0) 2 0) 3 0) 4 0) 5 0) 6 0) 7 0) 8 0) 9 0) 10 0) 11 0) 12 0) 13 0))), (nmk, .inl (cI, 61, .inl (upd (upd (upd (fun _ => 0) 0 5000000) 0 4) 0 4)))] H := hP
          replace hD : va_D A [(n, .inr (8, [.int 800, .int 0, .int 0, .int 0, .int 0, .int 0, .int 0, .ref nwi, .ref nco, .int 0, .ref nqu, .ref nmi, .ref nde, .ref nsa, .ref nsm, .int 0, .ref npa, .int 0, .ref nac, .ref nam, .ref naw, .int 0, .int 1, .int (-6), .int 0, .int 4000, .int (-6), .int (-6), .int 0, .int 0, .ref ncs, .ref nbw, .ref ndc, .ref nmk, .int 800, .int 0, .int 0, .int 0, .int 0, .int 0, .int 0, .ref npo, .int 0, .ref nta, .ref npl, .int 0, .int 0, .ref nmm, .ref ncu, .ref nke, .ref nik, .int 0, .int 0])), (ndc, .inl (cI, 14, .inl (upd (upd (upd (upd (upd (upd (upd (upd (upd (upd (upd (upd (upd (upd (upd (upd (upd (upd (upd (upd (upd (upd (upd (upd (upd (upd (upd (upd (upd (upd (upd (upd (upd (upd (upd (upd (upd (upd (upd (upd (upd (upd (fun _ => 0) 0 0) 1 0) 2 0) 3 0) 4 0) 5 0) 6 0) 7 0) 8 0) 9 0) 10 0) 11 0) 12 0) 13 0) 0 0) 1 0) 2 0) 3 0) 4 0) 5 0) 6 0) 7 0) 8 0) 9 0) 10 0) 11 0) 12 0) 13 0) 0 0) 1 0) 2 0) 3 0) 4 0) 5 0) 6 0) 7 0) 8 0) 9 0) 10 0) 11 0) 12 0) 13 0))), (nmk, .inl (cI, 61, .inl (upd (upd (upd (fun _ => 0) 0 5000000) 0 4) 0 4)))] := hD
          obtain rfl : r267 = 1 := hq267
          refine lv_i2l (v := 1) hx hb dX8_gust_176 (by decide) ?_
          refine lv_lmul hx hb dX8_gust_177 ?_
          refine lv_topl (fun x268 e268 => ?_)
          obtain rfl : x268 = 6 := e268.trans (by decide)
          refine lv_ladd hx hb dX8_gust_178 ?_
          refine lv_topl (fun x269 e269 => ?_)
          obtain rfl : x269 = 10 := e269.trans (by decide)
          refine lv_lstore (lv' := [(5, .long 10), (7, .long 10), (12, .int 1), (10, .long 6), (9, .int 1), (4, .int 1), (0, .ref n), (1, .int 6), (2, .int 0), (3, .int 0)]) hx hb dX8_gust_179 hl (by decide) rfl (fun ls hl => ?_)
          refine lv_iinc (v := 2) (lv' := [(9, .int 2), (5, .long 10), (7, .long 10), (12, .int 1), (10, .long 6), (4, .int 1), (0, .ref n), (1, .int 6), (2, .int 0), (3, .int 0)]) hx hb dX8_gust_181 hl (k := 4) rfl (by decide) (by decide) rfl (fun ls hl => ?_)
          refine lv_goto (tgt := 95) hx hb dX8_gust_184 (by decide) ?_
          refine lv_iload hx hb dX8_gust_95 (lv_at hl 0 rfl) ?_
          refine lv_iconst (v := 1) hx hb dX8_gust_97 (by decide) ?_
          refine lv_iload hx hb dX8_gust_98 (lv_at hl 5 rfl) ?_
          refine lv_ishl hx hb dX8_gust_100 ?_
          refine lv_topi (fun x270 e270 => ?_)
          obtain rfl : x270 = 2 := e270.trans (by decide)
          refine lv_icmp_ge (tgt := 187) hx hb dX8_gust_101 (by decide) (fun c271 => ?_) (fun c271 => absurd c271 (by decide))
          refine lv_aload_n hx hb dX8_gust_187 rfl (lv_at hl 6 rfl) ?_
          refine lv_iconst (v := 0) hx hb dX8_gust_188 (by decide) ?_
          refine va_put (D := (dC, dI)) (ci := 8) (v := .int 0) (ty := .int) (C := RX8) (T := TX8) (N := 53) hx hb hts hin8 tyX8 tyX8_ok nmX8 hown hK hP hD hS 0 rfl rfl 22 (by decide) hw3 (fun _ h9 => h9) rfl (by decide +kernel) rfl rfl (Nat.le_of_ble_eq_true rfl) dX8_gust_189 (fun H locs hP hD hS => ?_)
          replace hP : va_P (dC, dI) vwCl [(n, .inr (8, [.int 800, .int 0, .int 0, .int 0, .int 0, .int 0, .int 0, .ref nwi, .ref nco, .int 0, .ref nqu, .ref nmi, .ref nde, .ref nsa, .ref nsm, .int 0, .ref npa, .int 0, .ref nac, .ref nam, .ref naw, .int 0, .int 0, .int (-6), .int 0, .int 4000, .int (-6), .int (-6), .int 0, .int 0, .ref ncs, .ref nbw, .ref ndc, .ref nmk, .int 800, .int 0, .int 0, .int 0, .int 0, .int 0, .int 0, .ref npo, .int 0, .ref nta, .ref npl, .int 0, .int 0, .ref nmm, .ref ncu, .ref nke, .ref nik, .int 0, .int 0])), (ndc, .inl (cI, 14, .inl (upd (upd (upd (upd (upd (upd (upd (upd (upd (upd (upd (upd (upd (upd (upd (upd (upd (upd (upd (upd (upd (upd (upd (upd (upd (upd (upd (upd (upd (upd (upd (upd (upd (upd (upd (upd (upd (upd (upd (upd (upd (upd (fun _ => 0) 0 0) 1 0) 2 0) 3 0) 4 0) 5 0) 6 0) 7 0) 8 0) 9 0) 10 0) 11 0) 12 0) 13 0) 0 0) 1 0) 2 0) 3 0) 4 0) 5 0) 6 0) 7 0) 8 0) 9 0) 10 0) 11 0) 12 0) 13 0) 0 0) 1 0) 2 0) 3 0) 4 0) 5 0) 6 0) 7 0) 8 0) 9 0) 10 0) 11 0) 12 0) 13 0))), (nmk, .inl (cI, 61, .inl (upd (upd (upd (fun _ => 0) 0 5000000) 0 4) 0 4)))] H := hP
          replace hD : va_D A [(n, .inr (8, [.int 800, .int 0, .int 0, .int 0, .int 0, .int 0, .int 0, .ref nwi, .ref nco, .int 0, .ref nqu, .ref nmi, .ref nde, .ref nsa, .ref nsm, .int 0, .ref npa, .int 0, .ref nac, .ref nam, .ref naw, .int 0, .int 0, .int (-6), .int 0, .int 4000, .int (-6), .int (-6), .int 0, .int 0, .ref ncs, .ref nbw, .ref ndc, .ref nmk, .int 800, .int 0, .int 0, .int 0, .int 0, .int 0, .int 0, .ref npo, .int 0, .ref nta, .ref npl, .int 0, .int 0, .ref nmm, .ref ncu, .ref nke, .ref nik, .int 0, .int 0])), (ndc, .inl (cI, 14, .inl (upd (upd (upd (upd (upd (upd (upd (upd (upd (upd (upd (upd (upd (upd (upd (upd (upd (upd (upd (upd (upd (upd (upd (upd (upd (upd (upd (upd (upd (upd (upd (upd (upd (upd (upd (upd (upd (upd (upd (upd (upd (upd (fun _ => 0) 0 0) 1 0) 2 0) 3 0) 4 0) 5 0) 6 0) 7 0) 8 0) 9 0) 10 0) 11 0) 12 0) 13 0) 0 0) 1 0) 2 0) 3 0) 4 0) 5 0) 6 0) 7 0) 8 0) 9 0) 10 0) 11 0) 12 0) 13 0) 0 0) 1 0) 2 0) 3 0) 4 0) 5 0) 6 0) 7 0) 8 0) 9 0) 10 0) 11 0) 12 0) 13 0))), (nmk, .inl (cI, 61, .inl (upd (upd (upd (fun _ => 0) 0 5000000) 0 4) 0 4)))] := hD
          refine lv_lload hx hb dX8_gust_192 (lv_at hl 1 rfl) ?_
          refine lv_lload hx hb dX8_gust_194 (lv_at hl 2 rfl) ?_
          refine lv_iload_n hx hb dX8_gust_196 rfl (lv_at hl 9 rfl) ?_
          refine mx_l (wr := [(n, .inr (8, [.int 800, .int 0, .int 0, .int 0, .int 0, .int 0, .int 0, .ref nwi, .ref nco, .int 0, .ref nqu, .ref nmi, .ref nde, .ref nsa, .ref nsm, .int 0, .ref npa, .int 0, .ref nac, .ref nam, .ref naw, .int 0, .int 0, .int (-6), .int 0, .int 4000, .int (-6), .int (-6), .int 0, .int 0, .ref ncs, .ref nbw, .ref ndc, .ref nmk, .int 800, .int 0, .int 0, .int 0, .int 0, .int 0, .int 0, .ref npo, .int 0, .ref nta, .ref npl, .int 0, .int 0, .ref nmm, .ref ncu, .ref nke, .ref nik, .int 0, .int 0])), (ndc, .inl (cI, 14, .inl (upd (upd (upd (upd (upd (upd (upd (upd (upd (upd (upd (upd (upd (upd (upd (upd (upd (upd (upd (upd (upd (upd (upd (upd (upd (upd (upd (upd (upd (upd (upd (upd (upd (upd (upd (upd (upd (upd (upd (upd (upd (upd (fun _ => 0) 0 0) 1 0) 2 0) 3 0) 4 0) 5 0) 6 0) 7 0) 8 0) 9 0) 10 0) 11 0) 12 0) 13 0) 0 0) 1 0) 2 0) 3 0) 4 0) 5 0) 6 0) 7 0) 8 0) 9 0) 10 0) 11 0) 12 0) 13 0) 0 0) 1 0) 2 0) 3 0) 4 0) 5 0) 6 0) 7 0) 8 0) 9 0) 10 0) 11 0) 12 0) 13 0))), (nmk, .inl (cI, 61, .inl (upd (upd (upd (fun _ => 0) 0 5000000) 0 4) 0 4)))]) (va_runS (As := [.long 10, .long 10, .int 0]) (rest := []) ⟨hx, hb, hml, hown, hts⟩ (c_X8_lowest_10_0 l dC dI cI cZ cK tS aK aV  H.size) (va_cwS 3 hts (gw_s (fun _ h9 => List.mem_cons_of_mem _ h9) wm_528 wm_529 wm_385 wm_530) rfl rfl rfl (by decide +kernel) ⟨Nat.le_of_ble_eq_true rfl, Nat.le_of_ble_eq_true rfl⟩) (mx_preS hKx hP hD hS hA [] (by decide) rfl) rfl rfl hl.1 rfl (lv_room (Nat.le_of_ble_eq_true rfl)) dX8_gust_197 ⟨Nat.le_of_ble_eq_true rfl, Nat.le_of_ble_eq_true rfl⟩) hP hD hS hA [] [0, 1, 2] rfl rfl (by decide) (by decide) (fun r272 u272 H locs hq272 hP hD hS => ?_)
          replace hP : va_P (dC, dI) vwCl [(n, .inr (8, [.int 800, .int 0, .int 0, .int 0, .int 0, .int 0, .int 0, .ref nwi, .ref nco, .int 0, .ref nqu, .ref nmi, .ref nde, .ref nsa, .ref nsm, .int 0, .ref npa, .int 0, .ref nac, .ref nam, .ref naw, .int 0, .int 0, .int (-6), .int 0, .int 4000, .int (-6), .int (-6), .int 0, .int 0, .ref ncs, .ref nbw, .ref ndc, .ref nmk, .int 800, .int 0, .int 0, .int 0, .int 0, .int 0, .int 0, .ref npo, .int 0, .ref nta, .ref npl, .int 0, .int 0, .ref nmm, .ref ncu, .ref nke, .ref nik, .int 0, .int 0])), (ndc, .inl (cI, 14, .inl (upd (upd (upd (upd (upd (upd (upd (upd (upd (upd (upd (upd (upd (upd (upd (upd (upd (upd (upd (upd (upd (upd (upd (upd (upd (upd (upd (upd (upd (upd (upd (upd (upd (upd (upd (upd (upd (upd (upd (upd (upd (upd (fun _ => 0) 0 0) 1 0) 2 0) 3 0) 4 0) 5 0) 6 0) 7 0) 8 0) 9 0) 10 0) 11 0) 12 0) 13 0) 0 0) 1 0) 2 0) 3 0) 4 0) 5 0) 6 0) 7 0) 8 0) 9 0) 10 0) 11 0) 12 0) 13 0) 0 0) 1 0) 2 0) 3 0) 4 0) 5 0) 6 0) 7 0) 8 0) 9 0) 10 0) 11 0) 12 0) 13 0))), (nmk, .inl (cI, 61, .inl (upd (upd (upd (fun _ => 0) 0 5000000) 0 4) 0 4)))] H := hP
          replace hD : va_D A [(n, .inr (8, [.int 800, .int 0, .int 0, .int 0, .int 0, .int 0, .int 0, .ref nwi, .ref nco, .int 0, .ref nqu, .ref nmi, .ref nde, .ref nsa, .ref nsm, .int 0, .ref npa, .int 0, .ref nac, .ref nam, .ref naw, .int 0, .int 0, .int (-6), .int 0, .int 4000, .int (-6), .int (-6), .int 0, .int 0, .ref ncs, .ref nbw, .ref ndc, .ref nmk, .int 800, .int 0, .int 0, .int 0, .int 0, .int 0, .int 0, .ref npo, .int 0, .ref nta, .ref npl, .int 0, .int 0, .ref nmm, .ref ncu, .ref nke, .ref nik, .int 0, .int 0])), (ndc, .inl (cI, 14, .inl (upd (upd (upd (upd (upd (upd (upd (upd (upd (upd (upd (upd (upd (upd (upd (upd (upd (upd (upd (upd (upd (upd (upd (upd (upd (upd (upd (upd (upd (upd (upd (upd (upd (upd (upd (upd (upd (upd (upd (upd (upd (upd (fun _ => 0) 0 0) 1 0) 2 0) 3 0) 4 0) 5 0) 6 0) 7 0) 8 0) 9 0) 10 0) 11 0) 12 0) 13 0) 0 0) 1 0) 2 0) 3 0) 4 0) 5 0) 6 0) 7 0) 8 0) 9 0) 10 0) 11 0) 12 0) 13 0) 0 0) 1 0) 2 0) 3 0) 4 0) 5 0) 6 0) 7 0) 8 0) 9 0) 10 0) 11 0) 12 0) 13 0))), (nmk, .inl (cI, 61, .inl (upd (upd (upd (fun _ => 0) 0 5000000) 0 4) 0 4)))] := hD
          obtain rfl : r272 = 1 := hq272
          have hP9 := mx_subP (wc := []) hP [] rfl
          have hD9 := hD.sub (ws' := []) [] (by decide) rfl
          exact W.lret (v := 1) hx hb hr (fun t ht hW => ⟨⟨1, (), rfl, rfl, by rw [ht]; exact hP9, hD9⟩, hS.F ht⟩) hS.2.2 dX8_gust_200
        · have z9 : (7 : Int32).toInt = 7 := rfl
          refine lv_aload_n hx hb dX8_gust_36 rfl (lv_at hl 0 rfl) ?_
          refine mx_i (wr := [(ndc, .inl (cI, 14, .inl (fun _ => 0))), (nmk, .inl (cI, 61, .inl (fun _ => 0)))]) (va_runV (As := []) (rest := []) ⟨hx, hb, hml, hown, hts⟩ (c_X8_faultIn l dC dI cI cZ cK tS aK aV n nwi nco nqu nmi nde nsa nsm npa nac nam naw ncs nbw ndc nmk npo nta npl nmm ncu nke nik 800 0 0 0 0 0 0 0 0 0 0 0 0 0 0 0 0 0 0 0 0 0 0 0 0 0 0 0 0 0 H.size) (cwV 0 hts (gw_v (fun _ h9 => List.mem_cons_of_mem _ h9) wm_453 wm_454 wm_455 wm_385 wm_456) rfl rfl rfl (by decide +kernel) ⟨Nat.le_of_ble_eq_true rfl, Nat.le_of_ble_eq_true rfl⟩) (mx_preV (C := RX8) (T := TX8) (N := 53) (ci := 8) hKx hP hD hS hA [0] (by decide) rfl rfl rfl) rfl rfl hl.1 rfl (lv_room (Nat.le_of_ble_eq_true rfl)) dX8_gust_37 ⟨Nat.le_of_ble_eq_true rfl, Nat.le_of_ble_eq_true rfl⟩) hP hD hS hA [0] [1, 2] rfl rfl (by decide) (by decide) (fun r273 u273 H locs hq273 hP hD hS => ?_)
          replace hP : va_P (dC, dI) vwCl [(ndc, .inl (cI, 14, .inl (fun _ => 0))), (nmk, .inl (cI, 61, .inl (fun _ => 0))), (n, .inr (8, [.int 800, .int 0, .int 0, .int 0, .int 0, .int 0, .int 0, .ref nwi, .ref nco, .int 0, .ref nqu, .ref nmi, .ref nde, .ref nsa, .ref nsm, .int 0, .ref npa, .int 0, .ref nac, .ref nam, .ref naw, .int 0, .int 0, .int 0, .int 0, .int 0, .int 0, .int 0, .int 0, .int 0, .ref ncs, .ref nbw, .ref ndc, .ref nmk, .int 0, .int 0, .int 0, .int 0, .int 0, .int 0, .int 0, .ref npo, .int 0, .ref nta, .ref npl, .int 0, .int 0, .ref nmm, .ref ncu, .ref nke, .ref nik, .int 0, .int 0]))] H := hP
          replace hD : va_D A [(ndc, .inl (cI, 14, .inl (fun _ => 0))), (nmk, .inl (cI, 61, .inl (fun _ => 0))), (n, .inr (8, [.int 800, .int 0, .int 0, .int 0, .int 0, .int 0, .int 0, .ref nwi, .ref nco, .int 0, .ref nqu, .ref nmi, .ref nde, .ref nsa, .ref nsm, .int 0, .ref npa, .int 0, .ref nac, .ref nam, .ref naw, .int 0, .int 0, .int 0, .int 0, .int 0, .int 0, .int 0, .int 0, .int 0, .ref ncs, .ref nbw, .ref ndc, .ref nmk, .int 0, .int 0, .int 0, .int 0, .int 0, .int 0, .int 0, .ref npo, .int 0, .ref nta, .ref npl, .int 0, .int 0, .ref nmm, .ref ncu, .ref nke, .ref nik, .int 0, .int 0]))] := hD
          obtain rfl : r273 = (-6) := hq273
          refine lv_if_lt (tgt := 47) hx hb dX8_gust_40 (by decide) (fun c274 => ?_) (fun c274 => absurd c274 (by decide))
          refine lv_aload_n hx hb dX8_gust_47 rfl (lv_at hl 0 rfl) ?_
          refine mx_v (wr := [(ndc, .inl (cI, 14, .inl (fun _ => 0))), (nmk, .inl (cI, 61, .inl (fun _ => 0)))]) (va_runV (As := []) (rest := []) ⟨hx, hb, hml, hown, hts⟩ (c_X8_keepNow l dC dI cI cZ cK tS aK aV n nwi nco nqu nmi nde nsa nsm npa nac nam naw ncs nbw ndc nmk npo nta npl nmm ncu nke nik 800 0 0 0 0 0 0 0 0 0 0 0 0 0 0 0 0 0 0 0 0 0 0 0 0 0 0 0 0 0 0 H.size) (cwV 0 hts (gw_v (fun _ h9 => List.mem_cons_of_mem _ h9) wm_457 wm_458 wm_459 wm_385 wm_460) rfl rfl rfl (by decide +kernel) ⟨Nat.le_of_ble_eq_true rfl, Nat.le_of_ble_eq_true rfl⟩) (mx_preV (C := RX8) (T := TX8) (N := 53) (ci := 8) hKx hP hD hS hA [2] (by decide) rfl rfl rfl) rfl rfl hl.1 rfl (lv_room (Nat.le_of_ble_eq_true rfl)) dX8_gust_48 ⟨Nat.le_of_ble_eq_true rfl, Nat.le_of_ble_eq_true rfl⟩) hP hD hS hA [2] [0, 1] rfl rfl (by decide) (by decide) (fun u275 H locs hq275 hP hD hS => ?_)
          replace hP : va_P (dC, dI) vwCl [(ndc, .inl (cI, 14, .inl (fun _ => 0))), (nmk, .inl (cI, 61, .inl (fun _ => 0))), (n, .inr (8, [.int 800, .int 0, .int 0, .int 0, .int 0, .int 0, .int 0, .ref nwi, .ref nco, .int 0, .ref nqu, .ref nmi, .ref nde, .ref nsa, .ref nsm, .int 0, .ref npa, .int 0, .ref nac, .ref nam, .ref naw, .int 0, .int 0, .int (-6), .int 0, .int 4000, .int 0, .int 0, .int 0, .int 0, .ref ncs, .ref nbw, .ref ndc, .ref nmk, .int 800, .int 0, .int 0, .int 0, .int 0, .int 0, .int 0, .ref npo, .int 0, .ref nta, .ref npl, .int 0, .int 0, .ref nmm, .ref ncu, .ref nke, .ref nik, .int 0, .int 0]))] H := hP
          replace hD : va_D A [(ndc, .inl (cI, 14, .inl (fun _ => 0))), (nmk, .inl (cI, 61, .inl (fun _ => 0))), (n, .inr (8, [.int 800, .int 0, .int 0, .int 0, .int 0, .int 0, .int 0, .ref nwi, .ref nco, .int 0, .ref nqu, .ref nmi, .ref nde, .ref nsa, .ref nsm, .int 0, .ref npa, .int 0, .ref nac, .ref nam, .ref naw, .int 0, .int 0, .int (-6), .int 0, .int 4000, .int 0, .int 0, .int 0, .int 0, .ref ncs, .ref nbw, .ref ndc, .ref nmk, .int 800, .int 0, .int 0, .int 0, .int 0, .int 0, .int 0, .ref npo, .int 0, .ref nta, .ref npl, .int 0, .int 0, .ref nmm, .ref ncu, .ref nke, .ref nik, .int 0, .int 0]))] := hD
          refine lv_aload_n hx hb dX8_gust_51 rfl (lv_at hl 0 rfl) ?_
          refine mx_i (wr := []) (va_runV (As := []) (rest := []) ⟨hx, hb, hml, hown, hts⟩ (c_X8_canWithoutEnd l dC dI cI cZ cK tS aK aV n nwi nco nqu nmi nde nsa nsm npa nac nam naw ncs nbw ndc nmk npo nta npl nmm ncu nke nik 800 0 0 0 0 0 0 0 0 0 0 (-6) 0 4000 0 0 0 0 800 0 0 0 0 0 0 0 0 0 0 0 (fun _ => 0) (fun _ => 0) H.size) (cwV 0 hts (gw_v (fun _ h9 => List.mem_cons_of_mem _ h9) wm_519 wm_520 wm_521 wm_385 wm_522) rfl rfl rfl (by decide +kernel) ⟨Nat.le_of_ble_eq_true rfl, Nat.le_of_ble_eq_true rfl⟩) (mx_preV (C := RX8) (T := TX8) (N := 53) (ci := 8) hKx hP hD hS hA [2, 0, 1] (by decide) rfl rfl rfl) rfl rfl hl.1 rfl (lv_room (Nat.le_of_ble_eq_true rfl)) dX8_gust_52 ⟨Nat.le_of_ble_eq_true rfl, Nat.le_of_ble_eq_true rfl⟩) hP hD hS hA [2, 0, 1] [] rfl rfl (by decide) (by decide) (fun r276 u276 H locs hq276 hP hD hS => ?_)
          replace hP : va_P (dC, dI) vwCl [(n, .inr (8, [.int 800, .int 0, .int 0, .int 0, .int 0, .int 0, .int 0, .ref nwi, .ref nco, .int 0, .ref nqu, .ref nmi, .ref nde, .ref nsa, .ref nsm, .int 0, .ref npa, .int 0, .ref nac, .ref nam, .ref naw, .int 0, .int 0, .int (-6), .int 0, .int 4000, .int (-6), .int (-6), .int 0, .int 0, .ref ncs, .ref nbw, .ref ndc, .ref nmk, .int 800, .int 0, .int 0, .int 0, .int 0, .int 0, .int 0, .ref npo, .int 0, .ref nta, .ref npl, .int 0, .int 0, .ref nmm, .ref ncu, .ref nke, .ref nik, .int 0, .int 0])), (ndc, .inl (cI, 14, .inl (upd (upd (upd (upd (upd (upd (upd (upd (upd (upd (upd (upd (upd (upd (fun _ => 0) 0 0) 1 0) 2 0) 3 0) 4 0) 5 0) 6 0) 7 0) 8 0) 9 0) 10 0) 11 0) 12 0) 13 0))), (nmk, .inl (cI, 61, .inl (upd (fun _ => 0) 0 5000000)))] H := hP
          replace hD : va_D A [(n, .inr (8, [.int 800, .int 0, .int 0, .int 0, .int 0, .int 0, .int 0, .ref nwi, .ref nco, .int 0, .ref nqu, .ref nmi, .ref nde, .ref nsa, .ref nsm, .int 0, .ref npa, .int 0, .ref nac, .ref nam, .ref naw, .int 0, .int 0, .int (-6), .int 0, .int 4000, .int (-6), .int (-6), .int 0, .int 0, .ref ncs, .ref nbw, .ref ndc, .ref nmk, .int 800, .int 0, .int 0, .int 0, .int 0, .int 0, .int 0, .ref npo, .int 0, .ref nta, .ref npl, .int 0, .int 0, .ref nmm, .ref ncu, .ref nke, .ref nik, .int 0, .int 0])), (ndc, .inl (cI, 14, .inl (upd (upd (upd (upd (upd (upd (upd (upd (upd (upd (upd (upd (upd (upd (fun _ => 0) 0 0) 1 0) 2 0) 3 0) 4 0) 5 0) 6 0) 7 0) 8 0) 9 0) 10 0) 11 0) 12 0) 13 0))), (nmk, .inl (cI, 61, .inl (upd (fun _ => 0) 0 5000000)))] := hD
          obtain rfl : r276 = 1 := hq276
          refine lv_if_ne (tgt := 62) hx hb dX8_gust_55 (by decide) (fun c277 => ?_) (fun c277 => absurd c277 (by decide))
          refine lv_aload_n hx hb dX8_gust_62 rfl (lv_at hl 0 rfl) ?_
          refine va_get (D := (dC, dI)) (ci := 8) (v := .int 0) (C := RX8) (T := TX8) (N := 53) hx hb hts hin8 hown hK hP 0 rfl rfl 39 (by decide) hw1 (fun _ h9 => h9) rfl dX8_gust_63 ?_
          refine lv_aload_n hx hb dX8_gust_66 rfl (lv_at hl 0 rfl) ?_
          refine va_get (D := (dC, dI)) (ci := 8) (v := .int 0) (C := RX8) (T := TX8) (N := 53) hx hb hts hin8 hown hK hP 0 rfl rfl 4 (by decide) hw2 (fun _ h9 => h9) rfl dX8_gust_67 ?_
          refine lv_isub hx hb dX8_gust_70 ?_
          refine lv_topi (fun x278 e278 => ?_)
          obtain rfl : x278 = 0 := e278.trans (by decide)
          refine lv_iconst (v := 1) hx hb dX8_gust_71 (by decide) ?_
          refine lv_iadd hx hb dX8_gust_72 ?_
          refine lv_topi (fun x279 e279 => ?_)
          obtain rfl : x279 = 1 := e279.trans (by decide)
          refine lv_istore (lv' := [(4, .int 1), (0, .ref n), (1, .int 7), (2, .int 0), (3, .int 0)]) hx hb dX8_gust_73 hl (by decide) rfl (fun ls hl => ?_)
          refine lv_iload hx hb dX8_gust_75 (lv_at hl 0 rfl) ?_
          refine lv_bipush (v := 8) hx hb dX8_gust_77 (by decide) ?_
          refine lv_icmp_le (tgt := 86) hx hb dX8_gust_79 (by decide) (fun c280 => ?_) (fun c280 => absurd c280 (by decide))
          refine lv_lconst (v := 0) hx hb dX8_gust_86 (by decide) ?_
          refine lv_lstore (lv' := [(5, .long 0), (4, .int 1), (0, .ref n), (1, .int 7), (2, .int 0), (3, .int 0)]) hx hb dX8_gust_87 hl (by decide) rfl (fun ls hl => ?_)
          refine lv_lconst (v := 0) hx hb dX8_gust_89 (by decide) ?_
          refine lv_lstore (lv' := [(7, .long 0), (5, .long 0), (4, .int 1), (0, .ref n), (1, .int 7), (2, .int 0), (3, .int 0)]) hx hb dX8_gust_90 hl (by decide) rfl (fun ls hl => ?_)
          refine lv_iconst (v := 0) hx hb dX8_gust_92 (by decide) ?_
          refine lv_istore (lv' := [(9, .int 0), (7, .long 0), (5, .long 0), (4, .int 1), (0, .ref n), (1, .int 7), (2, .int 0), (3, .int 0)]) hx hb dX8_gust_93 hl (by decide) rfl (fun ls hl => ?_)
          refine lv_iload hx hb dX8_gust_95 (lv_at hl 0 rfl) ?_
          refine lv_iconst (v := 1) hx hb dX8_gust_97 (by decide) ?_
          refine lv_iload hx hb dX8_gust_98 (lv_at hl 3 rfl) ?_
          refine lv_ishl hx hb dX8_gust_100 ?_
          refine lv_topi (fun x281 e281 => ?_)
          obtain rfl : x281 = 2 := e281.trans (by decide)
          refine lv_icmp_ge (tgt := 187) hx hb dX8_gust_101 (by decide) (fun c282 => absurd c282 (by decide)) (fun c282 => ?_)
          refine lv_lconst (v := 1) hx hb dX8_gust_104 (by decide) ?_
          refine lv_lstore (lv' := [(10, .long 1), (9, .int 0), (7, .long 0), (5, .long 0), (4, .int 1), (0, .ref n), (1, .int 7), (2, .int 0), (3, .int 0)]) hx hb dX8_gust_105 hl (by decide) rfl (fun ls hl => ?_)
          refine lv_iconst (v := 0) hx hb dX8_gust_107 (by decide) ?_
          refine lv_istore (lv' := [(12, .int 0), (10, .long 1), (9, .int 0), (7, .long 0), (5, .long 0), (4, .int 1), (0, .ref n), (1, .int 7), (2, .int 0), (3, .int 0)]) hx hb dX8_gust_108 hl (by decide) rfl (fun ls hl => ?_)
          refine lv_iload hx hb dX8_gust_110 (lv_at hl 0 rfl) ?_
          refine lv_iload hx hb dX8_gust_112 (lv_at hl 5 rfl) ?_
          refine lv_icmp_ge (tgt := 149) hx hb dX8_gust_114 (by decide) (fun c283 => absurd c283 (by decide)) (fun c283 => ?_)
          refine lv_lload hx hb dX8_gust_117 (lv_at hl 1 rfl) ?_
          refine lv_iload hx hb dX8_gust_119 (lv_at hl 2 rfl) ?_
          refine lv_iload hx hb dX8_gust_121 (lv_at hl 0 rfl) ?_
          refine lv_ishr hx hb dX8_gust_123 ?_
          refine lv_topi (fun x284 e284 => ?_)
          obtain rfl : x284 = 0 := e284.trans (by decide)
          refine lv_iconst (v := 1) hx hb dX8_gust_124 (by decide) ?_
          refine lv_iand hx hb dX8_gust_125 ?_
          refine lv_topi (fun x285 e285 => ?_)
          obtain rfl : x285 = 0 := e285.trans (by decide)
          refine lv_iconst (v := 1) hx hb dX8_gust_126 (by decide) ?_
          refine lv_icmp_ne (tgt := 135) hx hb dX8_gust_127 (by decide) (fun c286 => ?_) (fun c286 => absurd c286 (by decide))
          refine lv_bipush (v := 10) hx hb dX8_gust_135 (by decide) ?_
          refine lv_iload_n hx hb dX8_gust_137 rfl (lv_at hl 7 rfl) ?_
          refine lv_isub hx hb dX8_gust_138 ?_
          refine lv_topi (fun x287 e287 => ?_)
          obtain rfl : x287 = 3 := e287.trans (by decide)
          refine lv_i2l (v := 3) hx hb dX8_gust_139 (by decide) ?_
          refine lv_lmul hx hb dX8_gust_140 ?_
          refine lv_topl (fun x288 e288 => ?_)
          obtain rfl : x288 = 3 := e288.trans (by decide)
          refine lv_lstore (lv' := [(10, .long 3), (12, .int 0), (9, .int 0), (7, .long 0), (5, .long 0), (4, .int 1), (0, .ref n), (1, .int 7), (2, .int 0), (3, .int 0)]) hx hb dX8_gust_141 hl (by decide) rfl (fun ls hl => ?_)
          refine lv_iinc (v := 1) (lv' := [(12, .int 1), (10, .long 3), (9, .int 0), (7, .long 0), (5, .long 0), (4, .int 1), (0, .ref n), (1, .int 7), (2, .int 0), (3, .int 0)]) hx hb dX8_gust_143 hl (k := 1) rfl (by decide) (by decide) rfl (fun ls hl => ?_)
          refine lv_goto (tgt := 110) hx hb dX8_gust_146 (by decide) ?_
          refine lv_iload hx hb dX8_gust_110 (lv_at hl 0 rfl) ?_
          refine lv_iload hx hb dX8_gust_112 (lv_at hl 5 rfl) ?_
          refine lv_icmp_ge (tgt := 149) hx hb dX8_gust_114 (by decide) (fun c289 => ?_) (fun c289 => absurd c289 (by decide))
          refine lv_aload_n hx hb dX8_gust_149 rfl (lv_at hl 6 rfl) ?_
          refine lv_iload hx hb dX8_gust_150 (lv_at hl 2 rfl) ?_
          refine lv_aload_n hx hb dX8_gust_152 rfl (lv_at hl 6 rfl) ?_
          refine va_get (D := (dC, dI)) (ci := 8) (v := .int 0) (C := RX8) (T := TX8) (N := 53) hx hb hts hin8 hown hK hP 0 rfl rfl 4 (by decide) hw2 (fun _ h9 => h9) rfl dX8_gust_153 ?_
          refine lv_ishl hx hb dX8_gust_156 ?_
          refine lv_topi (fun x290 e290 => ?_)
          obtain rfl : x290 = 0 := e290.trans (by decide)
          refine va_put (D := (dC, dI)) (ci := 8) (v := .int 0) (ty := .int) (C := RX8) (T := TX8) (N := 53) hx hb hts hin8 tyX8 tyX8_ok nmX8 hown hK hP hD hS 0 rfl rfl 22 (by decide) hw3 (fun _ h9 => h9) rfl (by decide +kernel) rfl rfl (Nat.le_of_ble_eq_true rfl) dX8_gust_157 (fun H locs hP hD hS => ?_)
          replace hP : va_P (dC, dI) vwCl [(n, .inr (8, [.int 800, .int 0, .int 0, .int 0, .int 0, .int 0, .int 0, .ref nwi, .ref nco, .int 0, .ref nqu, .ref nmi, .ref nde, .ref nsa, .ref nsm, .int 0, .ref npa, .int 0, .ref nac, .ref nam, .ref naw, .int 0, .int 0, .int (-6), .int 0, .int 4000, .int (-6), .int (-6), .int 0, .int 0, .ref ncs, .ref nbw, .ref ndc, .ref nmk, .int 800, .int 0, .int 0, .int 0, .int 0, .int 0, .int 0, .ref npo, .int 0, .ref nta, .ref npl, .int 0, .int 0, .ref nmm, .ref ncu, .ref nke, .ref nik, .int 0, .int 0])), (ndc, .inl (cI, 14, .inl (upd (upd (upd (upd (upd (upd (upd (upd (upd (upd (upd (upd (upd (upd (fun _ => 0) 0 0) 1 0) 2 0) 3 0) 4 0) 5 0) 6 0) 7 0) 8 0) 9 0) 10 0) 11 0) 12 0) 13 0))), (nmk, .inl (cI, 61, .inl (upd (fun _ => 0) 0 5000000)))] H := hP
          replace hD : va_D A [(n, .inr (8, [.int 800, .int 0, .int 0, .int 0, .int 0, .int 0, .int 0, .ref nwi, .ref nco, .int 0, .ref nqu, .ref nmi, .ref nde, .ref nsa, .ref nsm, .int 0, .ref npa, .int 0, .ref nac, .ref nam, .ref naw, .int 0, .int 0, .int (-6), .int 0, .int 4000, .int (-6), .int (-6), .int 0, .int 0, .ref ncs, .ref nbw, .ref ndc, .ref nmk, .int 800, .int 0, .int 0, .int 0, .int 0, .int 0, .int 0, .ref npo, .int 0, .ref nta, .ref npl, .int 0, .int 0, .ref nmm, .ref ncu, .ref nke, .ref nik, .int 0, .int 0])), (ndc, .inl (cI, 14, .inl (upd (upd (upd (upd (upd (upd (upd (upd (upd (upd (upd (upd (upd (upd (fun _ => 0) 0 0) 1 0) 2 0) 3 0) 4 0) 5 0) 6 0) 7 0) 8 0) 9 0) 10 0) 11 0) 12 0) 13 0))), (nmk, .inl (cI, 61, .inl (upd (fun _ => 0) 0 5000000)))] := hD
          refine lv_lload hx hb dX8_gust_160 (lv_at hl 3 rfl) ?_
          refine lv_lload hx hb dX8_gust_162 (lv_at hl 1 rfl) ?_
          refine lv_ladd hx hb dX8_gust_164 ?_
          refine lv_topl (fun x291 e291 => ?_)
          obtain rfl : x291 = 3 := e291.trans (by decide)
          refine lv_lstore (lv' := [(7, .long 3), (12, .int 1), (10, .long 3), (9, .int 0), (5, .long 0), (4, .int 1), (0, .ref n), (1, .int 7), (2, .int 0), (3, .int 0)]) hx hb dX8_gust_165 hl (by decide) rfl (fun ls hl => ?_)
          refine lv_lload hx hb dX8_gust_167 (lv_at hl 4 rfl) ?_
          refine lv_lload hx hb dX8_gust_169 (lv_at hl 2 rfl) ?_
          refine lv_aload_n hx hb dX8_gust_171 rfl (lv_at hl 6 rfl) ?_
          refine lv_iload_n hx hb dX8_gust_172 rfl (lv_at hl 8 rfl) ?_
          refine mx_i (wr := []) (va_runV (As := [.int 0]) (rest := [.long 3, .long 0]) ⟨hx, hb, hml, hown, hts⟩ (c_X8_worthOfGusts_0 l dC dI cI cZ cK tS aK aV n nwi nco nqu nmi nde nsa nsm npa nac nam naw ncs nbw ndc nmk npo nta npl nmm ncu nke nik 0 0 0 0 0 0 0 0 0 0 (-6) 0 4000 (-6) (-6) 0 0 800 0 0 0 0 0 0 0 0 0 0 0 (upd (upd (upd (upd (upd (upd (upd (upd (upd (upd (upd (upd (upd (upd (fun _ => 0) 0 0) 1 0) 2 0) 3 0) 4 0) 5 0) 6 0) 7 0) 8 0) 9 0) 10 0) 11 0) 12 0) 13 0) (upd (fun _ => 0) 0 5000000) H.size) (cwV 1 hts (gw_v (fun _ h9 => List.mem_cons_of_mem _ h9) wm_524 wm_525 wm_526 wm_385 wm_527) rfl rfl rfl (by decide +kernel) ⟨Nat.le_of_ble_eq_true rfl, Nat.le_of_ble_eq_true rfl⟩) (mx_preV (C := RX8) (T := TX8) (N := 53) (ci := 8) hKx hP hD hS hA [0, 1, 2] (by decide) rfl rfl rfl) rfl rfl hl.1 rfl (lv_room (Nat.le_of_ble_eq_true rfl)) dX8_gust_173 ⟨Nat.le_of_ble_eq_true rfl, Nat.le_of_ble_eq_true rfl⟩) hP hD hS hA [0, 1, 2] [] rfl rfl (by decide) (by decide) (fun r292 u292 H locs hq292 hP hD hS => ?_)
          replace hP : va_P (dC, dI) vwCl [(n, .inr (8, [.int 800, .int 0, .int 0, .int 0, .int 0, .int 0, .int 0, .ref nwi, .ref nco, .int 0, .ref nqu, .ref nmi, .ref nde, .ref nsa, .ref nsm, .int 0, .ref npa, .int 0, .ref nac, .ref nam, .ref naw, .int 0, .int 0, .int (-6), .int 0, .int 4000, .int (-6), .int (-6), .int 0, .int 0, .ref ncs, .ref nbw, .ref ndc, .ref nmk, .int 800, .int 0, .int 0, .int 0, .int 0, .int 0, .int 0, .ref npo, .int 0, .ref nta, .ref npl, .int 0, .int 0, .ref nmm, .ref ncu, .ref nke, .ref nik, .int 0, .int 0])), (ndc, .inl (cI, 14, .inl (upd (upd (upd (upd (upd (upd (upd (upd (upd (upd (upd (upd (upd (upd (upd (upd (upd (upd (upd (upd (upd (upd (upd (upd (upd (upd (upd (upd (fun _ => 0) 0 0) 1 0) 2 0) 3 0) 4 0) 5 0) 6 0) 7 0) 8 0) 9 0) 10 0) 11 0) 12 0) 13 0) 0 0) 1 0) 2 0) 3 0) 4 0) 5 0) 6 0) 7 0) 8 0) 9 0) 10 0) 11 0) 12 0) 13 0))), (nmk, .inl (cI, 61, .inl (upd (upd (fun _ => 0) 0 5000000) 0 4)))] H := hP
          replace hD : va_D A [(n, .inr (8, [.int 800, .int 0, .int 0, .int 0, .int 0, .int 0, .int 0, .ref nwi, .ref nco, .int 0, .ref nqu, .ref nmi, .ref nde, .ref nsa, .ref nsm, .int 0, .ref npa, .int 0, .ref nac, .ref nam, .ref naw, .int 0, .int 0, .int (-6), .int 0, .int 4000, .int (-6), .int (-6), .int 0, .int 0, .ref ncs, .ref nbw, .ref ndc, .ref nmk, .int 800, .int 0, .int 0, .int 0, .int 0, .int 0, .int 0, .ref npo, .int 0, .ref nta, .ref npl, .int 0, .int 0, .ref nmm, .ref ncu, .ref nke, .ref nik, .int 0, .int 0])), (ndc, .inl (cI, 14, .inl (upd (upd (upd (upd (upd (upd (upd (upd (upd (upd (upd (upd (upd (upd (upd (upd (upd (upd (upd (upd (upd (upd (upd (upd (upd (upd (upd (upd (fun _ => 0) 0 0) 1 0) 2 0) 3 0) 4 0) 5 0) 6 0) 7 0) 8 0) 9 0) 10 0) 11 0) 12 0) 13 0) 0 0) 1 0) 2 0) 3 0) 4 0) 5 0) 6 0) 7 0) 8 0) 9 0) 10 0) 11 0) 12 0) 13 0))), (nmk, .inl (cI, 61, .inl (upd (upd (fun _ => 0) 0 5000000) 0 4)))] := hD
          obtain rfl : r292 = 1 := hq292
          refine lv_i2l (v := 1) hx hb dX8_gust_176 (by decide) ?_
          refine lv_lmul hx hb dX8_gust_177 ?_
          refine lv_topl (fun x293 e293 => ?_)
          obtain rfl : x293 = 3 := e293.trans (by decide)
          refine lv_ladd hx hb dX8_gust_178 ?_
          refine lv_topl (fun x294 e294 => ?_)
          obtain rfl : x294 = 3 := e294.trans (by decide)
          refine lv_lstore (lv' := [(5, .long 3), (7, .long 3), (12, .int 1), (10, .long 3), (9, .int 0), (4, .int 1), (0, .ref n), (1, .int 7), (2, .int 0), (3, .int 0)]) hx hb dX8_gust_179 hl (by decide) rfl (fun ls hl => ?_)
          refine lv_iinc (v := 1) (lv' := [(9, .int 1), (5, .long 3), (7, .long 3), (12, .int 1), (10, .long 3), (4, .int 1), (0, .ref n), (1, .int 7), (2, .int 0), (3, .int 0)]) hx hb dX8_gust_181 hl (k := 4) rfl (by decide) (by decide) rfl (fun ls hl => ?_)
          refine lv_goto (tgt := 95) hx hb dX8_gust_184 (by decide) ?_
          refine lv_iload hx hb dX8_gust_95 (lv_at hl 0 rfl) ?_
          refine lv_iconst (v := 1) hx hb dX8_gust_97 (by decide) ?_
          refine lv_iload hx hb dX8_gust_98 (lv_at hl 5 rfl) ?_
          refine lv_ishl hx hb dX8_gust_100 ?_
          refine lv_topi (fun x295 e295 => ?_)
          obtain rfl : x295 = 2 := e295.trans (by decide)
          refine lv_icmp_ge (tgt := 187) hx hb dX8_gust_101 (by decide) (fun c296 => absurd c296 (by decide)) (fun c296 => ?_)
          refine lv_lconst (v := 1) hx hb dX8_gust_104 (by decide) ?_
          refine lv_lstore (lv' := [(10, .long 1), (9, .int 1), (5, .long 3), (7, .long 3), (12, .int 1), (4, .int 1), (0, .ref n), (1, .int 7), (2, .int 0), (3, .int 0)]) hx hb dX8_gust_105 hl (by decide) rfl (fun ls hl => ?_)
          refine lv_iconst (v := 0) hx hb dX8_gust_107 (by decide) ?_
          refine lv_istore (lv' := [(12, .int 0), (10, .long 1), (9, .int 1), (5, .long 3), (7, .long 3), (4, .int 1), (0, .ref n), (1, .int 7), (2, .int 0), (3, .int 0)]) hx hb dX8_gust_108 hl (by decide) rfl (fun ls hl => ?_)
          refine lv_iload hx hb dX8_gust_110 (lv_at hl 0 rfl) ?_
          refine lv_iload hx hb dX8_gust_112 (lv_at hl 5 rfl) ?_
          refine lv_icmp_ge (tgt := 149) hx hb dX8_gust_114 (by decide) (fun c297 => absurd c297 (by decide)) (fun c297 => ?_)
          refine lv_lload hx hb dX8_gust_117 (lv_at hl 1 rfl) ?_
          refine lv_iload hx hb dX8_gust_119 (lv_at hl 2 rfl) ?_
          refine lv_iload hx hb dX8_gust_121 (lv_at hl 0 rfl) ?_
          refine lv_ishr hx hb dX8_gust_123 ?_
          refine lv_topi (fun x298 e298 => ?_)
          obtain rfl : x298 = 1 := e298.trans (by decide)
          refine lv_iconst (v := 1) hx hb dX8_gust_124 (by decide) ?_
          refine lv_iand hx hb dX8_gust_125 ?_
          refine lv_topi (fun x299 e299 => ?_)
          obtain rfl : x299 = 1 := e299.trans (by decide)
          refine lv_iconst (v := 1) hx hb dX8_gust_126 (by decide) ?_
          refine lv_icmp_ne (tgt := 135) hx hb dX8_gust_127 (by decide) (fun c300 => absurd c300 (by decide)) (fun c300 => ?_)
          refine lv_iload_n hx hb dX8_gust_130 rfl (lv_at hl 7 rfl) ?_
          refine lv_i2l (v := 7) hx hb dX8_gust_131 (by decide) ?_
          refine lv_goto (tgt := 140) hx hb dX8_gust_132 (by decide) ?_
          refine lv_lmul hx hb dX8_gust_140 ?_
          refine lv_topl (fun x301 e301 => ?_)
          obtain rfl : x301 = 7 := e301.trans (by decide)
          refine lv_lstore (lv' := [(10, .long 7), (12, .int 0), (9, .int 1), (5, .long 3), (7, .long 3), (4, .int 1), (0, .ref n), (1, .int 7), (2, .int 0), (3, .int 0)]) hx hb dX8_gust_141 hl (by decide) rfl (fun ls hl => ?_)
          refine lv_iinc (v := 1) (lv' := [(12, .int 1), (10, .long 7), (9, .int 1), (5, .long 3), (7, .long 3), (4, .int 1), (0, .ref n), (1, .int 7), (2, .int 0), (3, .int 0)]) hx hb dX8_gust_143 hl (k := 1) rfl (by decide) (by decide) rfl (fun ls hl => ?_)
          refine lv_goto (tgt := 110) hx hb dX8_gust_146 (by decide) ?_
          refine lv_iload hx hb dX8_gust_110 (lv_at hl 0 rfl) ?_
          refine lv_iload hx hb dX8_gust_112 (lv_at hl 5 rfl) ?_
          refine lv_icmp_ge (tgt := 149) hx hb dX8_gust_114 (by decide) (fun c302 => ?_) (fun c302 => absurd c302 (by decide))
          refine lv_aload_n hx hb dX8_gust_149 rfl (lv_at hl 6 rfl) ?_
          refine lv_iload hx hb dX8_gust_150 (lv_at hl 2 rfl) ?_
          refine lv_aload_n hx hb dX8_gust_152 rfl (lv_at hl 6 rfl) ?_
          refine va_get (D := (dC, dI)) (ci := 8) (v := .int 0) (C := RX8) (T := TX8) (N := 53) hx hb hts hin8 hown hK hP 0 rfl rfl 4 (by decide) hw2 (fun _ h9 => h9) rfl dX8_gust_153 ?_
          refine lv_ishl hx hb dX8_gust_156 ?_
          refine lv_topi (fun x303 e303 => ?_)
          obtain rfl : x303 = 1 := e303.trans (by decide)
          refine va_put (D := (dC, dI)) (ci := 8) (v := .int 1) (ty := .int) (C := RX8) (T := TX8) (N := 53) hx hb hts hin8 tyX8 tyX8_ok nmX8 hown hK hP hD hS 0 rfl rfl 22 (by decide) hw3 (fun _ h9 => h9) rfl (by decide +kernel) rfl rfl (Nat.le_of_ble_eq_true rfl) dX8_gust_157 (fun H locs hP hD hS => ?_)
          replace hP : va_P (dC, dI) vwCl [(n, .inr (8, [.int 800, .int 0, .int 0, .int 0, .int 0, .int 0, .int 0, .ref nwi, .ref nco, .int 0, .ref nqu, .ref nmi, .ref nde, .ref nsa, .ref nsm, .int 0, .ref npa, .int 0, .ref nac, .ref nam, .ref naw, .int 0, .int 1, .int (-6), .int 0, .int 4000, .int (-6), .int (-6), .int 0, .int 0, .ref ncs, .ref nbw, .ref ndc, .ref nmk, .int 800, .int 0, .int 0, .int 0, .int 0, .int 0, .int 0, .ref npo, .int 0, .ref nta, .ref npl, .int 0, .int 0, .ref nmm, .ref ncu, .ref nke, .ref nik, .int 0, .int 0])), (ndc, .inl (cI, 14, .inl (upd (upd (upd (upd (upd (upd (upd (upd (upd (upd (upd (upd (upd (upd (upd (upd (upd (upd (upd (upd (upd (upd (upd (upd (upd (upd (upd (upd (fun _ => 0) 0 0) 1 0) 2 0) 3 0) 4 0) 5 0) 6 0) 7 0) 8 0) 9 0) 10 0) 11 0) 12 0) 13 0) 0 0) 1 0) 2 0) 3 0) 4 0) 5 0) 6 0) 7 0) 8 0) 9 0) 10 0) 11 0) 12 0) 13 0))), (nmk, .inl (cI, 61, .inl (upd (upd (fun _ => 0) 0 5000000) 0 4)))] H := hP
          replace hD : va_D A [(n, .inr (8, [.int 800, .int 0, .int 0, .int 0, .int 0, .int 0, .int 0, .ref nwi, .ref nco, .int 0, .ref nqu, .ref nmi, .ref nde, .ref nsa, .ref nsm, .int 0, .ref npa, .int 0, .ref nac, .ref nam, .ref naw, .int 0, .int 1, .int (-6), .int 0, .int 4000, .int (-6), .int (-6), .int 0, .int 0, .ref ncs, .ref nbw, .ref ndc, .ref nmk, .int 800, .int 0, .int 0, .int 0, .int 0, .int 0, .int 0, .ref npo, .int 0, .ref nta, .ref npl, .int 0, .int 0, .ref nmm, .ref ncu, .ref nke, .ref nik, .int 0, .int 0])), (ndc, .inl (cI, 14, .inl (upd (upd (upd (upd (upd (upd (upd (upd (upd (upd (upd (upd (upd (upd (upd (upd (upd (upd (upd (upd (upd (upd (upd (upd (upd (upd (upd (upd (fun _ => 0) 0 0) 1 0) 2 0) 3 0) 4 0) 5 0) 6 0) 7 0) 8 0) 9 0) 10 0) 11 0) 12 0) 13 0) 0 0) 1 0) 2 0) 3 0) 4 0) 5 0) 6 0) 7 0) 8 0) 9 0) 10 0) 11 0) 12 0) 13 0))), (nmk, .inl (cI, 61, .inl (upd (upd (fun _ => 0) 0 5000000) 0 4)))] := hD
          refine lv_lload hx hb dX8_gust_160 (lv_at hl 4 rfl) ?_
          refine lv_lload hx hb dX8_gust_162 (lv_at hl 1 rfl) ?_
          refine lv_ladd hx hb dX8_gust_164 ?_
          refine lv_topl (fun x304 e304 => ?_)
          obtain rfl : x304 = 10 := e304.trans (by decide)
          refine lv_lstore (lv' := [(7, .long 10), (12, .int 1), (10, .long 7), (9, .int 1), (5, .long 3), (4, .int 1), (0, .ref n), (1, .int 7), (2, .int 0), (3, .int 0)]) hx hb dX8_gust_165 hl (by decide) rfl (fun ls hl => ?_)
          refine lv_lload hx hb dX8_gust_167 (lv_at hl 4 rfl) ?_
          refine lv_lload hx hb dX8_gust_169 (lv_at hl 2 rfl) ?_
          refine lv_aload_n hx hb dX8_gust_171 rfl (lv_at hl 6 rfl) ?_
          refine lv_iload_n hx hb dX8_gust_172 rfl (lv_at hl 8 rfl) ?_
          refine mx_i (wr := []) (va_runV (As := [.int 0]) (rest := [.long 7, .long 3]) ⟨hx, hb, hml, hown, hts⟩ (c_X8_worthOfGusts_0 l dC dI cI cZ cK tS aK aV n nwi nco nqu nmi nde nsa nsm npa nac nam naw ncs nbw ndc nmk npo nta npl nmm ncu nke nik 0 0 0 0 0 0 0 0 0 1 (-6) 0 4000 (-6) (-6) 0 0 800 0 0 0 0 0 0 0 0 0 0 0 (upd (upd (upd (upd (upd (upd (upd (upd (upd (upd (upd (upd (upd (upd (upd (upd (upd (upd (upd (upd (upd (upd (upd (upd (upd (upd (upd (upd (fun _ => 0) 0 0) 1 0) 2 0) 3 0) 4 0) 5 0) 6 0) 7 0) 8 0) 9 0) 10 0) 11 0) 12 0) 13 0) 0 0) 1 0) 2 0) 3 0) 4 0) 5 0) 6 0) 7 0) 8 0) 9 0) 10 0) 11 0) 12 0) 13 0) (upd (upd (fun _ => 0) 0 5000000) 0 4) H.size) (cwV 1 hts (gw_v (fun _ h9 => List.mem_cons_of_mem _ h9) wm_524 wm_525 wm_526 wm_385 wm_527) rfl rfl rfl (by decide +kernel) ⟨Nat.le_of_ble_eq_true rfl, Nat.le_of_ble_eq_true rfl⟩) (mx_preV (C := RX8) (T := TX8) (N := 53) (ci := 8) hKx hP hD hS hA [0, 1, 2] (by decide) rfl rfl rfl) rfl rfl hl.1 rfl (lv_room (Nat.le_of_ble_eq_true rfl)) dX8_gust_173 ⟨Nat.le_of_ble_eq_true rfl, Nat.le_of_ble_eq_true rfl⟩) hP hD hS hA [0, 1, 2] [] rfl rfl (by decide) (by decide) (fun r305 u305 H locs hq305 hP hD hS => ?_)
          replace hP : va_P (dC, dI) vwCl [(n, .inr (8, [.int 800, .int 0, .int 0, .int 0, .int 0, .int 0, .int 0, .ref nwi, .ref nco, .int 0, .ref nqu, .ref nmi, .ref nde, .ref nsa, .ref nsm, .int 0, .ref npa, .int 0, .ref nac, .ref nam, .ref naw, .int 0, .int 1, .int (-6), .int 0, .int 4000, .int (-6), .int (-6), .int 0, .int 0, .ref ncs, .ref nbw, .ref ndc, .ref nmk, .int 800, .int 0, .int 0, .int 0, .int 0, .int 0, .int 0, .ref npo, .int 0, .ref nta, .ref npl, .int 0, .int 0, .ref nmm, .ref ncu, .ref nke, .ref nik, .int 0, .int 0])), (ndc, .inl (cI, 14, .inl (upd (upd (upd (upd (upd (upd (upd (upd (upd (upd (upd (upd (upd (upd (upd (upd (upd (upd (upd (upd (upd (upd (upd (upd (upd (upd (upd (upd (upd (upd (upd (upd (upd (upd (upd (upd (upd (upd (upd (upd (upd (upd (fun _ => 0) 0 0) 1 0) 2 0) 3 0) 4 0) 5 0) 6 0) 7 0) 8 0) 9 0) 10 0) 11 0) 12 0) 13 0) 0 0) 1 0) 2 0) 3 0) 4 0) 5 0) 6 0) 7 0) 8 0) 9 0) 10 0) 11 0) 12 0) 13 0) 0 0) 1 0) 2 0) 3 0) 4 0) 5 0) 6 0) 7 0) 8 0) 9 0) 10 0) 11 0) 12 0) 13 0))), (nmk, .inl (cI, 61, .inl (upd (upd (upd (fun _ => 0) 0 5000000) 0 4) 0 4)))] H := hP
          replace hD : va_D A [(n, .inr (8, [.int 800, .int 0, .int 0, .int 0, .int 0, .int 0, .int 0, .ref nwi, .ref nco, .int 0, .ref nqu, .ref nmi, .ref nde, .ref nsa, .ref nsm, .int 0, .ref npa, .int 0, .ref nac, .ref nam, .ref naw, .int 0, .int 1, .int (-6), .int 0, .int 4000, .int (-6), .int (-6), .int 0, .int 0, .ref ncs, .ref nbw, .ref ndc, .ref nmk, .int 800, .int 0, .int 0, .int 0, .int 0, .int 0, .int 0, .ref npo, .int 0, .ref nta, .ref npl, .int 0, .int 0, .ref nmm, .ref ncu, .ref nke, .ref nik, .int 0, .int 0])), (ndc, .inl (cI, 14, .inl (upd (upd (upd (upd (upd (upd (upd (upd (upd (upd (upd (upd (upd (upd (upd (upd (upd (upd (upd (upd (upd (upd (upd (upd (upd (upd (upd (upd (upd (upd (upd (upd (upd (upd (upd (upd (upd (upd (upd (upd (upd (upd (fun _ => 0) 0 0) 1 0) 2 0) 3 0) 4 0) 5 0) 6 0) 7 0) 8 0) 9 0) 10 0) 11 0) 12 0) 13 0) 0 0) 1 0) 2 0) 3 0) 4 0) 5 0) 6 0) 7 0) 8 0) 9 0) 10 0) 11 0) 12 0) 13 0) 0 0) 1 0) 2 0) 3 0) 4 0) 5 0) 6 0) 7 0) 8 0) 9 0) 10 0) 11 0) 12 0) 13 0))), (nmk, .inl (cI, 61, .inl (upd (upd (upd (fun _ => 0) 0 5000000) 0 4) 0 4)))] := hD
          obtain rfl : r305 = 1 := hq305
          refine lv_i2l (v := 1) hx hb dX8_gust_176 (by decide) ?_
          refine lv_lmul hx hb dX8_gust_177 ?_
          refine lv_topl (fun x306 e306 => ?_)
          obtain rfl : x306 = 7 := e306.trans (by decide)
          refine lv_ladd hx hb dX8_gust_178 ?_
          refine lv_topl (fun x307 e307 => ?_)
          obtain rfl : x307 = 10 := e307.trans (by decide)
          refine lv_lstore (lv' := [(5, .long 10), (7, .long 10), (12, .int 1), (10, .long 7), (9, .int 1), (4, .int 1), (0, .ref n), (1, .int 7), (2, .int 0), (3, .int 0)]) hx hb dX8_gust_179 hl (by decide) rfl (fun ls hl => ?_)
          refine lv_iinc (v := 2) (lv' := [(9, .int 2), (5, .long 10), (7, .long 10), (12, .int 1), (10, .long 7), (4, .int 1), (0, .ref n), (1, .int 7), (2, .int 0), (3, .int 0)]) hx hb dX8_gust_181 hl (k := 4) rfl (by decide) (by decide) rfl (fun ls hl => ?_)
          refine lv_goto (tgt := 95) hx hb dX8_gust_184 (by decide) ?_
          refine lv_iload hx hb dX8_gust_95 (lv_at hl 0 rfl) ?_
          refine lv_iconst (v := 1) hx hb dX8_gust_97 (by decide) ?_
          refine lv_iload hx hb dX8_gust_98 (lv_at hl 5 rfl) ?_
          refine lv_ishl hx hb dX8_gust_100 ?_
          refine lv_topi (fun x308 e308 => ?_)
          obtain rfl : x308 = 2 := e308.trans (by decide)
          refine lv_icmp_ge (tgt := 187) hx hb dX8_gust_101 (by decide) (fun c309 => ?_) (fun c309 => absurd c309 (by decide))
          refine lv_aload_n hx hb dX8_gust_187 rfl (lv_at hl 6 rfl) ?_
          refine lv_iconst (v := 0) hx hb dX8_gust_188 (by decide) ?_
          refine va_put (D := (dC, dI)) (ci := 8) (v := .int 0) (ty := .int) (C := RX8) (T := TX8) (N := 53) hx hb hts hin8 tyX8 tyX8_ok nmX8 hown hK hP hD hS 0 rfl rfl 22 (by decide) hw3 (fun _ h9 => h9) rfl (by decide +kernel) rfl rfl (Nat.le_of_ble_eq_true rfl) dX8_gust_189 (fun H locs hP hD hS => ?_)
          replace hP : va_P (dC, dI) vwCl [(n, .inr (8, [.int 800, .int 0, .int 0, .int 0, .int 0, .int 0, .int 0, .ref nwi, .ref nco, .int 0, .ref nqu, .ref nmi, .ref nde, .ref nsa, .ref nsm, .int 0, .ref npa, .int 0, .ref nac, .ref nam, .ref naw, .int 0, .int 0, .int (-6), .int 0, .int 4000, .int (-6), .int (-6), .int 0, .int 0, .ref ncs, .ref nbw, .ref ndc, .ref nmk, .int 800, .int 0, .int 0, .int 0, .int 0, .int 0, .int 0, .ref npo, .int 0, .ref nta, .ref npl, .int 0, .int 0, .ref nmm, .ref ncu, .ref nke, .ref nik, .int 0, .int 0])), (ndc, .inl (cI, 14, .inl (upd (upd (upd (upd (upd (upd (upd (upd (upd (upd (upd (upd (upd (upd (upd (upd (upd (upd (upd (upd (upd (upd (upd (upd (upd (upd (upd (upd (upd (upd (upd (upd (upd (upd (upd (upd (upd (upd (upd (upd (upd (upd (fun _ => 0) 0 0) 1 0) 2 0) 3 0) 4 0) 5 0) 6 0) 7 0) 8 0) 9 0) 10 0) 11 0) 12 0) 13 0) 0 0) 1 0) 2 0) 3 0) 4 0) 5 0) 6 0) 7 0) 8 0) 9 0) 10 0) 11 0) 12 0) 13 0) 0 0) 1 0) 2 0) 3 0) 4 0) 5 0) 6 0) 7 0) 8 0) 9 0) 10 0) 11 0) 12 0) 13 0))), (nmk, .inl (cI, 61, .inl (upd (upd (upd (fun _ => 0) 0 5000000) 0 4) 0 4)))] H := hP
          replace hD : va_D A [(n, .inr (8, [.int 800, .int 0, .int 0, .int 0, .int 0, .int 0, .int 0, .ref nwi, .ref nco, .int 0, .ref nqu, .ref nmi, .ref nde, .ref nsa, .ref nsm, .int 0, .ref npa, .int 0, .ref nac, .ref nam, .ref naw, .int 0, .int 0, .int (-6), .int 0, .int 4000, .int (-6), .int (-6), .int 0, .int 0, .ref ncs, .ref nbw, .ref ndc, .ref nmk, .int 800, .int 0, .int 0, .int 0, .int 0, .int 0, .int 0, .ref npo, .int 0, .ref nta, .ref npl, .int 0, .int 0, .ref nmm, .ref ncu, .ref nke, .ref nik, .int 0, .int 0])), (ndc, .inl (cI, 14, .inl (upd (upd (upd (upd (upd (upd (upd (upd (upd (upd (upd (upd (upd (upd (upd (upd (upd (upd (upd (upd (upd (upd (upd (upd (upd (upd (upd (upd (upd (upd (upd (upd (upd (upd (upd (upd (upd (upd (upd (upd (upd (upd (fun _ => 0) 0 0) 1 0) 2 0) 3 0) 4 0) 5 0) 6 0) 7 0) 8 0) 9 0) 10 0) 11 0) 12 0) 13 0) 0 0) 1 0) 2 0) 3 0) 4 0) 5 0) 6 0) 7 0) 8 0) 9 0) 10 0) 11 0) 12 0) 13 0) 0 0) 1 0) 2 0) 3 0) 4 0) 5 0) 6 0) 7 0) 8 0) 9 0) 10 0) 11 0) 12 0) 13 0))), (nmk, .inl (cI, 61, .inl (upd (upd (upd (fun _ => 0) 0 5000000) 0 4) 0 4)))] := hD
          refine lv_lload hx hb dX8_gust_192 (lv_at hl 1 rfl) ?_
          refine lv_lload hx hb dX8_gust_194 (lv_at hl 2 rfl) ?_
          refine lv_iload_n hx hb dX8_gust_196 rfl (lv_at hl 9 rfl) ?_
          refine mx_l (wr := [(n, .inr (8, [.int 800, .int 0, .int 0, .int 0, .int 0, .int 0, .int 0, .ref nwi, .ref nco, .int 0, .ref nqu, .ref nmi, .ref nde, .ref nsa, .ref nsm, .int 0, .ref npa, .int 0, .ref nac, .ref nam, .ref naw, .int 0, .int 0, .int (-6), .int 0, .int 4000, .int (-6), .int (-6), .int 0, .int 0, .ref ncs, .ref nbw, .ref ndc, .ref nmk, .int 800, .int 0, .int 0, .int 0, .int 0, .int 0, .int 0, .ref npo, .int 0, .ref nta, .ref npl, .int 0, .int 0, .ref nmm, .ref ncu, .ref nke, .ref nik, .int 0, .int 0])), (ndc, .inl (cI, 14, .inl (upd (upd (upd (upd (upd (upd (upd (upd (upd (upd (upd (upd (upd (upd (upd (upd (upd (upd (upd (upd (upd (upd (upd (upd (upd (upd (upd (upd (upd (upd (upd (upd (upd (upd (upd (upd (upd (upd (upd (upd (upd (upd (fun _ => 0) 0 0) 1 0) 2 0) 3 0) 4 0) 5 0) 6 0) 7 0) 8 0) 9 0) 10 0) 11 0) 12 0) 13 0) 0 0) 1 0) 2 0) 3 0) 4 0) 5 0) 6 0) 7 0) 8 0) 9 0) 10 0) 11 0) 12 0) 13 0) 0 0) 1 0) 2 0) 3 0) 4 0) 5 0) 6 0) 7 0) 8 0) 9 0) 10 0) 11 0) 12 0) 13 0))), (nmk, .inl (cI, 61, .inl (upd (upd (upd (fun _ => 0) 0 5000000) 0 4) 0 4)))]) (va_runS (As := [.long 10, .long 10, .int 0]) (rest := []) ⟨hx, hb, hml, hown, hts⟩ (c_X8_lowest_10_0 l dC dI cI cZ cK tS aK aV  H.size) (va_cwS 3 hts (gw_s (fun _ h9 => List.mem_cons_of_mem _ h9) wm_528 wm_529 wm_385 wm_530) rfl rfl rfl (by decide +kernel) ⟨Nat.le_of_ble_eq_true rfl, Nat.le_of_ble_eq_true rfl⟩) (mx_preS hKx hP hD hS hA [] (by decide) rfl) rfl rfl hl.1 rfl (lv_room (Nat.le_of_ble_eq_true rfl)) dX8_gust_197 ⟨Nat.le_of_ble_eq_true rfl, Nat.le_of_ble_eq_true rfl⟩) hP hD hS hA [] [0, 1, 2] rfl rfl (by decide) (by decide) (fun r310 u310 H locs hq310 hP hD hS => ?_)
          replace hP : va_P (dC, dI) vwCl [(n, .inr (8, [.int 800, .int 0, .int 0, .int 0, .int 0, .int 0, .int 0, .ref nwi, .ref nco, .int 0, .ref nqu, .ref nmi, .ref nde, .ref nsa, .ref nsm, .int 0, .ref npa, .int 0, .ref nac, .ref nam, .ref naw, .int 0, .int 0, .int (-6), .int 0, .int 4000, .int (-6), .int (-6), .int 0, .int 0, .ref ncs, .ref nbw, .ref ndc, .ref nmk, .int 800, .int 0, .int 0, .int 0, .int 0, .int 0, .int 0, .ref npo, .int 0, .ref nta, .ref npl, .int 0, .int 0, .ref nmm, .ref ncu, .ref nke, .ref nik, .int 0, .int 0])), (ndc, .inl (cI, 14, .inl (upd (upd (upd (upd (upd (upd (upd (upd (upd (upd (upd (upd (upd (upd (upd (upd (upd (upd (upd (upd (upd (upd (upd (upd (upd (upd (upd (upd (upd (upd (upd (upd (upd (upd (upd (upd (upd (upd (upd (upd (upd (upd (fun _ => 0) 0 0) 1 0) 2 0) 3 0) 4 0) 5 0) 6 0) 7 0) 8 0) 9 0) 10 0) 11 0) 12 0) 13 0) 0 0) 1 0) 2 0) 3 0) 4 0) 5 0) 6 0) 7 0) 8 0) 9 0) 10 0) 11 0) 12 0) 13 0) 0 0) 1 0) 2 0) 3 0) 4 0) 5 0) 6 0) 7 0) 8 0) 9 0) 10 0) 11 0) 12 0) 13 0))), (nmk, .inl (cI, 61, .inl (upd (upd (upd (fun _ => 0) 0 5000000) 0 4) 0 4)))] H := hP
          replace hD : va_D A [(n, .inr (8, [.int 800, .int 0, .int 0, .int 0, .int 0, .int 0, .int 0, .ref nwi, .ref nco, .int 0, .ref nqu, .ref nmi, .ref nde, .ref nsa, .ref nsm, .int 0, .ref npa, .int 0, .ref nac, .ref nam, .ref naw, .int 0, .int 0, .int (-6), .int 0, .int 4000, .int (-6), .int (-6), .int 0, .int 0, .ref ncs, .ref nbw, .ref ndc, .ref nmk, .int 800, .int 0, .int 0, .int 0, .int 0, .int 0, .int 0, .ref npo, .int 0, .ref nta, .ref npl, .int 0, .int 0, .ref nmm, .ref ncu, .ref nke, .ref nik, .int 0, .int 0])), (ndc, .inl (cI, 14, .inl (upd (upd (upd (upd (upd (upd (upd (upd (upd (upd (upd (upd (upd (upd (upd (upd (upd (upd (upd (upd (upd (upd (upd (upd (upd (upd (upd (upd (upd (upd (upd (upd (upd (upd (upd (upd (upd (upd (upd (upd (upd (upd (fun _ => 0) 0 0) 1 0) 2 0) 3 0) 4 0) 5 0) 6 0) 7 0) 8 0) 9 0) 10 0) 11 0) 12 0) 13 0) 0 0) 1 0) 2 0) 3 0) 4 0) 5 0) 6 0) 7 0) 8 0) 9 0) 10 0) 11 0) 12 0) 13 0) 0 0) 1 0) 2 0) 3 0) 4 0) 5 0) 6 0) 7 0) 8 0) 9 0) 10 0) 11 0) 12 0) 13 0))), (nmk, .inl (cI, 61, .inl (upd (upd (upd (fun _ => 0) 0 5000000) 0 4) 0 4)))] := hD
          obtain rfl : r310 = 1 := hq310
          have hP9 := mx_subP (wc := []) hP [] rfl
          have hD9 := hD.sub (ws' := []) [] (by decide) rfl
          exact W.lret (v := 1) hx hb hr (fun t ht hW => ⟨⟨1, (), rfl, rfl, by rw [ht]; exact hP9, hD9⟩, hS.F ht⟩) hS.2.2 dX8_gust_200
        · have z9 : (8 : Int32).toInt = 8 := rfl
          refine lv_aload_n hx hb dX8_gust_36 rfl (lv_at hl 0 rfl) ?_
          refine mx_i (wr := [(ndc, .inl (cI, 14, .inl (fun _ => 0))), (nmk, .inl (cI, 61, .inl (fun _ => 0)))]) (va_runV (As := []) (rest := []) ⟨hx, hb, hml, hown, hts⟩ (c_X8_faultIn l dC dI cI cZ cK tS aK aV n nwi nco nqu nmi nde nsa nsm npa nac nam naw ncs nbw ndc nmk npo nta npl nmm ncu nke nik 800 0 0 0 0 0 0 0 0 0 0 0 0 0 0 0 0 0 0 0 0 0 0 0 0 0 0 0 0 0 H.size) (cwV 0 hts (gw_v (fun _ h9 => List.mem_cons_of_mem _ h9) wm_453 wm_454 wm_455 wm_385 wm_456) rfl rfl rfl (by decide +kernel) ⟨Nat.le_of_ble_eq_true rfl, Nat.le_of_ble_eq_true rfl⟩) (mx_preV (C := RX8) (T := TX8) (N := 53) (ci := 8) hKx hP hD hS hA [0] (by decide) rfl rfl rfl) rfl rfl hl.1 rfl (lv_room (Nat.le_of_ble_eq_true rfl)) dX8_gust_37 ⟨Nat.le_of_ble_eq_true rfl, Nat.le_of_ble_eq_true rfl⟩) hP hD hS hA [0] [1, 2] rfl rfl (by decide) (by decide) (fun r311 u311 H locs hq311 hP hD hS => ?_)
          replace hP : va_P (dC, dI) vwCl [(ndc, .inl (cI, 14, .inl (fun _ => 0))), (nmk, .inl (cI, 61, .inl (fun _ => 0))), (n, .inr (8, [.int 800, .int 0, .int 0, .int 0, .int 0, .int 0, .int 0, .ref nwi, .ref nco, .int 0, .ref nqu, .ref nmi, .ref nde, .ref nsa, .ref nsm, .int 0, .ref npa, .int 0, .ref nac, .ref nam, .ref naw, .int 0, .int 0, .int 0, .int 0, .int 0, .int 0, .int 0, .int 0, .int 0, .ref ncs, .ref nbw, .ref ndc, .ref nmk, .int 0, .int 0, .int 0, .int 0, .int 0, .int 0, .int 0, .ref npo, .int 0, .ref nta, .ref npl, .int 0, .int 0, .ref nmm, .ref ncu, .ref nke, .ref nik, .int 0, .int 0]))] H := hP
          replace hD : va_D A [(ndc, .inl (cI, 14, .inl (fun _ => 0))), (nmk, .inl (cI, 61, .inl (fun _ => 0))), (n, .inr (8, [.int 800, .int 0, .int 0, .int 0, .int 0, .int 0, .int 0, .ref nwi, .ref nco, .int 0, .ref nqu, .ref nmi, .ref nde, .ref nsa, .ref nsm, .int 0, .ref npa, .int 0, .ref nac, .ref nam, .ref naw, .int 0, .int 0, .int 0, .int 0, .int 0, .int 0, .int 0, .int 0, .int 0, .ref ncs, .ref nbw, .ref ndc, .ref nmk, .int 0, .int 0, .int 0, .int 0, .int 0, .int 0, .int 0, .ref npo, .int 0, .ref nta, .ref npl, .int 0, .int 0, .ref nmm, .ref ncu, .ref nke, .ref nik, .int 0, .int 0]))] := hD
          obtain rfl : r311 = (-6) := hq311
          refine lv_if_lt (tgt := 47) hx hb dX8_gust_40 (by decide) (fun c312 => ?_) (fun c312 => absurd c312 (by decide))
          refine lv_aload_n hx hb dX8_gust_47 rfl (lv_at hl 0 rfl) ?_
          refine mx_v (wr := [(ndc, .inl (cI, 14, .inl (fun _ => 0))), (nmk, .inl (cI, 61, .inl (fun _ => 0)))]) (va_runV (As := []) (rest := []) ⟨hx, hb, hml, hown, hts⟩ (c_X8_keepNow l dC dI cI cZ cK tS aK aV n nwi nco nqu nmi nde nsa nsm npa nac nam naw ncs nbw ndc nmk npo nta npl nmm ncu nke nik 800 0 0 0 0 0 0 0 0 0 0 0 0 0 0 0 0 0 0 0 0 0 0 0 0 0 0 0 0 0 0 H.size) (cwV 0 hts (gw_v (fun _ h9 => List.mem_cons_of_mem _ h9) wm_457 wm_458 wm_459 wm_385 wm_460) rfl rfl rfl (by decide +kernel) ⟨Nat.le_of_ble_eq_true rfl, Nat.le_of_ble_eq_true rfl⟩) (mx_preV (C := RX8) (T := TX8) (N := 53) (ci := 8) hKx hP hD hS hA [2] (by decide) rfl rfl rfl) rfl rfl hl.1 rfl (lv_room (Nat.le_of_ble_eq_true rfl)) dX8_gust_48 ⟨Nat.le_of_ble_eq_true rfl, Nat.le_of_ble_eq_true rfl⟩) hP hD hS hA [2] [0, 1] rfl rfl (by decide) (by decide) (fun u313 H locs hq313 hP hD hS => ?_)
          replace hP : va_P (dC, dI) vwCl [(ndc, .inl (cI, 14, .inl (fun _ => 0))), (nmk, .inl (cI, 61, .inl (fun _ => 0))), (n, .inr (8, [.int 800, .int 0, .int 0, .int 0, .int 0, .int 0, .int 0, .ref nwi, .ref nco, .int 0, .ref nqu, .ref nmi, .ref nde, .ref nsa, .ref nsm, .int 0, .ref npa, .int 0, .ref nac, .ref nam, .ref naw, .int 0, .int 0, .int (-6), .int 0, .int 4000, .int 0, .int 0, .int 0, .int 0, .ref ncs, .ref nbw, .ref ndc, .ref nmk, .int 800, .int 0, .int 0, .int 0, .int 0, .int 0, .int 0, .ref npo, .int 0, .ref nta, .ref npl, .int 0, .int 0, .ref nmm, .ref ncu, .ref nke, .ref nik, .int 0, .int 0]))] H := hP
          replace hD : va_D A [(ndc, .inl (cI, 14, .inl (fun _ => 0))), (nmk, .inl (cI, 61, .inl (fun _ => 0))), (n, .inr (8, [.int 800, .int 0, .int 0, .int 0, .int 0, .int 0, .int 0, .ref nwi, .ref nco, .int 0, .ref nqu, .ref nmi, .ref nde, .ref nsa, .ref nsm, .int 0, .ref npa, .int 0, .ref nac, .ref nam, .ref naw, .int 0, .int 0, .int (-6), .int 0, .int 4000, .int 0, .int 0, .int 0, .int 0, .ref ncs, .ref nbw, .ref ndc, .ref nmk, .int 800, .int 0, .int 0, .int 0, .int 0, .int 0, .int 0, .ref npo, .int 0, .ref nta, .ref npl, .int 0, .int 0, .ref nmm, .ref ncu, .ref nke, .ref nik, .int 0, .int 0]))] := hD
          refine lv_aload_n hx hb dX8_gust_51 rfl (lv_at hl 0 rfl) ?_
          refine mx_i (wr := []) (va_runV (As := []) (rest := []) ⟨hx, hb, hml, hown, hts⟩ (c_X8_canWithoutEnd l dC dI cI cZ cK tS aK aV n nwi nco nqu nmi nde nsa nsm npa nac nam naw ncs nbw ndc nmk npo nta npl nmm ncu nke nik 800 0 0 0 0 0 0 0 0 0 0 (-6) 0 4000 0 0 0 0 800 0 0 0 0 0 0 0 0 0 0 0 (fun _ => 0) (fun _ => 0) H.size) (cwV 0 hts (gw_v (fun _ h9 => List.mem_cons_of_mem _ h9) wm_519 wm_520 wm_521 wm_385 wm_522) rfl rfl rfl (by decide +kernel) ⟨Nat.le_of_ble_eq_true rfl, Nat.le_of_ble_eq_true rfl⟩) (mx_preV (C := RX8) (T := TX8) (N := 53) (ci := 8) hKx hP hD hS hA [2, 0, 1] (by decide) rfl rfl rfl) rfl rfl hl.1 rfl (lv_room (Nat.le_of_ble_eq_true rfl)) dX8_gust_52 ⟨Nat.le_of_ble_eq_true rfl, Nat.le_of_ble_eq_true rfl⟩) hP hD hS hA [2, 0, 1] [] rfl rfl (by decide) (by decide) (fun r314 u314 H locs hq314 hP hD hS => ?_)
          replace hP : va_P (dC, dI) vwCl [(n, .inr (8, [.int 800, .int 0, .int 0, .int 0, .int 0, .int 0, .int 0, .ref nwi, .ref nco, .int 0, .ref nqu, .ref nmi, .ref nde, .ref nsa, .ref nsm, .int 0, .ref npa, .int 0, .ref nac, .ref nam, .ref naw, .int 0, .int 0, .int (-6), .int 0, .int 4000, .int (-6), .int (-6), .int 0, .int 0, .ref ncs, .ref nbw, .ref ndc, .ref nmk, .int 800, .int 0, .int 0, .int 0, .int 0, .int 0, .int 0, .ref npo, .int 0, .ref nta, .ref npl, .int 0, .int 0, .ref nmm, .ref ncu, .ref nke, .ref nik, .int 0, .int 0])), (ndc, .inl (cI, 14, .inl (upd (upd (upd (upd (upd (upd (upd (upd (upd (upd (upd (upd (upd (upd (fun _ => 0) 0 0) 1 0) 2 0) 3 0) 4 0) 5 0) 6 0) 7 0) 8 0) 9 0) 10 0) 11 0) 12 0) 13 0))), (nmk, .inl (cI, 61, .inl (upd (fun _ => 0) 0 5000000)))] H := hP
          replace hD : va_D A [(n, .inr (8, [.int 800, .int 0, .int 0, .int 0, .int 0, .int 0, .int 0, .ref nwi, .ref nco, .int 0, .ref nqu, .ref nmi, .ref nde, .ref nsa, .ref nsm, .int 0, .ref npa, .int 0, .ref nac, .ref nam, .ref naw, .int 0, .int 0, .int (-6), .int 0, .int 4000, .int (-6), .int (-6), .int 0, .int 0, .ref ncs, .ref nbw, .ref ndc, .ref nmk, .int 800, .int 0, .int 0, .int 0, .int 0, .int 0, .int 0, .ref npo, .int 0, .ref nta, .ref npl, .int 0, .int 0, .ref nmm, .ref ncu, .ref nke, .ref nik, .int 0, .int 0])), (ndc, .inl (cI, 14, .inl (upd (upd (upd (upd (upd (upd (upd (upd (upd (upd (upd (upd (upd (upd (fun _ => 0) 0 0) 1 0) 2 0) 3 0) 4 0) 5 0) 6 0) 7 0) 8 0) 9 0) 10 0) 11 0) 12 0) 13 0))), (nmk, .inl (cI, 61, .inl (upd (fun _ => 0) 0 5000000)))] := hD
          obtain rfl : r314 = 1 := hq314
          refine lv_if_ne (tgt := 62) hx hb dX8_gust_55 (by decide) (fun c315 => ?_) (fun c315 => absurd c315 (by decide))
          refine lv_aload_n hx hb dX8_gust_62 rfl (lv_at hl 0 rfl) ?_
          refine va_get (D := (dC, dI)) (ci := 8) (v := .int 0) (C := RX8) (T := TX8) (N := 53) hx hb hts hin8 hown hK hP 0 rfl rfl 39 (by decide) hw1 (fun _ h9 => h9) rfl dX8_gust_63 ?_
          refine lv_aload_n hx hb dX8_gust_66 rfl (lv_at hl 0 rfl) ?_
          refine va_get (D := (dC, dI)) (ci := 8) (v := .int 0) (C := RX8) (T := TX8) (N := 53) hx hb hts hin8 hown hK hP 0 rfl rfl 4 (by decide) hw2 (fun _ h9 => h9) rfl dX8_gust_67 ?_
          refine lv_isub hx hb dX8_gust_70 ?_
          refine lv_topi (fun x316 e316 => ?_)
          obtain rfl : x316 = 0 := e316.trans (by decide)
          refine lv_iconst (v := 1) hx hb dX8_gust_71 (by decide) ?_
          refine lv_iadd hx hb dX8_gust_72 ?_
          refine lv_topi (fun x317 e317 => ?_)
          obtain rfl : x317 = 1 := e317.trans (by decide)
          refine lv_istore (lv' := [(4, .int 1), (0, .ref n), (1, .int 8), (2, .int 0), (3, .int 0)]) hx hb dX8_gust_73 hl (by decide) rfl (fun ls hl => ?_)
          refine lv_iload hx hb dX8_gust_75 (lv_at hl 0 rfl) ?_
          refine lv_bipush (v := 8) hx hb dX8_gust_77 (by decide) ?_
          refine lv_icmp_le (tgt := 86) hx hb dX8_gust_79 (by decide) (fun c318 => ?_) (fun c318 => absurd c318 (by decide))
          refine lv_lconst (v := 0) hx hb dX8_gust_86 (by decide) ?_
          refine lv_lstore (lv' := [(5, .long 0), (4, .int 1), (0, .ref n), (1, .int 8), (2, .int 0), (3, .int 0)]) hx hb dX8_gust_87 hl (by decide) rfl (fun ls hl => ?_)
          refine lv_lconst (v := 0) hx hb dX8_gust_89 (by decide) ?_
          refine lv_lstore (lv' := [(7, .long 0), (5, .long 0), (4, .int 1), (0, .ref n), (1, .int 8), (2, .int 0), (3, .int 0)]) hx hb dX8_gust_90 hl (by decide) rfl (fun ls hl => ?_)
          refine lv_iconst (v := 0) hx hb dX8_gust_92 (by decide) ?_
          refine lv_istore (lv' := [(9, .int 0), (7, .long 0), (5, .long 0), (4, .int 1), (0, .ref n), (1, .int 8), (2, .int 0), (3, .int 0)]) hx hb dX8_gust_93 hl (by decide) rfl (fun ls hl => ?_)
          refine lv_iload hx hb dX8_gust_95 (lv_at hl 0 rfl) ?_
          refine lv_iconst (v := 1) hx hb dX8_gust_97 (by decide) ?_
          refine lv_iload hx hb dX8_gust_98 (lv_at hl 3 rfl) ?_
          refine lv_ishl hx hb dX8_gust_100 ?_
          refine lv_topi (fun x319 e319 => ?_)
          obtain rfl : x319 = 2 := e319.trans (by decide)
          refine lv_icmp_ge (tgt := 187) hx hb dX8_gust_101 (by decide) (fun c320 => absurd c320 (by decide)) (fun c320 => ?_)
          refine lv_lconst (v := 1) hx hb dX8_gust_104 (by decide) ?_
          refine lv_lstore (lv' := [(10, .long 1), (9, .int 0), (7, .long 0), (5, .long 0), (4, .int 1), (0, .ref n), (1, .int 8), (2, .int 0), (3, .int 0)]) hx hb dX8_gust_105 hl (by decide) rfl (fun ls hl => ?_)
          refine lv_iconst (v := 0) hx hb dX8_gust_107 (by decide) ?_
          refine lv_istore (lv' := [(12, .int 0), (10, .long 1), (9, .int 0), (7, .long 0), (5, .long 0), (4, .int 1), (0, .ref n), (1, .int 8), (2, .int 0), (3, .int 0)]) hx hb dX8_gust_108 hl (by decide) rfl (fun ls hl => ?_)
          refine lv_iload hx hb dX8_gust_110 (lv_at hl 0 rfl) ?_
          refine lv_iload hx hb dX8_gust_112 (lv_at hl 5 rfl) ?_
          refine lv_icmp_ge (tgt := 149) hx hb dX8_gust_114 (by decide) (fun c321 => absurd c321 (by decide)) (fun c321 => ?_)
          refine lv_lload hx hb dX8_gust_117 (lv_at hl 1 rfl) ?_
          refine lv_iload hx hb dX8_gust_119 (lv_at hl 2 rfl) ?_
          refine lv_iload hx hb dX8_gust_121 (lv_at hl 0 rfl) ?_
          refine lv_ishr hx hb dX8_gust_123 ?_
          refine lv_topi (fun x322 e322 => ?_)
          obtain rfl : x322 = 0 := e322.trans (by decide)
          refine lv_iconst (v := 1) hx hb dX8_gust_124 (by decide) ?_
          refine lv_iand hx hb dX8_gust_125 ?_
          refine lv_topi (fun x323 e323 => ?_)
          obtain rfl : x323 = 0 := e323.trans (by decide)
          refine lv_iconst (v := 1) hx hb dX8_gust_126 (by decide) ?_
          refine lv_icmp_ne (tgt := 135) hx hb dX8_gust_127 (by decide) (fun c324 => ?_) (fun c324 => absurd c324 (by decide))
          refine lv_bipush (v := 10) hx hb dX8_gust_135 (by decide) ?_
          refine lv_iload_n hx hb dX8_gust_137 rfl (lv_at hl 7 rfl) ?_
          refine lv_isub hx hb dX8_gust_138 ?_
          refine lv_topi (fun x325 e325 => ?_)
          obtain rfl : x325 = 2 := e325.trans (by decide)
          refine lv_i2l (v := 2) hx hb dX8_gust_139 (by decide) ?_
          refine lv_lmul hx hb dX8_gust_140 ?_
          refine lv_topl (fun x326 e326 => ?_)
          obtain rfl : x326 = 2 := e326.trans (by decide)
          refine lv_lstore (lv' := [(10, .long 2), (12, .int 0), (9, .int 0), (7, .long 0), (5, .long 0), (4, .int 1), (0, .ref n), (1, .int 8), (2, .int 0), (3, .int 0)]) hx hb dX8_gust_141 hl (by decide) rfl (fun ls hl => ?_)
          refine lv_iinc (v := 1) (lv' := [(12, .int 1), (10, .long 2), (9, .int 0), (7, .long 0), (5, .long 0), (4, .int 1), (0, .ref n), (1, .int 8), (2, .int 0), (3, .int 0)]) hx hb dX8_gust_143 hl (k := 1) rfl (by decide) (by decide) rfl (fun ls hl => ?_)
          refine lv_goto (tgt := 110) hx hb dX8_gust_146 (by decide) ?_
          refine lv_iload hx hb dX8_gust_110 (lv_at hl 0 rfl) ?_
          refine lv_iload hx hb dX8_gust_112 (lv_at hl 5 rfl) ?_
          refine lv_icmp_ge (tgt := 149) hx hb dX8_gust_114 (by decide) (fun c327 => ?_) (fun c327 => absurd c327 (by decide))
          refine lv_aload_n hx hb dX8_gust_149 rfl (lv_at hl 6 rfl) ?_
          refine lv_iload hx hb dX8_gust_150 (lv_at hl 2 rfl) ?_
          refine lv_aload_n hx hb dX8_gust_152 rfl (lv_at hl 6 rfl) ?_
          refine va_get (D := (dC, dI)) (ci := 8) (v := .int 0) (C := RX8) (T := TX8) (N := 53) hx hb hts hin8 hown hK hP 0 rfl rfl 4 (by decide) hw2 (fun _ h9 => h9) rfl dX8_gust_153 ?_
          refine lv_ishl hx hb dX8_gust_156 ?_
          refine lv_topi (fun x328 e328 => ?_)
          obtain rfl : x328 = 0 := e328.trans (by decide)
          refine va_put (D := (dC, dI)) (ci := 8) (v := .int 0) (ty := .int) (C := RX8) (T := TX8) (N := 53) hx hb hts hin8 tyX8 tyX8_ok nmX8 hown hK hP hD hS 0 rfl rfl 22 (by decide) hw3 (fun _ h9 => h9) rfl (by decide +kernel) rfl rfl (Nat.le_of_ble_eq_true rfl) dX8_gust_157 (fun H locs hP hD hS => ?_)
          replace hP : va_P (dC, dI) vwCl [(n, .inr (8, [.int 800, .int 0, .int 0, .int 0, .int 0, .int 0, .int 0, .ref nwi, .ref nco, .int 0, .ref nqu, .ref nmi, .ref nde, .ref nsa, .ref nsm, .int 0, .ref npa, .int 0, .ref nac, .ref nam, .ref naw, .int 0, .int 0, .int (-6), .int 0, .int 4000, .int (-6), .int (-6), .int 0, .int 0, .ref ncs, .ref nbw, .ref ndc, .ref nmk, .int 800, .int 0, .int 0, .int 0, .int 0, .int 0, .int 0, .ref npo, .int 0, .ref nta, .ref npl, .int 0, .int 0, .ref nmm, .ref ncu, .ref nke, .ref nik, .int 0, .int 0])), (ndc, .inl (cI, 14, .inl (upd (upd (upd (upd (upd (upd (upd (upd (upd (upd (upd (upd (upd (upd (fun _ => 0) 0 0) 1 0) 2 0) 3 0) 4 0) 5 0) 6 0) 7 0) 8 0) 9 0) 10 0) 11 0) 12 0) 13 0))), (nmk, .inl (cI, 61, .inl (upd (fun _ => 0) 0 5000000)))] H := hP
          replace hD : va_D A [(n, .inr (8, [.int 800, .int 0, .int 0, .int 0, .int 0, .int 0, .int 0, .ref nwi, .ref nco, .int 0, .ref nqu, .ref nmi, .ref nde, .ref nsa, .ref nsm, .int 0, .ref npa, .int 0, .ref nac, .ref nam, .ref naw, .int 0, .int 0, .int (-6), .int 0, .int 4000, .int (-6), .int (-6), .int 0, .int 0, .ref ncs, .ref nbw, .ref ndc, .ref nmk, .int 800, .int 0, .int 0, .int 0, .int 0, .int 0, .int 0, .ref npo, .int 0, .ref nta, .ref npl, .int 0, .int 0, .ref nmm, .ref ncu, .ref nke, .ref nik, .int 0, .int 0])), (ndc, .inl (cI, 14, .inl (upd (upd (upd (upd (upd (upd (upd (upd (upd (upd (upd (upd (upd (upd (fun _ => 0) 0 0) 1 0) 2 0) 3 0) 4 0) 5 0) 6 0) 7 0) 8 0) 9 0) 10 0) 11 0) 12 0) 13 0))), (nmk, .inl (cI, 61, .inl (upd (fun _ => 0) 0 5000000)))] := hD
          refine lv_lload hx hb dX8_gust_160 (lv_at hl 3 rfl) ?_
          refine lv_lload hx hb dX8_gust_162 (lv_at hl 1 rfl) ?_
          refine lv_ladd hx hb dX8_gust_164 ?_
          refine lv_topl (fun x329 e329 => ?_)
          obtain rfl : x329 = 2 := e329.trans (by decide)
          refine lv_lstore (lv' := [(7, .long 2), (12, .int 1), (10, .long 2), (9, .int 0), (5, .long 0), (4, .int 1), (0, .ref n), (1, .int 8), (2, .int 0), (3, .int 0)]) hx hb dX8_gust_165 hl (by decide) rfl (fun ls hl => ?_)
          refine lv_lload hx hb dX8_gust_167 (lv_at hl 4 rfl) ?_
          refine lv_lload hx hb dX8_gust_169 (lv_at hl 2 rfl) ?_
          refine lv_aload_n hx hb dX8_gust_171 rfl (lv_at hl 6 rfl) ?_
          refine lv_iload_n hx hb dX8_gust_172 rfl (lv_at hl 8 rfl) ?_
          refine mx_i (wr := []) (va_runV (As := [.int 0]) (rest := [.long 2, .long 0]) ⟨hx, hb, hml, hown, hts⟩ (c_X8_worthOfGusts_0 l dC dI cI cZ cK tS aK aV n nwi nco nqu nmi nde nsa nsm npa nac nam naw ncs nbw ndc nmk npo nta npl nmm ncu nke nik 0 0 0 0 0 0 0 0 0 0 (-6) 0 4000 (-6) (-6) 0 0 800 0 0 0 0 0 0 0 0 0 0 0 (upd (upd (upd (upd (upd (upd (upd (upd (upd (upd (upd (upd (upd (upd (fun _ => 0) 0 0) 1 0) 2 0) 3 0) 4 0) 5 0) 6 0) 7 0) 8 0) 9 0) 10 0) 11 0) 12 0) 13 0) (upd (fun _ => 0) 0 5000000) H.size) (cwV 1 hts (gw_v (fun _ h9 => List.mem_cons_of_mem _ h9) wm_524 wm_525 wm_526 wm_385 wm_527) rfl rfl rfl (by decide +kernel) ⟨Nat.le_of_ble_eq_true rfl, Nat.le_of_ble_eq_true rfl⟩) (mx_preV (C := RX8) (T := TX8) (N := 53) (ci := 8) hKx hP hD hS hA [0, 1, 2] (by decide) rfl rfl rfl) rfl rfl hl.1 rfl (lv_room (Nat.le_of_ble_eq_true rfl)) dX8_gust_173 ⟨Nat.le_of_ble_eq_true rfl, Nat.le_of_ble_eq_true rfl⟩) hP hD hS hA [0, 1, 2] [] rfl rfl (by decide) (by decide) (fun r330 u330 H locs hq330 hP hD hS => ?_)
          replace hP : va_P (dC, dI) vwCl [(n, .inr (8, [.int 800, .int 0, .int 0, .int 0, .int 0, .int 0, .int 0, .ref nwi, .ref nco, .int 0, .ref nqu, .ref nmi, .ref nde, .ref nsa, .ref nsm, .int 0, .ref npa, .int 0, .ref nac, .ref nam, .ref naw, .int 0, .int 0, .int (-6), .int 0, .int 4000, .int (-6), .int (-6), .int 0, .int 0, .ref ncs, .ref nbw, .ref ndc, .ref nmk, .int 800, .int 0, .int 0, .int 0, .int 0, .int 0, .int 0, .ref npo, .int 0, .ref nta, .ref npl, .int 0, .int 0, .ref nmm, .ref ncu, .ref nke, .ref nik, .int 0, .int 0])), (ndc, .inl (cI, 14, .inl (upd (upd (upd (upd (upd (upd (upd (upd (upd (upd (upd (upd (upd (upd (upd (upd (upd (upd (upd (upd (upd (upd (upd (upd (upd (upd (upd (upd (fun _ => 0) 0 0) 1 0) 2 0) 3 0) 4 0) 5 0) 6 0) 7 0) 8 0) 9 0) 10 0) 11 0) 12 0) 13 0) 0 0) 1 0) 2 0) 3 0) 4 0) 5 0) 6 0) 7 0) 8 0) 9 0) 10 0) 11 0) 12 0) 13 0))), (nmk, .inl (cI, 61, .inl (upd (upd (fun _ => 0) 0 5000000) 0 4)))] H := hP
          replace hD : va_D A [(n, .inr (8, [.int 800, .int 0, .int 0, .int 0, .int 0, .int 0, .int 0, .ref nwi, .ref nco, .int 0, .ref nqu, .ref nmi, .ref nde, .ref nsa, .ref nsm, .int 0, .ref npa, .int 0, .ref nac, .ref nam, .ref naw, .int 0, .int 0, .int (-6), .int 0, .int 4000, .int (-6), .int (-6), .int 0, .int 0, .ref ncs, .ref nbw, .ref ndc, .ref nmk, .int 800, .int 0, .int 0, .int 0, .int 0, .int 0, .int 0, .ref npo, .int 0, .ref nta, .ref npl, .int 0, .int 0, .ref nmm, .ref ncu, .ref nke, .ref nik, .int 0, .int 0])), (ndc, .inl (cI, 14, .inl (upd (upd (upd (upd (upd (upd (upd (upd (upd (upd (upd (upd (upd (upd (upd (upd (upd (upd (upd (upd (upd (upd (upd (upd (upd (upd (upd (upd (fun _ => 0) 0 0) 1 0) 2 0) 3 0) 4 0) 5 0) 6 0) 7 0) 8 0) 9 0) 10 0) 11 0) 12 0) 13 0) 0 0) 1 0) 2 0) 3 0) 4 0) 5 0) 6 0) 7 0) 8 0) 9 0) 10 0) 11 0) 12 0) 13 0))), (nmk, .inl (cI, 61, .inl (upd (upd (fun _ => 0) 0 5000000) 0 4)))] := hD
          obtain rfl : r330 = 1 := hq330
          refine lv_i2l (v := 1) hx hb dX8_gust_176 (by decide) ?_
          refine lv_lmul hx hb dX8_gust_177 ?_
          refine lv_topl (fun x331 e331 => ?_)
          obtain rfl : x331 = 2 := e331.trans (by decide)
          refine lv_ladd hx hb dX8_gust_178 ?_
          refine lv_topl (fun x332 e332 => ?_)
          obtain rfl : x332 = 2 := e332.trans (by decide)
          refine lv_lstore (lv' := [(5, .long 2), (7, .long 2), (12, .int 1), (10, .long 2), (9, .int 0), (4, .int 1), (0, .ref n), (1, .int 8), (2, .int 0), (3, .int 0)]) hx hb dX8_gust_179 hl (by decide) rfl (fun ls hl => ?_)
          refine lv_iinc (v := 1) (lv' := [(9, .int 1), (5, .long 2), (7, .long 2), (12, .int 1), (10, .long 2), (4, .int 1), (0, .ref n), (1, .int 8), (2, .int 0), (3, .int 0)]) hx hb dX8_gust_181 hl (k := 4) rfl (by decide) (by decide) rfl (fun ls hl => ?_)
          refine lv_goto (tgt := 95) hx hb dX8_gust_184 (by decide) ?_
          refine lv_iload hx hb dX8_gust_95 (lv_at hl 0 rfl) ?_
          refine lv_iconst (v := 1) hx hb dX8_gust_97 (by decide) ?_
          refine lv_iload hx hb dX8_gust_98 (lv_at hl 5 rfl) ?_
          refine lv_ishl hx hb dX8_gust_100 ?_
          refine lv_topi (fun x333 e333 => ?_)
          obtain rfl : x333 = 2 := e333.trans (by decide)
          refine lv_icmp_ge (tgt := 187) hx hb dX8_gust_101 (by decide) (fun c334 => absurd c334 (by decide)) (fun c334 => ?_)
          refine lv_lconst (v := 1) hx hb dX8_gust_104 (by decide) ?_
          refine lv_lstore (lv' := [(10, .long 1), (9, .int 1), (5, .long 2), (7, .long 2), (12, .int 1), (4, .int 1), (0, .ref n), (1, .int 8), (2, .int 0), (3, .int 0)]) hx hb dX8_gust_105 hl (by decide) rfl (fun ls hl => ?_)
          refine lv_iconst (v := 0) hx hb dX8_gust_107 (by decide) ?_
          refine lv_istore (lv' := [(12, .int 0), (10, .long 1), (9, .int 1), (5, .long 2), (7, .long 2), (4, .int 1), (0, .ref n), (1, .int 8), (2, .int 0), (3, .int 0)]) hx hb dX8_gust_108 hl (by decide) rfl (fun ls hl => ?_)
          refine lv_iload hx hb dX8_gust_110 (lv_at hl 0 rfl) ?_
          refine lv_iload hx hb dX8_gust_112 (lv_at hl 5 rfl) ?_
          refine lv_icmp_ge (tgt := 149) hx hb dX8_gust_114 (by decide) (fun c335 => absurd c335 (by decide)) (fun c335 => ?_)
          refine lv_lload hx hb dX8_gust_117 (lv_at hl 1 rfl) ?_
          refine lv_iload hx hb dX8_gust_119 (lv_at hl 2 rfl) ?_
          refine lv_iload hx hb dX8_gust_121 (lv_at hl 0 rfl) ?_
          refine lv_ishr hx hb dX8_gust_123 ?_
          refine lv_topi (fun x336 e336 => ?_)
          obtain rfl : x336 = 1 := e336.trans (by decide)
          refine lv_iconst (v := 1) hx hb dX8_gust_124 (by decide) ?_
          refine lv_iand hx hb dX8_gust_125 ?_
          refine lv_topi (fun x337 e337 => ?_)
          obtain rfl : x337 = 1 := e337.trans (by decide)
          refine lv_iconst (v := 1) hx hb dX8_gust_126 (by decide) ?_
          refine lv_icmp_ne (tgt := 135) hx hb dX8_gust_127 (by decide) (fun c338 => absurd c338 (by decide)) (fun c338 => ?_)
          refine lv_iload_n hx hb dX8_gust_130 rfl (lv_at hl 7 rfl) ?_
          refine lv_i2l (v := 8) hx hb dX8_gust_131 (by decide) ?_
          refine lv_goto (tgt := 140) hx hb dX8_gust_132 (by decide) ?_
          refine lv_lmul hx hb dX8_gust_140 ?_
          refine lv_topl (fun x339 e339 => ?_)
          obtain rfl : x339 = 8 := e339.trans (by decide)
          refine lv_lstore (lv' := [(10, .long 8), (12, .int 0), (9, .int 1), (5, .long 2), (7, .long 2), (4, .int 1), (0, .ref n), (1, .int 8), (2, .int 0), (3, .int 0)]) hx hb dX8_gust_141 hl (by decide) rfl (fun ls hl => ?_)
          refine lv_iinc (v := 1) (lv' := [(12, .int 1), (10, .long 8), (9, .int 1), (5, .long 2), (7, .long 2), (4, .int 1), (0, .ref n), (1, .int 8), (2, .int 0), (3, .int 0)]) hx hb dX8_gust_143 hl (k := 1) rfl (by decide) (by decide) rfl (fun ls hl => ?_)
          refine lv_goto (tgt := 110) hx hb dX8_gust_146 (by decide) ?_
          refine lv_iload hx hb dX8_gust_110 (lv_at hl 0 rfl) ?_
          refine lv_iload hx hb dX8_gust_112 (lv_at hl 5 rfl) ?_
          refine lv_icmp_ge (tgt := 149) hx hb dX8_gust_114 (by decide) (fun c340 => ?_) (fun c340 => absurd c340 (by decide))
          refine lv_aload_n hx hb dX8_gust_149 rfl (lv_at hl 6 rfl) ?_
          refine lv_iload hx hb dX8_gust_150 (lv_at hl 2 rfl) ?_
          refine lv_aload_n hx hb dX8_gust_152 rfl (lv_at hl 6 rfl) ?_
          refine va_get (D := (dC, dI)) (ci := 8) (v := .int 0) (C := RX8) (T := TX8) (N := 53) hx hb hts hin8 hown hK hP 0 rfl rfl 4 (by decide) hw2 (fun _ h9 => h9) rfl dX8_gust_153 ?_
          refine lv_ishl hx hb dX8_gust_156 ?_
          refine lv_topi (fun x341 e341 => ?_)
          obtain rfl : x341 = 1 := e341.trans (by decide)
          refine va_put (D := (dC, dI)) (ci := 8) (v := .int 1) (ty := .int) (C := RX8) (T := TX8) (N := 53) hx hb hts hin8 tyX8 tyX8_ok nmX8 hown hK hP hD hS 0 rfl rfl 22 (by decide) hw3 (fun _ h9 => h9) rfl (by decide +kernel) rfl rfl (Nat.le_of_ble_eq_true rfl) dX8_gust_157 (fun H locs hP hD hS => ?_)
          replace hP : va_P (dC, dI) vwCl [(n, .inr (8, [.int 800, .int 0, .int 0, .int 0, .int 0, .int 0, .int 0, .ref nwi, .ref nco, .int 0, .ref nqu, .ref nmi, .ref nde, .ref nsa, .ref nsm, .int 0, .ref npa, .int 0, .ref nac, .ref nam, .ref naw, .int 0, .int 1, .int (-6), .int 0, .int 4000, .int (-6), .int (-6), .int 0, .int 0, .ref ncs, .ref nbw, .ref ndc, .ref nmk, .int 800, .int 0, .int 0, .int 0, .int 0, .int 0, .int 0, .ref npo, .int 0, .ref nta, .ref npl, .int 0, .int 0, .ref nmm, .ref ncu, .ref nke, .ref nik, .int 0, .int 0])), (ndc, .inl (cI, 14, .inl (upd (upd (upd (upd (upd (upd (upd (upd (upd (upd (upd (upd (upd (upd (upd (upd (upd (upd (upd (upd (upd (upd (upd (upd (upd (upd (upd (upd (fun _ => 0) 0 0) 1 0) 2 0) 3 0) 4 0) 5 0) 6 0) 7 0) 8 0) 9 0) 10 0) 11 0) 12 0) 13 0) 0 0) 1 0) 2 0) 3 0) 4 0) 5 0) 6 0) 7 0) 8 0) 9 0) 10 0) 11 0) 12 0) 13 0))), (nmk, .inl (cI, 61, .inl (upd (upd (fun _ => 0) 0 5000000) 0 4)))] H := hP
          replace hD : va_D A [(n, .inr (8, [.int 800, .int 0, .int 0, .int 0, .int 0, .int 0, .int 0, .ref nwi, .ref nco, .int 0, .ref nqu, .ref nmi, .ref nde, .ref nsa, .ref nsm, .int 0, .ref npa, .int 0, .ref nac, .ref nam, .ref naw, .int 0, .int 1, .int (-6), .int 0, .int 4000, .int (-6), .int (-6), .int 0, .int 0, .ref ncs, .ref nbw, .ref ndc, .ref nmk, .int 800, .int 0, .int 0, .int 0, .int 0, .int 0, .int 0, .ref npo, .int 0, .ref nta, .ref npl, .int 0, .int 0, .ref nmm, .ref ncu, .ref nke, .ref nik, .int 0, .int 0])), (ndc, .inl (cI, 14, .inl (upd (upd (upd (upd (upd (upd (upd (upd (upd (upd (upd (upd (upd (upd (upd (upd (upd (upd (upd (upd (upd (upd (upd (upd (upd (upd (upd (upd (fun _ => 0) 0 0) 1 0) 2 0) 3 0) 4 0) 5 0) 6 0) 7 0) 8 0) 9 0) 10 0) 11 0) 12 0) 13 0) 0 0) 1 0) 2 0) 3 0) 4 0) 5 0) 6 0) 7 0) 8 0) 9 0) 10 0) 11 0) 12 0) 13 0))), (nmk, .inl (cI, 61, .inl (upd (upd (fun _ => 0) 0 5000000) 0 4)))] := hD
          refine lv_lload hx hb dX8_gust_160 (lv_at hl 4 rfl) ?_
          refine lv_lload hx hb dX8_gust_162 (lv_at hl 1 rfl) ?_
          refine lv_ladd hx hb dX8_gust_164 ?_
          refine lv_topl (fun x342 e342 => ?_)
          obtain rfl : x342 = 10 := e342.trans (by decide)
          refine lv_lstore (lv' := [(7, .long 10), (12, .int 1), (10, .long 8), (9, .int 1), (5, .long 2), (4, .int 1), (0, .ref n), (1, .int 8), (2, .int 0), (3, .int 0)]) hx hb dX8_gust_165 hl (by decide) rfl (fun ls hl => ?_)
          refine lv_lload hx hb dX8_gust_167 (lv_at hl 4 rfl) ?_
          refine lv_lload hx hb dX8_gust_169 (lv_at hl 2 rfl) ?_
          refine lv_aload_n hx hb dX8_gust_171 rfl (lv_at hl 6 rfl) ?_
          refine lv_iload_n hx hb dX8_gust_172 rfl (lv_at hl 8 rfl) ?_
          refine mx_i (wr := []) (va_runV (As := [.int 0]) (rest := [.long 8, .long 2]) ⟨hx, hb, hml, hown, hts⟩ (c_X8_worthOfGusts_0 l dC dI cI cZ cK tS aK aV n nwi nco nqu nmi nde nsa nsm npa nac nam naw ncs nbw ndc nmk npo nta npl nmm ncu nke nik 0 0 0 0 0 0 0 0 0 1 (-6) 0 4000 (-6) (-6) 0 0 800 0 0 0 0 0 0 0 0 0 0 0 (upd (upd (upd (upd (upd (upd (upd (upd (upd (upd (upd (upd (upd (upd (upd (upd (upd (upd (upd (upd (upd (upd (upd (upd (upd (upd (upd (upd (fun _ => 0) 0 0) 1 0) 2 0) 3 0) 4 0) 5 0) 6 0) 7 0) 8 0) 9 0) 10 0) 11 0) 12 0) 13 0) 0 0) 1 0) 2 0) 3 0) 4 0) 5 0) 6 0) 7 0) 8 0) 9 0) 10 0) 11 0) 12 0) 13 0) (upd (upd (fun _ => 0) 0 5000000) 0 4) H.size) (cwV 1 hts (gw_v (fun _ h9 => List.mem_cons_of_mem _ h9) wm_524 wm_525 wm_526 wm_385 wm_527) rfl rfl rfl (by decide +kernel) ⟨Nat.le_of_ble_eq_true rfl, Nat.le_of_ble_eq_true rfl⟩) (mx_preV (C := RX8) (T := TX8) (N := 53) (ci := 8) hKx hP hD hS hA [0, 1, 2] (by decide) rfl rfl rfl) rfl rfl hl.1 rfl (lv_room (Nat.le_of_ble_eq_true rfl)) dX8_gust_173 ⟨Nat.le_of_ble_eq_true rfl, Nat.le_of_ble_eq_true rfl⟩) hP hD hS hA [0, 1, 2] [] rfl rfl (by decide) (by decide) (fun r343 u343 H locs hq343 hP hD hS => ?_)
          replace hP : va_P (dC, dI) vwCl [(n, .inr (8, [.int 800, .int 0, .int 0, .int 0, .int 0, .int 0, .int 0, .ref nwi, .ref nco, .int 0, .ref nqu, .ref nmi, .ref nde, .ref nsa, .ref nsm, .int 0, .ref npa, .int 0, .ref nac, .ref nam, .ref naw, .int 0, .int 1, .int (-6), .int 0, .int 4000, .int (-6), .int (-6), .int 0, .int 0, .ref ncs, .ref nbw, .ref ndc, .ref nmk, .int 800, .int 0, .int 0, .int 0, .int 0, .int 0, .int 0, .ref npo, .int 0, .ref nta, .ref npl, .int 0, .int 0, .ref nmm, .ref ncu, .ref nke, .ref nik, .int 0, .int 0])), (ndc, .inl (cI, 14, .inl (upd (upd (upd (upd (upd (upd (upd (upd (upd (upd (upd (upd (upd (upd (upd (upd (upd (upd (upd (upd (upd (upd (upd (upd (upd (upd (upd (upd (upd (upd (upd (upd (upd (upd (upd (upd (upd (upd (upd (upd (upd (upd (fun _ => 0) 0 0) 1 0) 2 0) 3 0) 4 0) 5 0) 6 0) 7 0) 8 0) 9 0) 10 0) 11 0) 12 0) 13 0) 0 0) 1 0) 2 0) 3 0) 4 0) 5 0) 6 0) 7 0) 8 0) 9 0) 10 0) 11 0) 12 0) 13 0) 0 0) 1 0) 2 0) 3 0) 4 0) 5 0) 6 0) 7 0) 8 0) 9 0) 10 0) 11 0) 12 0) 13 0))), (nmk, .inl (cI, 61, .inl (upd (upd (upd (fun _ => 0) 0 5000000) 0 4) 0 4)))] H := hP
          replace hD : va_D A [(n, .inr (8, [.int 800, .int 0, .int 0, .int 0, .int 0, .int 0, .int 0, .ref nwi, .ref nco, .int 0, .ref nqu, .ref nmi, .ref nde, .ref nsa, .ref nsm, .int 0, .ref npa, .int 0, .ref nac, .ref nam, .ref naw, .int 0, .int 1, .int (-6), .int 0, .int 4000, .int (-6), .int (-6), .int 0, .int 0, .ref ncs, .ref nbw, .ref ndc, .ref nmk, .int 800, .int 0, .int 0, .int 0, .int 0, .int 0, .int 0, .ref npo, .int 0, .ref nta, .ref npl, .int 0, .int 0, .ref nmm, .ref ncu, .ref nke, .ref nik, .int 0, .int 0])), (ndc, .inl (cI, 14, .inl (upd (upd (upd (upd (upd (upd (upd (upd (upd (upd (upd (upd (upd (upd (upd (upd (upd (upd (upd (upd (upd (upd (upd (upd (upd (upd (upd (upd (upd (upd (upd (upd (upd (upd (upd (upd (upd (upd (upd (upd (upd (upd (fun _ => 0) 0 0) 1 0) 2 0) 3 0) 4 0) 5 0) 6 0) 7 0) 8 0) 9 0) 10 0) 11 0) 12 0) 13 0) 0 0) 1 0) 2 0) 3 0) 4 0) 5 0) 6 0) 7 0) 8 0) 9 0) 10 0) 11 0) 12 0) 13 0) 0 0) 1 0) 2 0) 3 0) 4 0) 5 0) 6 0) 7 0) 8 0) 9 0) 10 0) 11 0) 12 0) 13 0))), (nmk, .inl (cI, 61, .inl (upd (upd (upd (fun _ => 0) 0 5000000) 0 4) 0 4)))] := hD
          obtain rfl : r343 = 1 := hq343
          refine lv_i2l (v := 1) hx hb dX8_gust_176 (by decide) ?_
          refine lv_lmul hx hb dX8_gust_177 ?_
          refine lv_topl (fun x344 e344 => ?_)
          obtain rfl : x344 = 8 := e344.trans (by decide)
          refine lv_ladd hx hb dX8_gust_178 ?_
          refine lv_topl (fun x345 e345 => ?_)
          obtain rfl : x345 = 10 := e345.trans (by decide)
          refine lv_lstore (lv' := [(5, .long 10), (7, .long 10), (12, .int 1), (10, .long 8), (9, .int 1), (4, .int 1), (0, .ref n), (1, .int 8), (2, .int 0), (3, .int 0)]) hx hb dX8_gust_179 hl (by decide) rfl (fun ls hl => ?_)
          refine lv_iinc (v := 2) (lv' := [(9, .int 2), (5, .long 10), (7, .long 10), (12, .int 1), (10, .long 8), (4, .int 1), (0, .ref n), (1, .int 8), (2, .int 0), (3, .int 0)]) hx hb dX8_gust_181 hl (k := 4) rfl (by decide) (by decide) rfl (fun ls hl => ?_)
          refine lv_goto (tgt := 95) hx hb dX8_gust_184 (by decide) ?_
          refine lv_iload hx hb dX8_gust_95 (lv_at hl 0 rfl) ?_
          refine lv_iconst (v := 1) hx hb dX8_gust_97 (by decide) ?_
          refine lv_iload hx hb dX8_gust_98 (lv_at hl 5 rfl) ?_
          refine lv_ishl hx hb dX8_gust_100 ?_
          refine lv_topi (fun x346 e346 => ?_)
          obtain rfl : x346 = 2 := e346.trans (by decide)
          refine lv_icmp_ge (tgt := 187) hx hb dX8_gust_101 (by decide) (fun c347 => ?_) (fun c347 => absurd c347 (by decide))
          refine lv_aload_n hx hb dX8_gust_187 rfl (lv_at hl 6 rfl) ?_
          refine lv_iconst (v := 0) hx hb dX8_gust_188 (by decide) ?_
          refine va_put (D := (dC, dI)) (ci := 8) (v := .int 0) (ty := .int) (C := RX8) (T := TX8) (N := 53) hx hb hts hin8 tyX8 tyX8_ok nmX8 hown hK hP hD hS 0 rfl rfl 22 (by decide) hw3 (fun _ h9 => h9) rfl (by decide +kernel) rfl rfl (Nat.le_of_ble_eq_true rfl) dX8_gust_189 (fun H locs hP hD hS => ?_)
          replace hP : va_P (dC, dI) vwCl [(n, .inr (8, [.int 800, .int 0, .int 0, .int 0, .int 0, .int 0, .int 0, .ref nwi, .ref nco, .int 0, .ref nqu, .ref nmi, .ref nde, .ref nsa, .ref nsm, .int 0, .ref npa, .int 0, .ref nac, .ref nam, .ref naw, .int 0, .int 0, .int (-6), .int 0, .int 4000, .int (-6), .int (-6), .int 0, .int 0, .ref ncs, .ref nbw, .ref ndc, .ref nmk, .int 800, .int 0, .int 0, .int 0, .int 0, .int 0, .int 0, .ref npo, .int 0, .ref nta, .ref npl, .int 0, .int 0, .ref nmm, .ref ncu, .ref nke, .ref nik, .int 0, .int 0])), (ndc, .inl (cI, 14, .inl (upd (upd (upd (upd (upd (upd (upd (upd (upd (upd (upd (upd (upd (upd (upd (upd (upd (upd (upd (upd (upd (upd (upd (upd (upd (upd (upd (upd (upd (upd (upd (upd (upd (upd (upd (upd (upd (upd (upd (upd (upd (upd (fun _ => 0) 0 0) 1 0) 2 0) 3 0) 4 0) 5 0) 6 0) 7 0) 8 0) 9 0) 10 0) 11 0) 12 0) 13 0) 0 0) 1 0) 2 0) 3 0) 4 0) 5 0) 6 0) 7 0) 8 0) 9 0) 10 0) 11 0) 12 0) 13 0) 0 0) 1 0) 2 0) 3 0) 4 0) 5 0) 6 0) 7 0) 8 0) 9 0) 10 0) 11 0) 12 0) 13 0))), (nmk, .inl (cI, 61, .inl (upd (upd (upd (fun _ => 0) 0 5000000) 0 4) 0 4)))] H := hP
          replace hD : va_D A [(n, .inr (8, [.int 800, .int 0, .int 0, .int 0, .int 0, .int 0, .int 0, .ref nwi, .ref nco, .int 0, .ref nqu, .ref nmi, .ref nde, .ref nsa, .ref nsm, .int 0, .ref npa, .int 0, .ref nac, .ref nam, .ref naw, .int 0, .int 0, .int (-6), .int 0, .int 4000, .int (-6), .int (-6), .int 0, .int 0, .ref ncs, .ref nbw, .ref ndc, .ref nmk, .int 800, .int 0, .int 0, .int 0, .int 0, .int 0, .int 0, .ref npo, .int 0, .ref nta, .ref npl, .int 0, .int 0, .ref nmm, .ref ncu, .ref nke, .ref nik, .int 0, .int 0])), (ndc, .inl (cI, 14, .inl (upd (upd (upd (upd (upd (upd (upd (upd (upd (upd (upd (upd (upd (upd (upd (upd (upd (upd (upd (upd (upd (upd (upd (upd (upd (upd (upd (upd (upd (upd (upd (upd (upd (upd (upd (upd (upd (upd (upd (upd (upd (upd (fun _ => 0) 0 0) 1 0) 2 0) 3 0) 4 0) 5 0) 6 0) 7 0) 8 0) 9 0) 10 0) 11 0) 12 0) 13 0) 0 0) 1 0) 2 0) 3 0) 4 0) 5 0) 6 0) 7 0) 8 0) 9 0) 10 0) 11 0) 12 0) 13 0) 0 0) 1 0) 2 0) 3 0) 4 0) 5 0) 6 0) 7 0) 8 0) 9 0) 10 0) 11 0) 12 0) 13 0))), (nmk, .inl (cI, 61, .inl (upd (upd (upd (fun _ => 0) 0 5000000) 0 4) 0 4)))] := hD
          refine lv_lload hx hb dX8_gust_192 (lv_at hl 1 rfl) ?_
          refine lv_lload hx hb dX8_gust_194 (lv_at hl 2 rfl) ?_
          refine lv_iload_n hx hb dX8_gust_196 rfl (lv_at hl 9 rfl) ?_
          refine mx_l (wr := [(n, .inr (8, [.int 800, .int 0, .int 0, .int 0, .int 0, .int 0, .int 0, .ref nwi, .ref nco, .int 0, .ref nqu, .ref nmi, .ref nde, .ref nsa, .ref nsm, .int 0, .ref npa, .int 0, .ref nac, .ref nam, .ref naw, .int 0, .int 0, .int (-6), .int 0, .int 4000, .int (-6), .int (-6), .int 0, .int 0, .ref ncs, .ref nbw, .ref ndc, .ref nmk, .int 800, .int 0, .int 0, .int 0, .int 0, .int 0, .int 0, .ref npo, .int 0, .ref nta, .ref npl, .int 0, .int 0, .ref nmm, .ref ncu, .ref nke, .ref nik, .int 0, .int 0])), (ndc, .inl (cI, 14, .inl (upd (upd (upd (upd (upd (upd (upd (upd (upd (upd (upd (upd (upd (upd (upd (upd (upd (upd (upd (upd (upd (upd (upd (upd (upd (upd (upd (upd (upd (upd (upd (upd (upd (upd (upd (upd (upd (upd (upd (upd (upd (upd (fun _ => 0) 0 0) 1 0) 2 0) 3 0) 4 0) 5 0) 6 0) 7 0) 8 0) 9 0) 10 0) 11 0) 12 0) 13 0) 0 0) 1 0) 2 0) 3 0) 4 0) 5 0) 6 0) 7 0) 8 0) 9 0) 10 0) 11 0) 12 0) 13 0) 0 0) 1 0) 2 0) 3 0) 4 0) 5 0) 6 0) 7 0) 8 0) 9 0) 10 0) 11 0) 12 0) 13 0))), (nmk, .inl (cI, 61, .inl (upd (upd (upd (fun _ => 0) 0 5000000) 0 4) 0 4)))]) (va_runS (As := [.long 10, .long 10, .int 0]) (rest := []) ⟨hx, hb, hml, hown, hts⟩ (c_X8_lowest_10_0 l dC dI cI cZ cK tS aK aV  H.size) (va_cwS 3 hts (gw_s (fun _ h9 => List.mem_cons_of_mem _ h9) wm_528 wm_529 wm_385 wm_530) rfl rfl rfl (by decide +kernel) ⟨Nat.le_of_ble_eq_true rfl, Nat.le_of_ble_eq_true rfl⟩) (mx_preS hKx hP hD hS hA [] (by decide) rfl) rfl rfl hl.1 rfl (lv_room (Nat.le_of_ble_eq_true rfl)) dX8_gust_197 ⟨Nat.le_of_ble_eq_true rfl, Nat.le_of_ble_eq_true rfl⟩) hP hD hS hA [] [0, 1, 2] rfl rfl (by decide) (by decide) (fun r348 u348 H locs hq348 hP hD hS => ?_)
          replace hP : va_P (dC, dI) vwCl [(n, .inr (8, [.int 800, .int 0, .int 0, .int 0, .int 0, .int 0, .int 0, .ref nwi, .ref nco, .int 0, .ref nqu, .ref nmi, .ref nde, .ref nsa, .ref nsm, .int 0, .ref npa, .int 0, .ref nac, .ref nam, .ref naw, .int 0, .int 0, .int (-6), .int 0, .int 4000, .int (-6), .int (-6), .int 0, .int 0, .ref ncs, .ref nbw, .ref ndc, .ref nmk, .int 800, .int 0, .int 0, .int 0, .int 0, .int 0, .int 0, .ref npo, .int 0, .ref nta, .ref npl, .int 0, .int 0, .ref nmm, .ref ncu, .ref nke, .ref nik, .int 0, .int 0])), (ndc, .inl (cI, 14, .inl (upd (upd (upd (upd (upd (upd (upd (upd (upd (upd (upd (upd (upd (upd (upd (upd (upd (upd (upd (upd (upd (upd (upd (upd (upd (upd (upd (upd (upd (upd (upd (upd (upd (upd (upd (upd (upd (upd (upd (upd (upd (upd (fun _ => 0) 0 0) 1 0) 2 0) 3 0) 4 0) 5 0) 6 0) 7 0) 8 0) 9 0) 10 0) 11 0) 12 0) 13 0) 0 0) 1 0) 2 0) 3 0) 4 0) 5 0) 6 0) 7 0) 8 0) 9 0) 10 0) 11 0) 12 0) 13 0) 0 0) 1 0) 2 0) 3 0) 4 0) 5 0) 6 0) 7 0) 8 0) 9 0) 10 0) 11 0) 12 0) 13 0))), (nmk, .inl (cI, 61, .inl (upd (upd (upd (fun _ => 0) 0 5000000) 0 4) 0 4)))] H := hP
          replace hD : va_D A [(n, .inr (8, [.int 800, .int 0, .int 0, .int 0, .int 0, .int 0, .int 0, .ref nwi, .ref nco, .int 0, .ref nqu, .ref nmi, .ref nde, .ref nsa, .ref nsm, .int 0, .ref npa, .int 0, .ref nac, .ref nam, .ref naw, .int 0, .int 0, .int (-6), .int 0, .int 4000, .int (-6), .int (-6), .int 0, .int 0, .ref ncs, .ref nbw, .ref ndc, .ref nmk, .int 800, .int 0, .int 0, .int 0, .int 0, .int 0, .int 0, .ref npo, .int 0, .ref nta, .ref npl, .int 0, .int 0, .ref nmm, .ref ncu, .ref nke, .ref nik, .int 0, .int 0])), (ndc, .inl (cI, 14, .inl (upd (upd (upd (upd (upd (upd (upd (upd (upd (upd (upd (upd (upd (upd (upd (upd (upd (upd (upd (upd (upd (upd (upd (upd (upd (upd (upd (upd (upd (upd (upd (upd (upd (upd (upd (upd (upd (upd (upd (upd (upd (upd (fun _ => 0) 0 0) 1 0) 2 0) 3 0) 4 0) 5 0) 6 0) 7 0) 8 0) 9 0) 10 0) 11 0) 12 0) 13 0) 0 0) 1 0) 2 0) 3 0) 4 0) 5 0) 6 0) 7 0) 8 0) 9 0) 10 0) 11 0) 12 0) 13 0) 0 0) 1 0) 2 0) 3 0) 4 0) 5 0) 6 0) 7 0) 8 0) 9 0) 10 0) 11 0) 12 0) 13 0))), (nmk, .inl (cI, 61, .inl (upd (upd (upd (fun _ => 0) 0 5000000) 0 4) 0 4)))] := hD
          obtain rfl : r348 = 1 := hq348
          have hP9 := mx_subP (wc := []) hP [] rfl
          have hD9 := hD.sub (ws' := []) [] (by decide) rfl
          exact W.lret (v := 1) hx hb hr (fun t ht hW => ⟨⟨1, (), rfl, rfl, by rw [ht]; exact hP9, hD9⟩, hS.F ht⟩) hS.2.2 dX8_gust_200
        · have z9 : (9 : Int32).toInt = 9 := rfl
          refine lv_aload_n hx hb dX8_gust_36 rfl (lv_at hl 0 rfl) ?_
          refine mx_i (wr := [(ndc, .inl (cI, 14, .inl (fun _ => 0))), (nmk, .inl (cI, 61, .inl (fun _ => 0)))]) (va_runV (As := []) (rest := []) ⟨hx, hb, hml, hown, hts⟩ (c_X8_faultIn l dC dI cI cZ cK tS aK aV n nwi nco nqu nmi nde nsa nsm npa nac nam naw ncs nbw ndc nmk npo nta npl nmm ncu nke nik 800 0 0 0 0 0 0 0 0 0 0 0 0 0 0 0 0 0 0 0 0 0 0 0 0 0 0 0 0 0 H.size) (cwV 0 hts (gw_v (fun _ h9 => List.mem_cons_of_mem _ h9) wm_453 wm_454 wm_455 wm_385 wm_456) rfl rfl rfl (by decide +kernel) ⟨Nat.le_of_ble_eq_true rfl, Nat.le_of_ble_eq_true rfl⟩) (mx_preV (C := RX8) (T := TX8) (N := 53) (ci := 8) hKx hP hD hS hA [0] (by decide) rfl rfl rfl) rfl rfl hl.1 rfl (lv_room (Nat.le_of_ble_eq_true rfl)) dX8_gust_37 ⟨Nat.le_of_ble_eq_true rfl, Nat.le_of_ble_eq_true rfl⟩) hP hD hS hA [0] [1, 2] rfl rfl (by decide) (by decide) (fun r349 u349 H locs hq349 hP hD hS => ?_)
          replace hP : va_P (dC, dI) vwCl [(ndc, .inl (cI, 14, .inl (fun _ => 0))), (nmk, .inl (cI, 61, .inl (fun _ => 0))), (n, .inr (8, [.int 800, .int 0, .int 0, .int 0, .int 0, .int 0, .int 0, .ref nwi, .ref nco, .int 0, .ref nqu, .ref nmi, .ref nde, .ref nsa, .ref nsm, .int 0, .ref npa, .int 0, .ref nac, .ref nam, .ref naw, .int 0, .int 0, .int 0, .int 0, .int 0, .int 0, .int 0, .int 0, .int 0, .ref ncs, .ref nbw, .ref ndc, .ref nmk, .int 0, .int 0, .int 0, .int 0, .int 0, .int 0, .int 0, .ref npo, .int 0, .ref nta, .ref npl, .int 0, .int 0, .ref nmm, .ref ncu, .ref nke, .ref nik, .int 0, .int 0]))] H := hP
          replace hD : va_D A [(ndc, .inl (cI, 14, .inl (fun _ => 0))), (nmk, .inl (cI, 61, .inl (fun _ => 0))), (n, .inr (8, [.int 800, .int 0, .int 0, .int 0, .int 0, .int 0, .int 0, .ref nwi, .ref nco, .int 0, .ref nqu, .ref nmi, .ref nde, .ref nsa, .ref nsm, .int 0, .ref npa, .int 0, .ref nac, .ref nam, .ref naw, .int 0, .int 0, .int 0, .int 0, .int 0, .int 0, .int 0, .int 0, .int 0, .ref ncs, .ref nbw, .ref ndc, .ref nmk, .int 0, .int 0, .int 0, .int 0, .int 0, .int 0, .int 0, .ref npo, .int 0, .ref nta, .ref npl, .int 0, .int 0, .ref nmm, .ref ncu, .ref nke, .ref nik, .int 0, .int 0]))] := hD
          obtain rfl : r349 = (-6) := hq349
          refine lv_if_lt (tgt := 47) hx hb dX8_gust_40 (by decide) (fun c350 => ?_) (fun c350 => absurd c350 (by decide))
          refine lv_aload_n hx hb dX8_gust_47 rfl (lv_at hl 0 rfl) ?_
          refine mx_v (wr := [(ndc, .inl (cI, 14, .inl (fun _ => 0))), (nmk, .inl (cI, 61, .inl (fun _ => 0)))]) (va_runV (As := []) (rest := []) ⟨hx, hb, hml, hown, hts⟩ (c_X8_keepNow l dC dI cI cZ cK tS aK aV n nwi nco nqu nmi nde nsa nsm npa nac nam naw ncs nbw ndc nmk npo nta npl nmm ncu nke nik 800 0 0 0 0 0 0 0 0 0 0 0 0 0 0 0 0 0 0 0 0 0 0 0 0 0 0 0 0 0 0 H.size) (cwV 0 hts (gw_v (fun _ h9 => List.mem_cons_of_mem _ h9) wm_457 wm_458 wm_459 wm_385 wm_460) rfl rfl rfl (by decide +kernel) ⟨Nat.le_of_ble_eq_true rfl, Nat.le_of_ble_eq_true rfl⟩) (mx_preV (C := RX8) (T := TX8) (N := 53) (ci := 8) hKx hP hD hS hA [2] (by decide) rfl rfl rfl) rfl rfl hl.1 rfl (lv_room (Nat.le_of_ble_eq_true rfl)) dX8_gust_48 ⟨Nat.le_of_ble_eq_true rfl, Nat.le_of_ble_eq_true rfl⟩) hP hD hS hA [2] [0, 1] rfl rfl (by decide) (by decide) (fun u351 H locs hq351 hP hD hS => ?_)
          replace hP : va_P (dC, dI) vwCl [(ndc, .inl (cI, 14, .inl (fun _ => 0))), (nmk, .inl (cI, 61, .inl (fun _ => 0))), (n, .inr (8, [.int 800, .int 0, .int 0, .int 0, .int 0, .int 0, .int 0, .ref nwi, .ref nco, .int 0, .ref nqu, .ref nmi, .ref nde, .ref nsa, .ref nsm, .int 0, .ref npa, .int 0, .ref nac, .ref nam, .ref naw, .int 0, .int 0, .int (-6), .int 0, .int 4000, .int 0, .int 0, .int 0, .int 0, .ref ncs, .ref nbw, .ref ndc, .ref nmk, .int 800, .int 0, .int 0, .int 0, .int 0, .int 0, .int 0, .ref npo, .int 0, .ref nta, .ref npl, .int 0, .int 0, .ref nmm, .ref ncu, .ref nke, .ref nik, .int 0, .int 0]))] H := hP
          replace hD : va_D A [(ndc, .inl (cI, 14, .inl (fun _ => 0))), (nmk, .inl (cI, 61, .inl (fun _ => 0))), (n, .inr (8, [.int 800, .int 0, .int 0, .int 0, .int 0, .int 0, .int 0, .ref nwi, .ref nco, .int 0, .ref nqu, .ref nmi, .ref nde, .ref nsa, .ref nsm, .int 0, .ref npa, .int 0, .ref nac, .ref nam, .ref naw, .int 0, .int 0, .int (-6), .int 0, .int 4000, .int 0, .int 0, .int 0, .int 0, .ref ncs, .ref nbw, .ref ndc, .ref nmk, .int 800, .int 0, .int 0, .int 0, .int 0, .int 0, .int 0, .ref npo, .int 0, .ref nta, .ref npl, .int 0, .int 0, .ref nmm, .ref ncu, .ref nke, .ref nik, .int 0, .int 0]))] := hD
          refine lv_aload_n hx hb dX8_gust_51 rfl (lv_at hl 0 rfl) ?_
          refine mx_i (wr := []) (va_runV (As := []) (rest := []) ⟨hx, hb, hml, hown, hts⟩ (c_X8_canWithoutEnd l dC dI cI cZ cK tS aK aV n nwi nco nqu nmi nde nsa nsm npa nac nam naw ncs nbw ndc nmk npo nta npl nmm ncu nke nik 800 0 0 0 0 0 0 0 0 0 0 (-6) 0 4000 0 0 0 0 800 0 0 0 0 0 0 0 0 0 0 0 (fun _ => 0) (fun _ => 0) H.size) (cwV 0 hts (gw_v (fun _ h9 => List.mem_cons_of_mem _ h9) wm_519 wm_520 wm_521 wm_385 wm_522) rfl rfl rfl (by decide +kernel) ⟨Nat.le_of_ble_eq_true rfl, Nat.le_of_ble_eq_true rfl⟩) (mx_preV (C := RX8) (T := TX8) (N := 53) (ci := 8) hKx hP hD hS hA [2, 0, 1] (by decide) rfl rfl rfl) rfl rfl hl.1 rfl (lv_room (Nat.le_of_ble_eq_true rfl)) dX8_gust_52 ⟨Nat.le_of_ble_eq_true rfl, Nat.le_of_ble_eq_true rfl⟩) hP hD hS hA [2, 0, 1] [] rfl rfl (by decide) (by decide) (fun r352 u352 H locs hq352 hP hD hS => ?_)
          replace hP : va_P (dC, dI) vwCl [(n, .inr (8, [.int 800, .int 0, .int 0, .int 0, .int 0, .int 0, .int 0, .ref nwi, .ref nco, .int 0, .ref nqu, .ref nmi, .ref nde, .ref nsa, .ref nsm, .int 0, .ref npa, .int 0, .ref nac, .ref nam, .ref naw, .int 0, .int 0, .int (-6), .int 0, .int 4000, .int (-6), .int (-6), .int 0, .int 0, .ref ncs, .ref nbw, .ref ndc, .ref nmk, .int 800, .int 0, .int 0, .int 0, .int 0, .int 0, .int 0, .ref npo, .int 0, .ref nta, .ref npl, .int 0, .int 0, .ref nmm, .ref ncu, .ref nke, .ref nik, .int 0, .int 0])), (ndc, .inl (cI, 14, .inl (upd (upd (upd (upd (upd (upd (upd (upd (upd (upd (upd (upd (upd (upd (fun _ => 0) 0 0) 1 0) 2 0) 3 0) 4 0) 5 0) 6 0) 7 0) 8 0) 9 0) 10 0) 11 0) 12 0) 13 0))), (nmk, .inl (cI, 61, .inl (upd (fun _ => 0) 0 5000000)))] H := hP
          replace hD : va_D A [(n, .inr (8, [.int 800, .int 0, .int 0, .int 0, .int 0, .int 0, .int 0, .ref nwi, .ref nco, .int 0, .ref nqu, .ref nmi, .ref nde, .ref nsa, .ref nsm, .int 0, .ref npa, .int 0, .ref nac, .ref nam, .ref naw, .int 0, .int 0, .int (-6), .int 0, .int 4000, .int (-6), .int (-6), .int 0, .int 0, .ref ncs, .ref nbw, .ref ndc, .ref nmk, .int 800, .int 0, .int 0, .int 0, .int 0, .int 0, .int 0, .ref npo, .int 0, .ref nta, .ref npl, .int 0, .int 0, .ref nmm, .ref ncu, .ref nke, .ref nik, .int 0, .int 0])), (ndc, .inl (cI, 14, .inl (upd (upd (upd (upd (upd (upd (upd (upd (upd (upd (upd (upd (upd (upd (fun _ => 0) 0 0) 1 0) 2 0) 3 0) 4 0) 5 0) 6 0) 7 0) 8 0) 9 0) 10 0) 11 0) 12 0) 13 0))), (nmk, .inl (cI, 61, .inl (upd (fun _ => 0) 0 5000000)))] := hD
          obtain rfl : r352 = 1 := hq352
          refine lv_if_ne (tgt := 62) hx hb dX8_gust_55 (by decide) (fun c353 => ?_) (fun c353 => absurd c353 (by decide))
          refine lv_aload_n hx hb dX8_gust_62 rfl (lv_at hl 0 rfl) ?_
          refine va_get (D := (dC, dI)) (ci := 8) (v := .int 0) (C := RX8) (T := TX8) (N := 53) hx hb hts hin8 hown hK hP 0 rfl rfl 39 (by decide) hw1 (fun _ h9 => h9) rfl dX8_gust_63 ?_
          refine lv_aload_n hx hb dX8_gust_66 rfl (lv_at hl 0 rfl) ?_
          refine va_get (D := (dC, dI)) (ci := 8) (v := .int 0) (C := RX8) (T := TX8) (N := 53) hx hb hts hin8 hown hK hP 0 rfl rfl 4 (by decide) hw2 (fun _ h9 => h9) rfl dX8_gust_67 ?_
          refine lv_isub hx hb dX8_gust_70 ?_
          refine lv_topi (fun x354 e354 => ?_)
          obtain rfl : x354 = 0 := e354.trans (by decide)
          refine lv_iconst (v := 1) hx hb dX8_gust_71 (by decide) ?_
          refine lv_iadd hx hb dX8_gust_72 ?_
          refine lv_topi (fun x355 e355 => ?_)
          obtain rfl : x355 = 1 := e355.trans (by decide)
          refine lv_istore (lv' := [(4, .int 1), (0, .ref n), (1, .int 9), (2, .int 0), (3, .int 0)]) hx hb dX8_gust_73 hl (by decide) rfl (fun ls hl => ?_)
          refine lv_iload hx hb dX8_gust_75 (lv_at hl 0 rfl) ?_
          refine lv_bipush (v := 8) hx hb dX8_gust_77 (by decide) ?_
          refine lv_icmp_le (tgt := 86) hx hb dX8_gust_79 (by decide) (fun c356 => ?_) (fun c356 => absurd c356 (by decide))
          refine lv_lconst (v := 0) hx hb dX8_gust_86 (by decide) ?_
          refine lv_lstore (lv' := [(5, .long 0), (4, .int 1), (0, .ref n), (1, .int 9), (2, .int 0), (3, .int 0)]) hx hb dX8_gust_87 hl (by decide) rfl (fun ls hl => ?_)
          refine lv_lconst (v := 0) hx hb dX8_gust_89 (by decide) ?_
          refine lv_lstore (lv' := [(7, .long 0), (5, .long 0), (4, .int 1), (0, .ref n), (1, .int 9), (2, .int 0), (3, .int 0)]) hx hb dX8_gust_90 hl (by decide) rfl (fun ls hl => ?_)
          refine lv_iconst (v := 0) hx hb dX8_gust_92 (by decide) ?_
          refine lv_istore (lv' := [(9, .int 0), (7, .long 0), (5, .long 0), (4, .int 1), (0, .ref n), (1, .int 9), (2, .int 0), (3, .int 0)]) hx hb dX8_gust_93 hl (by decide) rfl (fun ls hl => ?_)
          refine lv_iload hx hb dX8_gust_95 (lv_at hl 0 rfl) ?_
          refine lv_iconst (v := 1) hx hb dX8_gust_97 (by decide) ?_
          refine lv_iload hx hb dX8_gust_98 (lv_at hl 3 rfl) ?_
          refine lv_ishl hx hb dX8_gust_100 ?_
          refine lv_topi (fun x357 e357 => ?_)
          obtain rfl : x357 = 2 := e357.trans (by decide)
          refine lv_icmp_ge (tgt := 187) hx hb dX8_gust_101 (by decide) (fun c358 => absurd c358 (by decide)) (fun c358 => ?_)
          refine lv_lconst (v := 1) hx hb dX8_gust_104 (by decide) ?_
          refine lv_lstore (lv' := [(10, .long 1), (9, .int 0), (7, .long 0), (5, .long 0), (4, .int 1), (0, .ref n), (1, .int 9), (2, .int 0), (3, .int 0)]) hx hb dX8_gust_105 hl (by decide) rfl (fun ls hl => ?_)
          refine lv_iconst (v := 0) hx hb dX8_gust_107 (by decide) ?_
          refine lv_istore (lv' := [(12, .int 0), (10, .long 1), (9, .int 0), (7, .long 0), (5, .long 0), (4, .int 1), (0, .ref n), (1, .int 9), (2, .int 0), (3, .int 0)]) hx hb dX8_gust_108 hl (by decide) rfl (fun ls hl => ?_)
          refine lv_iload hx hb dX8_gust_110 (lv_at hl 0 rfl) ?_
          refine lv_iload hx hb dX8_gust_112 (lv_at hl 5 rfl) ?_
          refine lv_icmp_ge (tgt := 149) hx hb dX8_gust_114 (by decide) (fun c359 => absurd c359 (by decide)) (fun c359 => ?_)
          refine lv_lload hx hb dX8_gust_117 (lv_at hl 1 rfl) ?_
          refine lv_iload hx hb dX8_gust_119 (lv_at hl 2 rfl) ?_
          refine lv_iload hx hb dX8_gust_121 (lv_at hl 0 rfl) ?_
          refine lv_ishr hx hb dX8_gust_123 ?_
          refine lv_topi (fun x360 e360 => ?_)
          obtain rfl : x360 = 0 := e360.trans (by decide)
          refine lv_iconst (v := 1) hx hb dX8_gust_124 (by decide) ?_
          refine lv_iand hx hb dX8_gust_125 ?_
          refine lv_topi (fun x361 e361 => ?_)
          obtain rfl : x361 = 0 := e361.trans (by decide)
          refine lv_iconst (v := 1) hx hb dX8_gust_126 (by decide) ?_
          refine lv_icmp_ne (tgt := 135) hx hb dX8_gust_127 (by decide) (fun c362 => ?_) (fun c362 => absurd c362 (by decide))
          refine lv_bipush (v := 10) hx hb dX8_gust_135 (by decide) ?_
          refine lv_iload_n hx hb dX8_gust_137 rfl (lv_at hl 7 rfl) ?_
          refine lv_isub hx hb dX8_gust_138 ?_
          refine lv_topi (fun x363 e363 => ?_)
          obtain rfl : x363 = 1 := e363.trans (by decide)
          refine lv_i2l (v := 1) hx hb dX8_gust_139 (by decide) ?_
          refine lv_lmul hx hb dX8_gust_140 ?_
          refine lv_topl (fun x364 e364 => ?_)
          obtain rfl : x364 = 1 := e364.trans (by decide)
          refine lv_lstore (lv' := [(10, .long 1), (12, .int 0), (9, .int 0), (7, .long 0), (5, .long 0), (4, .int 1), (0, .ref n), (1, .int 9), (2, .int 0), (3, .int 0)]) hx hb dX8_gust_141 hl (by decide) rfl (fun ls hl => ?_)
          refine lv_iinc (v := 1) (lv' := [(12, .int 1), (10, .long 1), (9, .int 0), (7, .long 0), (5, .long 0), (4, .int 1), (0, .ref n), (1, .int 9), (2, .int 0), (3, .int 0)]) hx hb dX8_gust_143 hl (k := 1) rfl (by decide) (by decide) rfl (fun ls hl => ?_)
          refine lv_goto (tgt := 110) hx hb dX8_gust_146 (by decide) ?_
          refine lv_iload hx hb dX8_gust_110 (lv_at hl 0 rfl) ?_
          refine lv_iload hx hb dX8_gust_112 (lv_at hl 5 rfl) ?_
          refine lv_icmp_ge (tgt := 149) hx hb dX8_gust_114 (by decide) (fun c365 => ?_) (fun c365 => absurd c365 (by decide))
          refine lv_aload_n hx hb dX8_gust_149 rfl (lv_at hl 6 rfl) ?_
          refine lv_iload hx hb dX8_gust_150 (lv_at hl 2 rfl) ?_
          refine lv_aload_n hx hb dX8_gust_152 rfl (lv_at hl 6 rfl) ?_
          refine va_get (D := (dC, dI)) (ci := 8) (v := .int 0) (C := RX8) (T := TX8) (N := 53) hx hb hts hin8 hown hK hP 0 rfl rfl 4 (by decide) hw2 (fun _ h9 => h9) rfl dX8_gust_153 ?_
          refine lv_ishl hx hb dX8_gust_156 ?_
          refine lv_topi (fun x366 e366 => ?_)
          obtain rfl : x366 = 0 := e366.trans (by decide)
          refine va_put (D := (dC, dI)) (ci := 8) (v := .int 0) (ty := .int) (C := RX8) (T := TX8) (N := 53) hx hb hts hin8 tyX8 tyX8_ok nmX8 hown hK hP hD hS 0 rfl rfl 22 (by decide) hw3 (fun _ h9 => h9) rfl (by decide +kernel) rfl rfl (Nat.le_of_ble_eq_true rfl) dX8_gust_157 (fun H locs hP hD hS => ?_)
          replace hP : va_P (dC, dI) vwCl [(n, .inr (8, [.int 800, .int 0, .int 0, .int 0, .int 0, .int 0, .int 0, .ref nwi, .ref nco, .int 0, .ref nqu, .ref nmi, .ref nde, .ref nsa, .ref nsm, .int 0, .ref npa, .int 0, .ref nac, .ref nam, .ref naw, .int 0, .int 0, .int (-6), .int 0, .int 4000, .int (-6), .int (-6), .int 0, .int 0, .ref ncs, .ref nbw, .ref ndc, .ref nmk, .int 800, .int 0, .int 0, .int 0, .int 0, .int 0, .int 0, .ref npo, .int 0, .ref nta, .ref npl, .int 0, .int 0, .ref nmm, .ref ncu, .ref nke, .ref nik, .int 0, .int 0])), (ndc, .inl (cI, 14, .inl (upd (upd (upd (upd (upd (upd (upd (upd (upd (upd (upd (upd (upd (upd (fun _ => 0) 0 0) 1 0) 2 0) 3 0) 4 0) 5 0) 6 0) 7 0) 8 0) 9 0) 10 0) 11 0) 12 0) 13 0))), (nmk, .inl (cI, 61, .inl (upd (fun _ => 0) 0 5000000)))] H := hP
          replace hD : va_D A [(n, .inr (8, [.int 800, .int 0, .int 0, .int 0, .int 0, .int 0, .int 0, .ref nwi, .ref nco, .int 0, .ref nqu, .ref nmi, .ref nde, .ref nsa, .ref nsm, .int 0, .ref npa, .int 0, .ref nac, .ref nam, .ref naw, .int 0, .int 0, .int (-6), .int 0, .int 4000, .int (-6), .int (-6), .int 0, .int 0, .ref ncs, .ref nbw, .ref ndc, .ref nmk, .int 800, .int 0, .int 0, .int 0, .int 0, .int 0, .int 0, .ref npo, .int 0, .ref nta, .ref npl, .int 0, .int 0, .ref nmm, .ref ncu, .ref nke, .ref nik, .int 0, .int 0])), (ndc, .inl (cI, 14, .inl (upd (upd (upd (upd (upd (upd (upd (upd (upd (upd (upd (upd (upd (upd (fun _ => 0) 0 0) 1 0) 2 0) 3 0) 4 0) 5 0) 6 0) 7 0) 8 0) 9 0) 10 0) 11 0) 12 0) 13 0))), (nmk, .inl (cI, 61, .inl (upd (fun _ => 0) 0 5000000)))] := hD
          refine lv_lload hx hb dX8_gust_160 (lv_at hl 3 rfl) ?_
          refine lv_lload hx hb dX8_gust_162 (lv_at hl 1 rfl) ?_
          refine lv_ladd hx hb dX8_gust_164 ?_
          refine lv_topl (fun x367 e367 => ?_)
          obtain rfl : x367 = 1 := e367.trans (by decide)
          refine lv_lstore (lv' := [(7, .long 1), (12, .int 1), (10, .long 1), (9, .int 0), (5, .long 0), (4, .int 1), (0, .ref n), (1, .int 9), (2, .int 0), (3, .int 0)]) hx hb dX8_gust_165 hl (by decide) rfl (fun ls hl => ?_)
          refine lv_lload hx hb dX8_gust_167 (lv_at hl 4 rfl) ?_
          refine lv_lload hx hb dX8_gust_169 (lv_at hl 2 rfl) ?_
          refine lv_aload_n hx hb dX8_gust_171 rfl (lv_at hl 6 rfl) ?_
          refine lv_iload_n hx hb dX8_gust_172 rfl (lv_at hl 8 rfl) ?_
          refine mx_i (wr := []) (va_runV (As := [.int 0]) (rest := [.long 1, .long 0]) ⟨hx, hb, hml, hown, hts⟩ (c_X8_worthOfGusts_0 l dC dI cI cZ cK tS aK aV n nwi nco nqu nmi nde nsa nsm npa nac nam naw ncs nbw ndc nmk npo nta npl nmm ncu nke nik 0 0 0 0 0 0 0 0 0 0 (-6) 0 4000 (-6) (-6) 0 0 800 0 0 0 0 0 0 0 0 0 0 0 (upd (upd (upd (upd (upd (upd (upd (upd (upd (upd (upd (upd (upd (upd (fun _ => 0) 0 0) 1 0) 2 0) 3 0) 4 0) 5 0) 6 0) 7 0) 8 0) 9 0) 10 0) 11 0) 12 0) 13 0) (upd (fun _ => 0) 0 5000000) H.size) (cwV 1 hts (gw_v (fun _ h9 => List.mem_cons_of_mem _ h9) wm_524 wm_525 wm_526 wm_385 wm_527) rfl rfl rfl (by decide +kernel) ⟨Nat.le_of_ble_eq_true rfl, Nat.le_of_ble_eq_true rfl⟩) (mx_preV (C := RX8) (T := TX8) (N := 53) (ci := 8) hKx hP hD hS hA [0, 1, 2] (by decide) rfl rfl rfl) rfl rfl hl.1 rfl (lv_room (Nat.le_of_ble_eq_true rfl)) dX8_gust_173 ⟨Nat.le_of_ble_eq_true rfl, Nat.le_of_ble_eq_true rfl⟩) hP hD hS hA [0, 1, 2] [] rfl rfl (by decide) (by decide) (fun r368 u368 H locs hq368 hP hD hS => ?_)
          replace hP : va_P (dC, dI) vwCl [(n, .inr (8, [.int 800, .int 0, .int 0, .int 0, .int 0, .int 0, .int 0, .ref nwi, .ref nco, .int 0, .ref nqu, .ref nmi, .ref nde, .ref nsa, .ref nsm, .int 0, .ref npa, .int 0, .ref nac, .ref nam, .ref naw, .int 0, .int 0, .int (-6), .int 0, .int 4000, .int (-6), .int (-6), .int 0, .int 0, .ref ncs, .ref nbw, .ref ndc, .ref nmk, .int 800, .int 0, .int 0, .int 0, .int 0, .int 0, .int 0, .ref npo, .int 0, .ref nta, .ref npl, .int 0, .int 0, .ref nmm, .ref ncu, .ref nke, .ref nik, .int 0, .int 0])), (ndc, .inl (cI, 14, .inl (upd (upd (upd (upd (upd (upd (upd (upd (upd (upd (upd (upd (upd (upd (upd (upd (upd (upd (upd (upd (upd (upd (upd (upd (upd (upd (upd (upd (fun _ => 0) 0 0) 1 0) 2 0) 3 0) 4 0) 5 0) 6 0) 7 0) 8 0) 9 0) 10 0) 11 0) 12 0) 13 0) 0 0) 1 0) 2 0) 3 0) 4 0) 5 0) 6 0) 7 0) 8 0) 9 0) 10 0) 11 0) 12 0) 13 0))), (nmk, .inl (cI, 61, .inl (upd (upd (fun _ => 0) 0 5000000) 0 4)))] H := hP
          replace hD : va_D A [(n, .inr (8, [.int 800, .int 0, .int 0, .int 0, .int 0, .int 0, .int 0, .ref nwi, .ref nco, .int 0, .ref nqu, .ref nmi, .ref nde, .ref nsa, .ref nsm, .int 0, .ref npa, .int 0, .ref nac, .ref nam, .ref naw, .int 0, .int 0, .int (-6), .int 0, .int 4000, .int (-6), .int (-6), .int 0, .int 0, .ref ncs, .ref nbw, .ref ndc, .ref nmk, .int 800, .int 0, .int 0, .int 0, .int 0, .int 0, .int 0, .ref npo, .int 0, .ref nta, .ref npl, .int 0, .int 0, .ref nmm, .ref ncu, .ref nke, .ref nik, .int 0, .int 0])), (ndc, .inl (cI, 14, .inl (upd (upd (upd (upd (upd (upd (upd (upd (upd (upd (upd (upd (upd (upd (upd (upd (upd (upd (upd (upd (upd (upd (upd (upd (upd (upd (upd (upd (fun _ => 0) 0 0) 1 0) 2 0) 3 0) 4 0) 5 0) 6 0) 7 0) 8 0) 9 0) 10 0) 11 0) 12 0) 13 0) 0 0) 1 0) 2 0) 3 0) 4 0) 5 0) 6 0) 7 0) 8 0) 9 0) 10 0) 11 0) 12 0) 13 0))), (nmk, .inl (cI, 61, .inl (upd (upd (fun _ => 0) 0 5000000) 0 4)))] := hD
          obtain rfl : r368 = 1 := hq368
          refine lv_i2l (v := 1) hx hb dX8_gust_176 (by decide) ?_
          refine lv_lmul hx hb dX8_gust_177 ?_
          refine lv_topl (fun x369 e369 => ?_)
          obtain rfl : x369 = 1 := e369.trans (by decide)
          refine lv_ladd hx hb dX8_gust_178 ?_
          refine lv_topl (fun x370 e370 => ?_)
          obtain rfl : x370 = 1 := e370.trans (by decide)
          refine lv_lstore (lv' := [(5, .long 1), (7, .long 1), (12, .int 1), (10, .long 1), (9, .int 0), (4, .int 1), (0, .ref n), (1, .int 9), (2, .int 0), (3, .int 0)]) hx hb dX8_gust_179 hl (by decide) rfl (fun ls hl => ?_)
          refine lv_iinc (v := 1) (lv' := [(9, .int 1), (5, .long 1), (7, .long 1), (12, .int 1), (10, .long 1), (4, .int 1), (0, .ref n), (1, .int 9), (2, .int 0), (3, .int 0)]) hx hb dX8_gust_181 hl (k := 4) rfl (by decide) (by decide) rfl (fun ls hl => ?_)
          refine lv_goto (tgt := 95) hx hb dX8_gust_184 (by decide) ?_
          refine lv_iload hx hb dX8_gust_95 (lv_at hl 0 rfl) ?_
          refine lv_iconst (v := 1) hx hb dX8_gust_97 (by decide) ?_
          refine lv_iload hx hb dX8_gust_98 (lv_at hl 5 rfl) ?_
          refine lv_ishl hx hb dX8_gust_100 ?_
          refine lv_topi (fun x371 e371 => ?_)
          obtain rfl : x371 = 2 := e371.trans (by decide)
          refine lv_icmp_ge (tgt := 187) hx hb dX8_gust_101 (by decide) (fun c372 => absurd c372 (by decide)) (fun c372 => ?_)
          refine lv_lconst (v := 1) hx hb dX8_gust_104 (by decide) ?_
          refine lv_lstore (lv' := [(10, .long 1), (9, .int 1), (5, .long 1), (7, .long 1), (12, .int 1), (4, .int 1), (0, .ref n), (1, .int 9), (2, .int 0), (3, .int 0)]) hx hb dX8_gust_105 hl (by decide) rfl (fun ls hl => ?_)
          refine lv_iconst (v := 0) hx hb dX8_gust_107 (by decide) ?_
          refine lv_istore (lv' := [(12, .int 0), (10, .long 1), (9, .int 1), (5, .long 1), (7, .long 1), (4, .int 1), (0, .ref n), (1, .int 9), (2, .int 0), (3, .int 0)]) hx hb dX8_gust_108 hl (by decide) rfl (fun ls hl => ?_)
          refine lv_iload hx hb dX8_gust_110 (lv_at hl 0 rfl) ?_
          refine lv_iload hx hb dX8_gust_112 (lv_at hl 5 rfl) ?_
          refine lv_icmp_ge (tgt := 149) hx hb dX8_gust_114 (by decide) (fun c373 => absurd c373 (by decide)) (fun c373 => ?_)
          refine lv_lload hx hb dX8_gust_117 (lv_at hl 1 rfl) ?_
          refine lv_iload hx hb dX8_gust_119 (lv_at hl 2 rfl) ?_
          refine lv_iload hx hb dX8_gust_121 (lv_at hl 0 rfl) ?_
          refine lv_ishr hx hb dX8_gust_123 ?_
          refine lv_topi (fun x374 e374 => ?_)
          obtain rfl : x374 = 1 := e374.trans (by decide)
          refine lv_iconst (v := 1) hx hb dX8_gust_124 (by decide) ?_
          refine lv_iand hx hb dX8_gust_125 ?_
          refine lv_topi (fun x375 e375 => ?_)
          obtain rfl : x375 = 1 := e375.trans (by decide)
          refine lv_iconst (v := 1) hx hb dX8_gust_126 (by decide) ?_
          refine lv_icmp_ne (tgt := 135) hx hb dX8_gust_127 (by decide) (fun c376 => absurd c376 (by decide)) (fun c376 => ?_)
          refine lv_iload_n hx hb dX8_gust_130 rfl (lv_at hl 7 rfl) ?_
          refine lv_i2l (v := 9) hx hb dX8_gust_131 (by decide) ?_
          refine lv_goto (tgt := 140) hx hb dX8_gust_132 (by decide) ?_
          refine lv_lmul hx hb dX8_gust_140 ?_
          refine lv_topl (fun x377 e377 => ?_)
          obtain rfl : x377 = 9 := e377.trans (by decide)
          refine lv_lstore (lv' := [(10, .long 9), (12, .int 0), (9, .int 1), (5, .long 1), (7, .long 1), (4, .int 1), (0, .ref n), (1, .int 9), (2, .int 0), (3, .int 0)]) hx hb dX8_gust_141 hl (by decide) rfl (fun ls hl => ?_)
          refine lv_iinc (v := 1) (lv' := [(12, .int 1), (10, .long 9), (9, .int 1), (5, .long 1), (7, .long 1), (4, .int 1), (0, .ref n), (1, .int 9), (2, .int 0), (3, .int 0)]) hx hb dX8_gust_143 hl (k := 1) rfl (by decide) (by decide) rfl (fun ls hl => ?_)
          refine lv_goto (tgt := 110) hx hb dX8_gust_146 (by decide) ?_
          refine lv_iload hx hb dX8_gust_110 (lv_at hl 0 rfl) ?_
          refine lv_iload hx hb dX8_gust_112 (lv_at hl 5 rfl) ?_
          refine lv_icmp_ge (tgt := 149) hx hb dX8_gust_114 (by decide) (fun c378 => ?_) (fun c378 => absurd c378 (by decide))
          refine lv_aload_n hx hb dX8_gust_149 rfl (lv_at hl 6 rfl) ?_
          refine lv_iload hx hb dX8_gust_150 (lv_at hl 2 rfl) ?_
          refine lv_aload_n hx hb dX8_gust_152 rfl (lv_at hl 6 rfl) ?_
          refine va_get (D := (dC, dI)) (ci := 8) (v := .int 0) (C := RX8) (T := TX8) (N := 53) hx hb hts hin8 hown hK hP 0 rfl rfl 4 (by decide) hw2 (fun _ h9 => h9) rfl dX8_gust_153 ?_
          refine lv_ishl hx hb dX8_gust_156 ?_
          refine lv_topi (fun x379 e379 => ?_)
          obtain rfl : x379 = 1 := e379.trans (by decide)
          refine va_put (D := (dC, dI)) (ci := 8) (v := .int 1) (ty := .int) (C := RX8) (T := TX8) (N := 53) hx hb hts hin8 tyX8 tyX8_ok nmX8 hown hK hP hD hS 0 rfl rfl 22 (by decide) hw3 (fun _ h9 => h9) rfl (by decide +kernel) rfl rfl (Nat.le_of_ble_eq_true rfl) dX8_gust_157 (fun H locs hP hD hS => ?_)
          replace hP : va_P (dC, dI) vwCl [(n, .inr (8, [.int 800, .int 0, .int 0, .int 0, .int 0, .int 0, .int 0, .ref nwi, .ref nco, .int 0, .ref nqu, .ref nmi, .ref nde, .ref nsa, .ref nsm, .int 0, .ref npa, .int 0, .ref nac, .ref nam, .ref naw, .int 0, .int 1, .int (-6), .int 0, .int 4000, .int (-6), .int (-6), .int 0, .int 0, .ref ncs, .ref nbw, .ref ndc, .ref nmk, .int 800, .int 0, .int 0, .int 0, .int 0, .int 0, .int 0, .ref npo, .int 0, .ref nta, .ref npl, .int 0, .int 0, .ref nmm, .ref ncu, .ref nke, .ref nik, .int 0, .int 0])), (ndc, .inl (cI, 14, .inl (upd (upd (upd (upd (upd (upd (upd (upd (upd (upd (upd (upd (upd (upd (upd (upd (upd (upd (upd (upd (upd (upd (upd (upd (upd (upd (upd (upd (fun _ => 0) 0 0) 1 0) 2 0) 3 0) 4 0) 5 0) 6 0) 7 0) 8 0) 9 0) 10 0) 11 0) 12 0) 13 0) 0 0) 1 0) 2 0) 3 0) 4 0) 5 0) 6 0) 7 0) 8 0) 9 0) 10 0) 11 0) 12 0) 13 0))), (nmk, .inl (cI, 61, .inl (upd (upd (fun _ => 0) 0 5000000) 0 4)))] H := hP
          replace hD : va_D A [(n, .inr (8, [.int 800, .int 0, .int 0, .int 0, .int 0, .int 0, .int 0, .ref nwi, .ref nco, .int 0, .ref nqu, .ref nmi, .ref nde, .ref nsa, .ref nsm, .int 0, .ref npa, .int 0, .ref nac, .ref nam, .ref naw, .int 0, .int 1, .int (-6), .int 0, .int 4000, .int (-6), .int (-6), .int 0, .int 0, .ref ncs, .ref nbw, .ref ndc, .ref nmk, .int 800, .int 0, .int 0, .int 0, .int 0, .int 0, .int 0, .ref npo, .int 0, .ref nta, .ref npl, .int 0, .int 0, .ref nmm, .ref ncu, .ref nke, .ref nik, .int 0, .int 0])), (ndc, .inl (cI, 14, .inl (upd (upd (upd (upd (upd (upd (upd (upd (upd (upd (upd (upd (upd (upd (upd (upd (upd (upd (upd (upd (upd (upd (upd (upd (upd (upd (upd (upd (fun _ => 0) 0 0) 1 0) 2 0) 3 0) 4 0) 5 0) 6 0) 7 0) 8 0) 9 0) 10 0) 11 0) 12 0) 13 0) 0 0) 1 0) 2 0) 3 0) 4 0) 5 0) 6 0) 7 0) 8 0) 9 0) 10 0) 11 0) 12 0) 13 0))), (nmk, .inl (cI, 61, .inl (upd (upd (fun _ => 0) 0 5000000) 0 4)))] := hD
          refine lv_lload hx hb dX8_gust_160 (lv_at hl 4 rfl) ?_
          refine lv_lload hx hb dX8_gust_162 (lv_at hl 1 rfl) ?_
          refine lv_ladd hx hb dX8_gust_164 ?_
          refine lv_topl (fun x380 e380 => ?_)
          obtain rfl : x380 = 10 := e380.trans (by decide)
          refine lv_lstore (lv' := [(7, .long 10), (12, .int 1), (10, .long 9), (9, .int 1), (5, .long 1), (4, .int 1), (0, .ref n), (1, .int 9), (2, .int 0), (3, .int 0)]) hx hb dX8_gust_165 hl (by decide) rfl (fun ls hl => ?_)
          refine lv_lload hx hb dX8_gust_167 (lv_at hl 4 rfl) ?_
          refine lv_lload hx hb dX8_gust_169 (lv_at hl 2 rfl) ?_
          refine lv_aload_n hx hb dX8_gust_171 rfl (lv_at hl 6 rfl) ?_
          refine lv_iload_n hx hb dX8_gust_172 rfl (lv_at hl 8 rfl) ?_
          refine mx_i (wr := []) (va_runV (As := [.int 0]) (rest := [.long 9, .long 1]) ⟨hx, hb, hml, hown, hts⟩ (c_X8_worthOfGusts_0 l dC dI cI cZ cK tS aK aV n nwi nco nqu nmi nde nsa nsm npa nac nam naw ncs nbw ndc nmk npo nta npl nmm ncu nke nik 0 0 0 0 0 0 0 0 0 1 (-6) 0 4000 (-6) (-6) 0 0 800 0 0 0 0 0 0 0 0 0 0 0 (upd (upd (upd (upd (upd (upd (upd (upd (upd (upd (upd (upd (upd (upd (upd (upd (upd (upd (upd (upd (upd (upd (upd (upd (upd (upd (upd (upd (fun _ => 0) 0 0) 1 0) 2 0) 3 0) 4 0) 5 0) 6 0) 7 0) 8 0) 9 0) 10 0) 11 0) 12 0) 13 0) 0 0) 1 0) 2 0) 3 0) 4 0) 5 0) 6 0) 7 0) 8 0) 9 0) 10 0) 11 0) 12 0) 13 0) (upd (upd (fun _ => 0) 0 5000000) 0 4) H.size) (cwV 1 hts (gw_v (fun _ h9 => List.mem_cons_of_mem _ h9) wm_524 wm_525 wm_526 wm_385 wm_527) rfl rfl rfl (by decide +kernel) ⟨Nat.le_of_ble_eq_true rfl, Nat.le_of_ble_eq_true rfl⟩) (mx_preV (C := RX8) (T := TX8) (N := 53) (ci := 8) hKx hP hD hS hA [0, 1, 2] (by decide) rfl rfl rfl) rfl rfl hl.1 rfl (lv_room (Nat.le_of_ble_eq_true rfl)) dX8_gust_173 ⟨Nat.le_of_ble_eq_true rfl, Nat.le_of_ble_eq_true rfl⟩) hP hD hS hA [0, 1, 2] [] rfl rfl (by decide) (by decide) (fun r381 u381 H locs hq381 hP hD hS => ?_)
          replace hP : va_P (dC, dI) vwCl [(n, .inr (8, [.int 800, .int 0, .int 0, .int 0, .int 0, .int 0, .int 0, .ref nwi, .ref nco, .int 0, .ref nqu, .ref nmi, .ref nde, .ref nsa, .ref nsm, .int 0, .ref npa, .int 0, .ref nac, .ref nam, .ref naw, .int 0, .int 1, .int (-6), .int 0, .int 4000, .int (-6), .int (-6), .int 0, .int 0, .ref ncs, .ref nbw, .ref ndc, .ref nmk, .int 800, .int 0, .int 0, .int 0, .int 0, .int 0, .int 0, .ref npo, .int 0, .ref nta, .ref npl, .int 0, .int 0, .ref nmm, .ref ncu, .ref nke, .ref nik, .int 0, .int 0])), (ndc, .inl (cI, 14, .inl (upd (upd (upd (upd (upd (upd (upd (upd (upd (upd (upd (upd (upd (upd (upd (upd (upd (upd (upd (upd (upd (upd (upd (upd (upd (upd (upd (upd (upd (upd (upd (upd (upd (upd (upd (upd (upd (upd (upd (upd (upd (upd (fun _ => 0) 0 0) 1 0) 2 0) 3 0) 4 0) 5 0) 6 0) 7 0) 8 0) 9 0) 10 0) 11 0) 12 0) 13 0) 0 0) 1 0) 2 0) 3 0) 4 0) 5 0) 6 0) 7 0) 8 0) 9 0) 10 0) 11 0) 12 0) 13 0) 0 0) 1 0) 2 0) 3 0) 4 0) 5 0) 6 0) 7 0) 8 0) 9 0) 10 0) 11 0) 12 0) 13 0))), (nmk, .inl (cI, 61, .inl (upd (upd (upd (fun _ => 0) 0 5000000) 0 4) 0 4)))] H := hP
          replace hD : va_D A [(n, .inr (8, [.int 800, .int 0, .int 0, .int 0, .int 0, .int 0, .int 0, .ref nwi, .ref nco, .int 0, .ref nqu, .ref nmi, .ref nde, .ref nsa, .ref nsm, .int 0, .ref npa, .int 0, .ref nac, .ref nam, .ref naw, .int 0, .int 1, .int (-6), .int 0, .int 4000, .int (-6), .int (-6), .int 0, .int 0, .ref ncs, .ref nbw, .ref ndc, .ref nmk, .int 800, .int 0, .int 0, .int 0, .int 0, .int 0, .int 0, .ref npo, .int 0, .ref nta, .ref npl, .int 0, .int 0, .ref nmm, .ref ncu, .ref nke, .ref nik, .int 0, .int 0])), (ndc, .inl (cI, 14, .inl (upd (upd (upd (upd (upd (upd (upd (upd (upd (upd (upd (upd (upd (upd (upd (upd (upd (upd (upd (upd (upd (upd (upd (upd (upd (upd (upd (upd (upd (upd (upd (upd (upd (upd (upd (upd (upd (upd (upd (upd (upd (upd (fun _ => 0) 0 0) 1 0) 2 0) 3 0) 4 0) 5 0) 6 0) 7 0) 8 0) 9 0) 10 0) 11 0) 12 0) 13 0) 0 0) 1 0) 2 0) 3 0) 4 0) 5 0) 6 0) 7 0) 8 0) 9 0) 10 0) 11 0) 12 0) 13 0) 0 0) 1 0) 2 0) 3 0) 4 0) 5 0) 6 0) 7 0) 8 0) 9 0) 10 0) 11 0) 12 0) 13 0))), (nmk, .inl (cI, 61, .inl (upd (upd (upd (fun _ => 0) 0 5000000) 0 4) 0 4)))] := hD
          obtain rfl : r381 = 1 := hq381
          refine lv_i2l (v := 1) hx hb dX8_gust_176 (by decide) ?_
          refine lv_lmul hx hb dX8_gust_177 ?_
          refine lv_topl (fun x382 e382 => ?_)
          obtain rfl : x382 = 9 := e382.trans (by decide)
          refine lv_ladd hx hb dX8_gust_178 ?_
          refine lv_topl (fun x383 e383 => ?_)
          obtain rfl : x383 = 10 := e383.trans (by decide)
          refine lv_lstore (lv' := [(5, .long 10), (7, .long 10), (12, .int 1), (10, .long 9), (9, .int 1), (4, .int 1), (0, .ref n), (1, .int 9), (2, .int 0), (3, .int 0)]) hx hb dX8_gust_179 hl (by decide) rfl (fun ls hl => ?_)
          refine lv_iinc (v := 2) (lv' := [(9, .int 2), (5, .long 10), (7, .long 10), (12, .int 1), (10, .long 9), (4, .int 1), (0, .ref n), (1, .int 9), (2, .int 0), (3, .int 0)]) hx hb dX8_gust_181 hl (k := 4) rfl (by decide) (by decide) rfl (fun ls hl => ?_)
          refine lv_goto (tgt := 95) hx hb dX8_gust_184 (by decide) ?_
          refine lv_iload hx hb dX8_gust_95 (lv_at hl 0 rfl) ?_
          refine lv_iconst (v := 1) hx hb dX8_gust_97 (by decide) ?_
          refine lv_iload hx hb dX8_gust_98 (lv_at hl 5 rfl) ?_
          refine lv_ishl hx hb dX8_gust_100 ?_
          refine lv_topi (fun x384 e384 => ?_)
          obtain rfl : x384 = 2 := e384.trans (by decide)
          refine lv_icmp_ge (tgt := 187) hx hb dX8_gust_101 (by decide) (fun c385 => ?_) (fun c385 => absurd c385 (by decide))
          refine lv_aload_n hx hb dX8_gust_187 rfl (lv_at hl 6 rfl) ?_
          refine lv_iconst (v := 0) hx hb dX8_gust_188 (by decide) ?_
          refine va_put (D := (dC, dI)) (ci := 8) (v := .int 0) (ty := .int) (C := RX8) (T := TX8) (N := 53) hx hb hts hin8 tyX8 tyX8_ok nmX8 hown hK hP hD hS 0 rfl rfl 22 (by decide) hw3 (fun _ h9 => h9) rfl (by decide +kernel) rfl rfl (Nat.le_of_ble_eq_true rfl) dX8_gust_189 (fun H locs hP hD hS => ?_)
          replace hP : va_P (dC, dI) vwCl [(n, .inr (8, [.int 800, .int 0, .int 0, .int 0, .int 0, .int 0, .int 0, .ref nwi, .ref nco, .int 0, .ref nqu, .ref nmi, .ref nde, .ref nsa, .ref nsm, .int 0, .ref npa, .int 0, .ref nac, .ref nam, .ref naw, .int 0, .int 0, .int (-6), .int 0, .int 4000, .int (-6), .int (-6), .int 0, .int 0, .ref ncs, .ref nbw, .ref ndc, .ref nmk, .int 800, .int 0, .int 0, .int 0, .int 0, .int 0, .int 0, .ref npo, .int 0, .ref nta, .ref npl, .int 0, .int 0, .ref nmm, .ref ncu, .ref nke, .ref nik, .int 0, .int 0])), (ndc, .inl (cI, 14, .inl (upd (upd (upd (upd (upd (upd (upd (upd (upd (upd (upd (upd (upd (upd (upd (upd (upd (upd (upd (upd (upd (upd (upd (upd (upd (upd (upd (upd (upd (upd (upd (upd (upd (upd (upd (upd (upd (upd (upd (upd (upd (upd (fun _ => 0) 0 0) 1 0) 2 0) 3 0) 4 0) 5 0) 6 0) 7 0) 8 0) 9 0) 10 0) 11 0) 12 0) 13 0) 0 0) 1 0) 2 0) 3 0) 4 0) 5 0) 6 0) 7 0) 8 0) 9 0) 10 0) 11 0) 12 0) 13 0) 0 0) 1 0) 2 0) 3 0) 4 0) 5 0) 6 0) 7 0) 8 0) 9 0) 10 0) 11 0) 12 0) 13 0))), (nmk, .inl (cI, 61, .inl (upd (upd (upd (fun _ => 0) 0 5000000) 0 4) 0 4)))] H := hP
          replace hD : va_D A [(n, .inr (8, [.int 800, .int 0, .int 0, .int 0, .int 0, .int 0, .int 0, .ref nwi, .ref nco, .int 0, .ref nqu, .ref nmi, .ref nde, .ref nsa, .ref nsm, .int 0, .ref npa, .int 0, .ref nac, .ref nam, .ref naw, .int 0, .int 0, .int (-6), .int 0, .int 4000, .int (-6), .int (-6), .int 0, .int 0, .ref ncs, .ref nbw, .ref ndc, .ref nmk, .int 800, .int 0, .int 0, .int 0, .int 0, .int 0, .int 0, .ref npo, .int 0, .ref nta, .ref npl, .int 0, .int 0, .ref nmm, .ref ncu, .ref nke, .ref nik, .int 0, .int 0])), (ndc, .inl (cI, 14, .inl (upd (upd (upd (upd (upd (upd (upd (upd (upd (upd (upd (upd (upd (upd (upd (upd (upd (upd (upd (upd (upd (upd (upd (upd (upd (upd (upd (upd (upd (upd (upd (upd (upd (upd (upd (upd (upd (upd (upd (upd (upd (upd (fun _ => 0) 0 0) 1 0) 2 0) 3 0) 4 0) 5 0) 6 0) 7 0) 8 0) 9 0) 10 0) 11 0) 12 0) 13 0) 0 0) 1 0) 2 0) 3 0) 4 0) 5 0) 6 0) 7 0) 8 0) 9 0) 10 0) 11 0) 12 0) 13 0) 0 0) 1 0) 2 0) 3 0) 4 0) 5 0) 6 0) 7 0) 8 0) 9 0) 10 0) 11 0) 12 0) 13 0))), (nmk, .inl (cI, 61, .inl (upd (upd (upd (fun _ => 0) 0 5000000) 0 4) 0 4)))] := hD
          refine lv_lload hx hb dX8_gust_192 (lv_at hl 1 rfl) ?_
          refine lv_lload hx hb dX8_gust_194 (lv_at hl 2 rfl) ?_
          refine lv_iload_n hx hb dX8_gust_196 rfl (lv_at hl 9 rfl) ?_
          refine mx_l (wr := [(n, .inr (8, [.int 800, .int 0, .int 0, .int 0, .int 0, .int 0, .int 0, .ref nwi, .ref nco, .int 0, .ref nqu, .ref nmi, .ref nde, .ref nsa, .ref nsm, .int 0, .ref npa, .int 0, .ref nac, .ref nam, .ref naw, .int 0, .int 0, .int (-6), .int 0, .int 4000, .int (-6), .int (-6), .int 0, .int 0, .ref ncs, .ref nbw, .ref ndc, .ref nmk, .int 800, .int 0, .int 0, .int 0, .int 0, .int 0, .int 0, .ref npo, .int 0, .ref nta, .ref npl, .int 0, .int 0, .ref nmm, .ref ncu, .ref nke, .ref nik, .int 0, .int 0])), (ndc, .inl (cI, 14, .inl (upd (upd (upd (upd (upd (upd (upd (upd (upd (upd (upd (upd (upd (upd (upd (upd (upd (upd (upd (upd (upd (upd (upd (upd (upd (upd (upd (upd (upd (upd (upd (upd (upd (upd (upd (upd (upd (upd (upd (upd (upd (upd (fun _ => 0) 0 0) 1 0) 2 0) 3 0) 4 0) 5 0) 6 0) 7 0) 8 0) 9 0) 10 0) 11 0) 12 0) 13 0) 0 0) 1 0) 2 0) 3 0) 4 0) 5 0) 6 0) 7 0) 8 0) 9 0) 10 0) 11 0) 12 0) 13 0) 0 0) 1 0) 2 0) 3 0) 4 0) 5 0) 6 0) 7 0) 8 0) 9 0) 10 0) 11 0) 12 0) 13 0))), (nmk, .inl (cI, 61, .inl (upd (upd (upd (fun _ => 0) 0 5000000) 0 4) 0 4)))]) (va_runS (As := [.long 10, .long 10, .int 0]) (rest := []) ⟨hx, hb, hml, hown, hts⟩ (c_X8_lowest_10_0 l dC dI cI cZ cK tS aK aV  H.size) (va_cwS 3 hts (gw_s (fun _ h9 => List.mem_cons_of_mem _ h9) wm_528 wm_529 wm_385 wm_530) rfl rfl rfl (by decide +kernel) ⟨Nat.le_of_ble_eq_true rfl, Nat.le_of_ble_eq_true rfl⟩) (mx_preS hKx hP hD hS hA [] (by decide) rfl) rfl rfl hl.1 rfl (lv_room (Nat.le_of_ble_eq_true rfl)) dX8_gust_197 ⟨Nat.le_of_ble_eq_true rfl, Nat.le_of_ble_eq_true rfl⟩) hP hD hS hA [] [0, 1, 2] rfl rfl (by decide) (by decide) (fun r386 u386 H locs hq386 hP hD hS => ?_)
          replace hP : va_P (dC, dI) vwCl [(n, .inr (8, [.int 800, .int 0, .int 0, .int 0, .int 0, .int 0, .int 0, .ref nwi, .ref nco, .int 0, .ref nqu, .ref nmi, .ref nde, .ref nsa, .ref nsm, .int 0, .ref npa, .int 0, .ref nac, .ref nam, .ref naw, .int 0, .int 0, .int (-6), .int 0, .int 4000, .int (-6), .int (-6), .int 0, .int 0, .ref ncs, .ref nbw, .ref ndc, .ref nmk, .int 800, .int 0, .int 0, .int 0, .int 0, .int 0, .int 0, .ref npo, .int 0, .ref nta, .ref npl, .int 0, .int 0, .ref nmm, .ref ncu, .ref nke, .ref nik, .int 0, .int 0])), (ndc, .inl (cI, 14, .inl (upd (upd (upd (upd (upd (upd (upd (upd (upd (upd (upd (upd (upd (upd (upd (upd (upd (upd (upd (upd (upd (upd (upd (upd (upd (upd (upd (upd (upd (upd (upd (upd (upd (upd (upd (upd (upd (upd (upd (upd (upd (upd (fun _ => 0) 0 0) 1 0) 2 0) 3 0) 4 0) 5 0) 6 0) 7 0) 8 0) 9 0) 10 0) 11 0) 12 0) 13 0) 0 0) 1 0) 2 0) 3 0) 4 0) 5 0) 6 0) 7 0) 8 0) 9 0) 10 0) 11 0) 12 0) 13 0) 0 0) 1 0) 2 0) 3 0) 4 0) 5 0) 6 0) 7 0) 8 0) 9 0) 10 0) 11 0) 12 0) 13 0))), (nmk, .inl (cI, 61, .inl (upd (upd (upd (fun _ => 0) 0 5000000) 0 4) 0 4)))] H := hP
          replace hD : va_D A [(n, .inr (8, [.int 800, .int 0, .int 0, .int 0, .int 0, .int 0, .int 0, .ref nwi, .ref nco, .int 0, .ref nqu, .ref nmi, .ref nde, .ref nsa, .ref nsm, .int 0, .ref npa, .int 0, .ref nac, .ref nam, .ref naw, .int 0, .int 0, .int (-6), .int 0, .int 4000, .int (-6), .int (-6), .int 0, .int 0, .ref ncs, .ref nbw, .ref ndc, .ref nmk, .int 800, .int 0, .int 0, .int 0, .int 0, .int 0, .int 0, .ref npo, .int 0, .ref nta, .ref npl, .int 0, .int 0, .ref nmm, .ref ncu, .ref nke, .ref nik, .int 0, .int 0])), (ndc, .inl (cI, 14, .inl (upd (upd (upd (upd (upd (upd (upd (upd (upd (upd (upd (upd (upd (upd (upd (upd (upd (upd (upd (upd (upd (upd (upd (upd (upd (upd (upd (upd (upd (upd (upd (upd (upd (upd (upd (upd (upd (upd (upd (upd (upd (upd (fun _ => 0) 0 0) 1 0) 2 0) 3 0) 4 0) 5 0) 6 0) 7 0) 8 0) 9 0) 10 0) 11 0) 12 0) 13 0) 0 0) 1 0) 2 0) 3 0) 4 0) 5 0) 6 0) 7 0) 8 0) 9 0) 10 0) 11 0) 12 0) 13 0) 0 0) 1 0) 2 0) 3 0) 4 0) 5 0) 6 0) 7 0) 8 0) 9 0) 10 0) 11 0) 12 0) 13 0))), (nmk, .inl (cI, 61, .inl (upd (upd (upd (fun _ => 0) 0 5000000) 0 4) 0 4)))] := hD
          obtain rfl : r386 = 1 := hq386
          have hP9 := mx_subP (wc := []) hP [] rfl
          have hD9 := hD.sub (ws' := []) [] (by decide) rfl
          exact W.lret (v := 1) hx hb hr (fun t ht hW => ⟨⟨1, (), rfl, rfl, by rw [ht]; exact hP9, hD9⟩, hS.F ht⟩) hS.2.2 dX8_gust_200
        · have z9 : (10 : Int32).toInt = 10 := rfl
          refine lv_aload_n hx hb dX8_gust_36 rfl (lv_at hl 0 rfl) ?_
          refine mx_i (wr := [(ndc, .inl (cI, 14, .inl (fun _ => 0))), (nmk, .inl (cI, 61, .inl (fun _ => 0)))]) (va_runV (As := []) (rest := []) ⟨hx, hb, hml, hown, hts⟩ (c_X8_faultIn l dC dI cI cZ cK tS aK aV n nwi nco nqu nmi nde nsa nsm npa nac nam naw ncs nbw ndc nmk npo nta npl nmm ncu nke nik 800 0 0 0 0 0 0 0 0 0 0 0 0 0 0 0 0 0 0 0 0 0 0 0 0 0 0 0 0 0 H.size) (cwV 0 hts (gw_v (fun _ h9 => List.mem_cons_of_mem _ h9) wm_453 wm_454 wm_455 wm_385 wm_456) rfl rfl rfl (by decide +kernel) ⟨Nat.le_of_ble_eq_true rfl, Nat.le_of_ble_eq_true rfl⟩) (mx_preV (C := RX8) (T := TX8) (N := 53) (ci := 8) hKx hP hD hS hA [0] (by decide) rfl rfl rfl) rfl rfl hl.1 rfl (lv_room (Nat.le_of_ble_eq_true rfl)) dX8_gust_37 ⟨Nat.le_of_ble_eq_true rfl, Nat.le_of_ble_eq_true rfl⟩) hP hD hS hA [0] [1, 2] rfl rfl (by decide) (by decide) (fun r387 u387 H locs hq387 hP hD hS => ?_)
          replace hP : va_P (dC, dI) vwCl [(ndc, .inl (cI, 14, .inl (fun _ => 0))), (nmk, .inl (cI, 61, .inl (fun _ => 0))), (n, .inr (8, [.int 800, .int 0, .int 0, .int 0, .int 0, .int 0, .int 0, .ref nwi, .ref nco, .int 0, .ref nqu, .ref nmi, .ref nde, .ref nsa, .ref nsm, .int 0, .ref npa, .int 0, .ref nac, .ref nam, .ref naw, .int 0, .int 0, .int 0, .int 0, .int 0, .int 0, .int 0, .int 0, .int 0, .ref ncs, .ref nbw, .ref ndc, .ref nmk, .int 0, .int 0, .int 0, .int 0, .int 0, .int 0, .int 0, .ref npo, .int 0, .ref nta, .ref npl, .int 0, .int 0, .ref nmm, .ref ncu, .ref nke, .ref nik, .int 0, .int 0]))] H := hP
          replace hD : va_D A [(ndc, .inl (cI, 14, .inl (fun _ => 0))), (nmk, .inl (cI, 61, .inl (fun _ => 0))), (n, .inr (8, [.int 800, .int 0, .int 0, .int 0, .int 0, .int 0, .int 0, .ref nwi, .ref nco, .int 0, .ref nqu, .ref nmi, .ref nde, .ref nsa, .ref nsm, .int 0, .ref npa, .int 0, .ref nac, .ref nam, .ref naw, .int 0, .int 0, .int 0, .int 0, .int 0, .int 0, .int 0, .int 0, .int 0, .ref ncs, .ref nbw, .ref ndc, .ref nmk, .int 0, .int 0, .int 0, .int 0, .int 0, .int 0, .int 0, .ref npo, .int 0, .ref nta, .ref npl, .int 0, .int 0, .ref nmm, .ref ncu, .ref nke, .ref nik, .int 0, .int 0]))] := hD
          obtain rfl : r387 = (-6) := hq387
          refine lv_if_lt (tgt := 47) hx hb dX8_gust_40 (by decide) (fun c388 => ?_) (fun c388 => absurd c388 (by decide))
          refine lv_aload_n hx hb dX8_gust_47 rfl (lv_at hl 0 rfl) ?_
          refine mx_v (wr := [(ndc, .inl (cI, 14, .inl (fun _ => 0))), (nmk, .inl (cI, 61, .inl (fun _ => 0)))]) (va_runV (As := []) (rest := []) ⟨hx, hb, hml, hown, hts⟩ (c_X8_keepNow l dC dI cI cZ cK tS aK aV n nwi nco nqu nmi nde nsa nsm npa nac nam naw ncs nbw ndc nmk npo nta npl nmm ncu nke nik 800 0 0 0 0 0 0 0 0 0 0 0 0 0 0 0 0 0 0 0 0 0 0 0 0 0 0 0 0 0 0 H.size) (cwV 0 hts (gw_v (fun _ h9 => List.mem_cons_of_mem _ h9) wm_457 wm_458 wm_459 wm_385 wm_460) rfl rfl rfl (by decide +kernel) ⟨Nat.le_of_ble_eq_true rfl, Nat.le_of_ble_eq_true rfl⟩) (mx_preV (C := RX8) (T := TX8) (N := 53) (ci := 8) hKx hP hD hS hA [2] (by decide) rfl rfl rfl) rfl rfl hl.1 rfl (lv_room (Nat.le_of_ble_eq_true rfl)) dX8_gust_48 ⟨Nat.le_of_ble_eq_true rfl, Nat.le_of_ble_eq_true rfl⟩) hP hD hS hA [2] [0, 1] rfl rfl (by decide) (by decide) (fun u389 H locs hq389 hP hD hS => ?_)
          replace hP : va_P (dC, dI) vwCl [(ndc, .inl (cI, 14, .inl (fun _ => 0))), (nmk, .inl (cI, 61, .inl (fun _ => 0))), (n, .inr (8, [.int 800, .int 0, .int 0, .int 0, .int 0, .int 0, .int 0, .ref nwi, .ref nco, .int 0, .ref nqu, .ref nmi, .ref nde, .ref nsa, .ref nsm, .int 0, .ref npa, .int 0, .ref nac, .ref nam, .ref naw, .int 0, .int 0, .int (-6), .int 0, .int 4000, .int 0, .int 0, .int 0, .int 0, .ref ncs, .ref nbw, .ref ndc, .ref nmk, .int 800, .int 0, .int 0, .int 0, .int 0, .int 0, .int 0, .ref npo, .int 0, .ref nta, .ref npl, .int 0, .int 0, .ref nmm, .ref ncu, .ref nke, .ref nik, .int 0, .int 0]))] H := hP
          replace hD : va_D A [(ndc, .inl (cI, 14, .inl (fun _ => 0))), (nmk, .inl (cI, 61, .inl (fun _ => 0))), (n, .inr (8, [.int 800, .int 0, .int 0, .int 0, .int 0, .int 0, .int 0, .ref nwi, .ref nco, .int 0, .ref nqu, .ref nmi, .ref nde, .ref nsa, .ref nsm, .int 0, .ref npa, .int 0, .ref nac, .ref nam, .ref naw, .int 0, .int 0, .int (-6), .int 0, .int 4000, .int 0, .int 0, .int 0, .int 0, .ref ncs, .ref nbw, .ref ndc, .ref nmk, .int 800, .int 0, .int 0, .int 0, .int 0, .int 0, .int 0, .ref npo, .int 0, .ref nta, .ref npl, .int 0, .int 0, .ref nmm, .ref ncu, .ref nke, .ref nik, .int 0, .int 0]))] := hD
          refine lv_aload_n hx hb dX8_gust_51 rfl (lv_at hl 0 rfl) ?_
          refine mx_i (wr := []) (va_runV (As := []) (rest := []) ⟨hx, hb, hml, hown, hts⟩ (c_X8_canWithoutEnd l dC dI cI cZ cK tS aK aV n nwi nco nqu nmi nde nsa nsm npa nac nam naw ncs nbw ndc nmk npo nta npl nmm ncu nke nik 800 0 0 0 0 0 0 0 0 0 0 (-6) 0 4000 0 0 0 0 800 0 0 0 0 0 0 0 0 0 0 0 (fun _ => 0) (fun _ => 0) H.size) (cwV 0 hts (gw_v (fun _ h9 => List.mem_cons_of_mem _ h9) wm_519 wm_520 wm_521 wm_385 wm_522) rfl rfl rfl (by decide +kernel) ⟨Nat.le_of_ble_eq_true rfl, Nat.le_of_ble_eq_true rfl⟩) (mx_preV (C := RX8) (T := TX8) (N := 53) (ci := 8) hKx hP hD hS hA [2, 0, 1] (by decide) rfl rfl rfl) rfl rfl hl.1 rfl (lv_room (Nat.le_of_ble_eq_true rfl)) dX8_gust_52 ⟨Nat.le_of_ble_eq_true rfl, Nat.le_of_ble_eq_true rfl⟩) hP hD hS hA [2, 0, 1] [] rfl rfl (by decide) (by decide) (fun r390 u390 H locs hq390 hP hD hS => ?_)
          replace hP : va_P (dC, dI) vwCl [(n, .inr (8, [.int 800, .int 0, .int 0, .int 0, .int 0, .int 0, .int 0, .ref nwi, .ref nco, .int 0, .ref nqu, .ref nmi, .ref nde, .ref nsa, .ref nsm, .int 0, .ref npa, .int 0, .ref nac, .ref nam, .ref naw, .int 0, .int 0, .int (-6), .int 0, .int 4000, .int (-6), .int (-6), .int 0, .int 0, .ref ncs, .ref nbw, .ref ndc, .ref nmk, .int 800, .int 0, .int 0, .int 0, .int 0, .int 0, .int 0, .ref npo, .int 0, .ref nta, .ref npl, .int 0, .int 0, .ref nmm, .ref ncu, .ref nke, .ref nik, .int 0, .int 0])), (ndc, .inl (cI, 14, .inl (upd (upd (upd (upd (upd (upd (upd (upd (upd (upd (upd (upd (upd (upd (fun _ => 0) 0 0) 1 0) 2 0) 3 0) 4 0) 5 0) 6 0) 7 0) 8 0) 9 0) 10 0) 11 0) 12 0) 13 0))), (nmk, .inl (cI, 61, .inl (upd (fun _ => 0) 0 5000000)))] H := hP
          replace hD : va_D A [(n, .inr (8, [.int 800, .int 0, .int 0, .int 0, .int 0, .int 0, .int 0, .ref nwi, .ref nco, .int 0, .ref nqu, .ref nmi, .ref nde, .ref nsa, .ref nsm, .int 0, .ref npa, .int 0, .ref nac, .ref nam, .ref naw, .int 0, .int 0, .int (-6), .int 0, .int 4000, .int (-6), .int (-6), .int 0, .int 0, .ref ncs, .ref nbw, .ref ndc, .ref nmk, .int 800, .int 0, .int 0, .int 0, .int 0, .int 0, .int 0, .ref npo, .int 0, .ref nta, .ref npl, .int 0, .int 0, .ref nmm, .ref ncu, .ref nke, .ref nik, .int 0, .int 0])), (ndc, .inl (cI, 14, .inl (upd (upd (upd (upd (upd (upd (upd (upd (upd (upd (upd (upd (upd (upd (fun _ => 0) 0 0) 1 0) 2 0) 3 0) 4 0) 5 0) 6 0) 7 0) 8 0) 9 0) 10 0) 11 0) 12 0) 13 0))), (nmk, .inl (cI, 61, .inl (upd (fun _ => 0) 0 5000000)))] := hD
          obtain rfl : r390 = 1 := hq390
          refine lv_if_ne (tgt := 62) hx hb dX8_gust_55 (by decide) (fun c391 => ?_) (fun c391 => absurd c391 (by decide))
          refine lv_aload_n hx hb dX8_gust_62 rfl (lv_at hl 0 rfl) ?_
          refine va_get (D := (dC, dI)) (ci := 8) (v := .int 0) (C := RX8) (T := TX8) (N := 53) hx hb hts hin8 hown hK hP 0 rfl rfl 39 (by decide) hw1 (fun _ h9 => h9) rfl dX8_gust_63 ?_
          refine lv_aload_n hx hb dX8_gust_66 rfl (lv_at hl 0 rfl) ?_
          refine va_get (D := (dC, dI)) (ci := 8) (v := .int 0) (C := RX8) (T := TX8) (N := 53) hx hb hts hin8 hown hK hP 0 rfl rfl 4 (by decide) hw2 (fun _ h9 => h9) rfl dX8_gust_67 ?_
          refine lv_isub hx hb dX8_gust_70 ?_
          refine lv_topi (fun x392 e392 => ?_)
          obtain rfl : x392 = 0 := e392.trans (by decide)
          refine lv_iconst (v := 1) hx hb dX8_gust_71 (by decide) ?_
          refine lv_iadd hx hb dX8_gust_72 ?_
          refine lv_topi (fun x393 e393 => ?_)
          obtain rfl : x393 = 1 := e393.trans (by decide)
          refine lv_istore (lv' := [(4, .int 1), (0, .ref n), (1, .int 10), (2, .int 0), (3, .int 0)]) hx hb dX8_gust_73 hl (by decide) rfl (fun ls hl => ?_)
          refine lv_iload hx hb dX8_gust_75 (lv_at hl 0 rfl) ?_
          refine lv_bipush (v := 8) hx hb dX8_gust_77 (by decide) ?_
          refine lv_icmp_le (tgt := 86) hx hb dX8_gust_79 (by decide) (fun c394 => ?_) (fun c394 => absurd c394 (by decide))
          refine lv_lconst (v := 0) hx hb dX8_gust_86 (by decide) ?_
          refine lv_lstore (lv' := [(5, .long 0), (4, .int 1), (0, .ref n), (1, .int 10), (2, .int 0), (3, .int 0)]) hx hb dX8_gust_87 hl (by decide) rfl (fun ls hl => ?_)
          refine lv_lconst (v := 0) hx hb dX8_gust_89 (by decide) ?_
          refine lv_lstore (lv' := [(7, .long 0), (5, .long 0), (4, .int 1), (0, .ref n), (1, .int 10), (2, .int 0), (3, .int 0)]) hx hb dX8_gust_90 hl (by decide) rfl (fun ls hl => ?_)
          refine lv_iconst (v := 0) hx hb dX8_gust_92 (by decide) ?_
          refine lv_istore (lv' := [(9, .int 0), (7, .long 0), (5, .long 0), (4, .int 1), (0, .ref n), (1, .int 10), (2, .int 0), (3, .int 0)]) hx hb dX8_gust_93 hl (by decide) rfl (fun ls hl => ?_)
          refine lv_iload hx hb dX8_gust_95 (lv_at hl 0 rfl) ?_
          refine lv_iconst (v := 1) hx hb dX8_gust_97 (by decide) ?_
          refine lv_iload hx hb dX8_gust_98 (lv_at hl 3 rfl) ?_
          refine lv_ishl hx hb dX8_gust_100 ?_
          refine lv_topi (fun x395 e395 => ?_)
          obtain rfl : x395 = 2 := e395.trans (by decide)
          refine lv_icmp_ge (tgt := 187) hx hb dX8_gust_101 (by decide) (fun c396 => absurd c396 (by decide)) (fun c396 => ?_)
          refine lv_lconst (v := 1) hx hb dX8_gust_104 (by decide) ?_
          refine lv_lstore (lv' := [(10, .long 1), (9, .int 0), (7, .long 0), (5, .long 0), (4, .int 1), (0, .ref n), (1, .int 10), (2, .int 0), (3, .int 0)]) hx hb dX8_gust_105 hl (by decide) rfl (fun ls hl => ?_)
          refine lv_iconst (v := 0) hx hb dX8_gust_107 (by decide) ?_
          refine lv_istore (lv' := [(12, .int 0), (10, .long 1), (9, .int 0), (7, .long 0), (5, .long 0), (4, .int 1), (0, .ref n), (1, .int 10), (2, .int 0), (3, .int 0)]) hx hb dX8_gust_108 hl (by decide) rfl (fun ls hl => ?_)
          refine lv_iload hx hb dX8_gust_110 (lv_at hl 0 rfl) ?_
          refine lv_iload hx hb dX8_gust_112 (lv_at hl 5 rfl) ?_
          refine lv_icmp_ge (tgt := 149) hx hb dX8_gust_114 (by decide) (fun c397 => absurd c397 (by decide)) (fun c397 => ?_)
          refine lv_lload hx hb dX8_gust_117 (lv_at hl 1 rfl) ?_
          refine lv_iload hx hb dX8_gust_119 (lv_at hl 2 rfl) ?_
          refine lv_iload hx hb dX8_gust_121 (lv_at hl 0 rfl) ?_
          refine lv_ishr hx hb dX8_gust_123 ?_
          refine lv_topi (fun x398 e398 => ?_)
          obtain rfl : x398 = 0 := e398.trans (by decide)
          refine lv_iconst (v := 1) hx hb dX8_gust_124 (by decide) ?_
          refine lv_iand hx hb dX8_gust_125 ?_
          refine lv_topi (fun x399 e399 => ?_)
          obtain rfl : x399 = 0 := e399.trans (by decide)
          refine lv_iconst (v := 1) hx hb dX8_gust_126 (by decide) ?_
          refine lv_icmp_ne (tgt := 135) hx hb dX8_gust_127 (by decide) (fun c400 => ?_) (fun c400 => absurd c400 (by decide))
          refine lv_bipush (v := 10) hx hb dX8_gust_135 (by decide) ?_
          refine lv_iload_n hx hb dX8_gust_137 rfl (lv_at hl 7 rfl) ?_
          refine lv_isub hx hb dX8_gust_138 ?_
          refine lv_topi (fun x401 e401 => ?_)
          obtain rfl : x401 = 0 := e401.trans (by decide)
          refine lv_i2l (v := 0) hx hb dX8_gust_139 (by decide) ?_
          refine lv_lmul hx hb dX8_gust_140 ?_
          refine lv_topl (fun x402 e402 => ?_)
          obtain rfl : x402 = 0 := e402.trans (by decide)
          refine lv_lstore (lv' := [(10, .long 0), (12, .int 0), (9, .int 0), (7, .long 0), (5, .long 0), (4, .int 1), (0, .ref n), (1, .int 10), (2, .int 0), (3, .int 0)]) hx hb dX8_gust_141 hl (by decide) rfl (fun ls hl => ?_)
          refine lv_iinc (v := 1) (lv' := [(12, .int 1), (10, .long 0), (9, .int 0), (7, .long 0), (5, .long 0), (4, .int 1), (0, .ref n), (1, .int 10), (2, .int 0), (3, .int 0)]) hx hb dX8_gust_143 hl (k := 1) rfl (by decide) (by decide) rfl (fun ls hl => ?_)
          refine lv_goto (tgt := 110) hx hb dX8_gust_146 (by decide) ?_
          refine lv_iload hx hb dX8_gust_110 (lv_at hl 0 rfl) ?_
          refine lv_iload hx hb dX8_gust_112 (lv_at hl 5 rfl) ?_
          refine lv_icmp_ge (tgt := 149) hx hb dX8_gust_114 (by decide) (fun c403 => ?_) (fun c403 => absurd c403 (by decide))
          refine lv_aload_n hx hb dX8_gust_149 rfl (lv_at hl 6 rfl) ?_
          refine lv_iload hx hb dX8_gust_150 (lv_at hl 2 rfl) ?_
          refine lv_aload_n hx hb dX8_gust_152 rfl (lv_at hl 6 rfl) ?_
          refine va_get (D := (dC, dI)) (ci := 8) (v := .int 0) (C := RX8) (T := TX8) (N := 53) hx hb hts hin8 hown hK hP 0 rfl rfl 4 (by decide) hw2 (fun _ h9 => h9) rfl dX8_gust_153 ?_
          refine lv_ishl hx hb dX8_gust_156 ?_
          refine lv_topi (fun x404 e404 => ?_)
          obtain rfl : x404 = 0 := e404.trans (by decide)
          refine va_put (D := (dC, dI)) (ci := 8) (v := .int 0) (ty := .int) (C := RX8) (T := TX8) (N := 53) hx hb hts hin8 tyX8 tyX8_ok nmX8 hown hK hP hD hS 0 rfl rfl 22 (by decide) hw3 (fun _ h9 => h9) rfl (by decide +kernel) rfl rfl (Nat.le_of_ble_eq_true rfl) dX8_gust_157 (fun H locs hP hD hS => ?_)
          replace hP : va_P (dC, dI) vwCl [(n, .inr (8, [.int 800, .int 0, .int 0, .int 0, .int 0, .int 0, .int 0, .ref nwi, .ref nco, .int 0, .ref nqu, .ref nmi, .ref nde, .ref nsa, .ref nsm, .int 0, .ref npa, .int 0, .ref nac, .ref nam, .ref naw, .int 0, .int 0, .int (-6), .int 0, .int 4000, .int (-6), .int (-6), .int 0, .int 0, .ref ncs, .ref nbw, .ref ndc, .ref nmk, .int 800, .int 0, .int 0, .int 0, .int 0, .int 0, .int 0, .ref npo, .int 0, .ref nta, .ref npl, .int 0, .int 0, .ref nmm, .ref ncu, .ref nke, .ref nik, .int 0, .int 0])), (ndc, .inl (cI, 14, .inl (upd (upd (upd (upd (upd (upd (upd (upd (upd (upd (upd (upd (upd (upd (fun _ => 0) 0 0) 1 0) 2 0) 3 0) 4 0) 5 0) 6 0) 7 0) 8 0) 9 0) 10 0) 11 0) 12 0) 13 0))), (nmk, .inl (cI, 61, .inl (upd (fun _ => 0) 0 5000000)))] H := hP
          replace hD : va_D A [(n, .inr (8, [.int 800, .int 0, .int 0, .int 0, .int 0, .int 0, .int 0, .ref nwi, .ref nco, .int 0, .ref nqu, .ref nmi, .ref nde, .ref nsa, .ref nsm, .int 0, .ref npa, .int 0, .ref nac, .ref nam, .ref naw, .int 0, .int 0, .int (-6), .int 0, .int 4000, .int (-6), .int (-6), .int 0, .int 0, .ref ncs, .ref nbw, .ref ndc, .ref nmk, .int 800, .int 0, .int 0, .int 0, .int 0, .int 0, .int 0, .ref npo, .int 0, .ref nta, .ref npl, .int 0, .int 0, .ref nmm, .ref ncu, .ref nke, .ref nik, .int 0, .int 0])), (ndc, .inl (cI, 14, .inl (upd (upd (upd (upd (upd (upd (upd (upd (upd (upd (upd (upd (upd (upd (fun _ => 0) 0 0) 1 0) 2 0) 3 0) 4 0) 5 0) 6 0) 7 0) 8 0) 9 0) 10 0) 11 0) 12 0) 13 0))), (nmk, .inl (cI, 61, .inl (upd (fun _ => 0) 0 5000000)))] := hD
          refine lv_lload hx hb dX8_gust_160 (lv_at hl 3 rfl) ?_
          refine lv_lload hx hb dX8_gust_162 (lv_at hl 1 rfl) ?_
          refine lv_ladd hx hb dX8_gust_164 ?_
          refine lv_topl (fun x405 e405 => ?_)
          obtain rfl : x405 = 0 := e405.trans (by decide)
          refine lv_lstore (lv' := [(7, .long 0), (12, .int 1), (10, .long 0), (9, .int 0), (5, .long 0), (4, .int 1), (0, .ref n), (1, .int 10), (2, .int 0), (3, .int 0)]) hx hb dX8_gust_165 hl (by decide) rfl (fun ls hl => ?_)
          refine lv_lload hx hb dX8_gust_167 (lv_at hl 4 rfl) ?_
          refine lv_lload hx hb dX8_gust_169 (lv_at hl 2 rfl) ?_
          refine lv_aload_n hx hb dX8_gust_171 rfl (lv_at hl 6 rfl) ?_
          refine lv_iload_n hx hb dX8_gust_172 rfl (lv_at hl 8 rfl) ?_
          refine mx_i (wr := []) (va_runV (As := [.int 0]) (rest := [.long 0, .long 0]) ⟨hx, hb, hml, hown, hts⟩ (c_X8_worthOfGusts_0 l dC dI cI cZ cK tS aK aV n nwi nco nqu nmi nde nsa nsm npa nac nam naw ncs nbw ndc nmk npo nta npl nmm ncu nke nik 0 0 0 0 0 0 0 0 0 0 (-6) 0 4000 (-6) (-6) 0 0 800 0 0 0 0 0 0 0 0 0 0 0 (upd (upd (upd (upd (upd (upd (upd (upd (upd (upd (upd (upd (upd (upd (fun _ => 0) 0 0) 1 0) 2 0) 3 0) 4 0) 5 0) 6 0) 7 0) 8 0) 9 0) 10 0) 11 0) 12 0) 13 0) (upd (fun _ => 0) 0 5000000) H.size) (cwV 1 hts (gw_v (fun _ h9 => List.mem_cons_of_mem _ h9) wm_524 wm_525 wm_526 wm_385 wm_527) rfl rfl rfl (by decide +kernel) ⟨Nat.le_of_ble_eq_true rfl, Nat.le_of_ble_eq_true rfl⟩) (mx_preV (C := RX8) (T := TX8) (N := 53) (ci := 8) hKx hP hD hS hA [0, 1, 2] (by decide) rfl rfl rfl) rfl rfl hl.1 rfl (lv_room (Nat.le_of_ble_eq_true rfl)) dX8_gust_173 ⟨Nat.le_of_ble_eq_true rfl, Nat.le_of_ble_eq_true rfl⟩) hP hD hS hA [0, 1, 2] [] rfl rfl (by decide) (by decide) (fun r406 u406 H locs hq406 hP hD hS => ?_)
          replace hP : va_P (dC, dI) vwCl [(n, .inr (8, [.int 800, .int 0, .int 0, .int 0, .int 0, .int 0, .int 0, .ref nwi, .ref nco, .int 0, .ref nqu, .ref nmi, .ref nde, .ref nsa, .ref nsm, .int 0, .ref npa, .int 0, .ref nac, .ref nam, .ref naw, .int 0, .int 0, .int (-6), .int 0, .int 4000, .int (-6), .int (-6), .int 0, .int 0, .ref ncs, .ref nbw, .ref ndc, .ref nmk, .int 800, .int 0, .int 0, .int 0, .int 0, .int 0, .int 0, .ref npo, .int 0, .ref nta, .ref npl, .int 0, .int 0, .ref nmm, .ref ncu, .ref nke, .ref nik, .int 0, .int 0])), (ndc, .inl (cI, 14, .inl (upd (upd (upd (upd (upd (upd (upd (upd (upd (upd (upd (upd (upd (upd (upd (upd (upd (upd (upd (upd (upd (upd (upd (upd (upd (upd (upd (upd (fun _ => 0) 0 0) 1 0) 2 0) 3 0) 4 0) 5 0) 6 0) 7 0) 8 0) 9 0) 10 0) 11 0) 12 0) 13 0) 0 0) 1 0) 2 0) 3 0) 4 0) 5 0) 6 0) 7 0) 8 0) 9 0) 10 0) 11 0) 12 0) 13 0))), (nmk, .inl (cI, 61, .inl (upd (upd (fun _ => 0) 0 5000000) 0 4)))] H := hP
          replace hD : va_D A [(n, .inr (8, [.int 800, .int 0, .int 0, .int 0, .int 0, .int 0, .int 0, .ref nwi, .ref nco, .int 0, .ref nqu, .ref nmi, .ref nde, .ref nsa, .ref nsm, .int 0, .ref npa, .int 0, .ref nac, .ref nam, .ref naw, .int 0, .int 0, .int (-6), .int 0, .int 4000, .int (-6), .int (-6), .int 0, .int 0, .ref ncs, .ref nbw, .ref ndc, .ref nmk, .int 800, .int 0, .int 0, .int 0, .int 0, .int 0, .int 0, .ref npo, .int 0, .ref nta, .ref npl, .int 0, .int 0, .ref nmm, .ref ncu, .ref nke, .ref nik, .int 0, .int 0])), (ndc, .inl (cI, 14, .inl (upd (upd (upd (upd (upd (upd (upd (upd (upd (upd (upd (upd (upd (upd (upd (upd (upd (upd (upd (upd (upd (upd (upd (upd (upd (upd (upd (upd (fun _ => 0) 0 0) 1 0) 2 0) 3 0) 4 0) 5 0) 6 0) 7 0) 8 0) 9 0) 10 0) 11 0) 12 0) 13 0) 0 0) 1 0) 2 0) 3 0) 4 0) 5 0) 6 0) 7 0) 8 0) 9 0) 10 0) 11 0) 12 0) 13 0))), (nmk, .inl (cI, 61, .inl (upd (upd (fun _ => 0) 0 5000000) 0 4)))] := hD
          obtain rfl : r406 = 1 := hq406
          refine lv_i2l (v := 1) hx hb dX8_gust_176 (by decide) ?_
          refine lv_lmul hx hb dX8_gust_177 ?_
          refine lv_topl (fun x407 e407 => ?_)
          obtain rfl : x407 = 0 := e407.trans (by decide)
          refine lv_ladd hx hb dX8_gust_178 ?_
          refine lv_topl (fun x408 e408 => ?_)
          obtain rfl : x408 = 0 := e408.trans (by decide)
          refine lv_lstore (lv' := [(5, .long 0), (7, .long 0), (12, .int 1), (10, .long 0), (9, .int 0), (4, .int 1), (0, .ref n), (1, .int 10), (2, .int 0), (3, .int 0)]) hx hb dX8_gust_179 hl (by decide) rfl (fun ls hl => ?_)
          refine lv_iinc (v := 1) (lv' := [(9, .int 1), (5, .long 0), (7, .long 0), (12, .int 1), (10, .long 0), (4, .int 1), (0, .ref n), (1, .int 10), (2, .int 0), (3, .int 0)]) hx hb dX8_gust_181 hl (k := 4) rfl (by decide) (by decide) rfl (fun ls hl => ?_)
          refine lv_goto (tgt := 95) hx hb dX8_gust_184 (by decide) ?_
          refine lv_iload hx hb dX8_gust_95 (lv_at hl 0 rfl) ?_
          refine lv_iconst (v := 1) hx hb dX8_gust_97 (by decide) ?_
          refine lv_iload hx hb dX8_gust_98 (lv_at hl 5 rfl) ?_
          refine lv_ishl hx hb dX8_gust_100 ?_
          refine lv_topi (fun x409 e409 => ?_)
          obtain rfl : x409 = 2 := e409.trans (by decide)
          refine lv_icmp_ge (tgt := 187) hx hb dX8_gust_101 (by decide) (fun c410 => absurd c410 (by decide)) (fun c410 => ?_)
          refine lv_lconst (v := 1) hx hb dX8_gust_104 (by decide) ?_
          refine lv_lstore (lv' := [(10, .long 1), (9, .int 1), (5, .long 0), (7, .long 0), (12, .int 1), (4, .int 1), (0, .ref n), (1, .int 10), (2, .int 0), (3, .int 0)]) hx hb dX8_gust_105 hl (by decide) rfl (fun ls hl => ?_)
          refine lv_iconst (v := 0) hx hb dX8_gust_107 (by decide) ?_
          refine lv_istore (lv' := [(12, .int 0), (10, .long 1), (9, .int 1), (5, .long 0), (7, .long 0), (4, .int 1), (0, .ref n), (1, .int 10), (2, .int 0), (3, .int 0)]) hx hb dX8_gust_108 hl (by decide) rfl (fun ls hl => ?_)
          refine lv_iload hx hb dX8_gust_110 (lv_at hl 0 rfl) ?_
          refine lv_iload hx hb dX8_gust_112 (lv_at hl 5 rfl) ?_
          refine lv_icmp_ge (tgt := 149) hx hb dX8_gust_114 (by decide) (fun c411 => absurd c411 (by decide)) (fun c411 => ?_)
          refine lv_lload hx hb dX8_gust_117 (lv_at hl 1 rfl) ?_
          refine lv_iload hx hb dX8_gust_119 (lv_at hl 2 rfl) ?_
          refine lv_iload hx hb dX8_gust_121 (lv_at hl 0 rfl) ?_
          refine lv_ishr hx hb dX8_gust_123 ?_
          refine lv_topi (fun x412 e412 => ?_)
          obtain rfl : x412 = 1 := e412.trans (by decide)
          refine lv_iconst (v := 1) hx hb dX8_gust_124 (by decide) ?_
          refine lv_iand hx hb dX8_gust_125 ?_
          refine lv_topi (fun x413 e413 => ?_)
          obtain rfl : x413 = 1 := e413.trans (by decide)
          refine lv_iconst (v := 1) hx hb dX8_gust_126 (by decide) ?_
          refine lv_icmp_ne (tgt := 135) hx hb dX8_gust_127 (by decide) (fun c414 => absurd c414 (by decide)) (fun c414 => ?_)
          refine lv_iload_n hx hb dX8_gust_130 rfl (lv_at hl 7 rfl) ?_
          refine lv_i2l (v := 10) hx hb dX8_gust_131 (by decide) ?_
          refine lv_goto (tgt := 140) hx hb dX8_gust_132 (by decide) ?_
          refine lv_lmul hx hb dX8_gust_140 ?_
          refine lv_topl (fun x415 e415 => ?_)
          obtain rfl : x415 = 10 := e415.trans (by decide)
          refine lv_lstore (lv' := [(10, .long 10), (12, .int 0), (9, .int 1), (5, .long 0), (7, .long 0), (4, .int 1), (0, .ref n), (1, .int 10), (2, .int 0), (3, .int 0)]) hx hb dX8_gust_141 hl (by decide) rfl (fun ls hl => ?_)
          refine lv_iinc (v := 1) (lv' := [(12, .int 1), (10, .long 10), (9, .int 1), (5, .long 0), (7, .long 0), (4, .int 1), (0, .ref n), (1, .int 10), (2, .int 0), (3, .int 0)]) hx hb dX8_gust_143 hl (k := 1) rfl (by decide) (by decide) rfl (fun ls hl => ?_)
          refine lv_goto (tgt := 110) hx hb dX8_gust_146 (by decide) ?_
          refine lv_iload hx hb dX8_gust_110 (lv_at hl 0 rfl) ?_
          refine lv_iload hx hb dX8_gust_112 (lv_at hl 5 rfl) ?_
          refine lv_icmp_ge (tgt := 149) hx hb dX8_gust_114 (by decide) (fun c416 => ?_) (fun c416 => absurd c416 (by decide))
          refine lv_aload_n hx hb dX8_gust_149 rfl (lv_at hl 6 rfl) ?_
          refine lv_iload hx hb dX8_gust_150 (lv_at hl 2 rfl) ?_
          refine lv_aload_n hx hb dX8_gust_152 rfl (lv_at hl 6 rfl) ?_
          refine va_get (D := (dC, dI)) (ci := 8) (v := .int 0) (C := RX8) (T := TX8) (N := 53) hx hb hts hin8 hown hK hP 0 rfl rfl 4 (by decide) hw2 (fun _ h9 => h9) rfl dX8_gust_153 ?_
          refine lv_ishl hx hb dX8_gust_156 ?_
          refine lv_topi (fun x417 e417 => ?_)
          obtain rfl : x417 = 1 := e417.trans (by decide)
          refine va_put (D := (dC, dI)) (ci := 8) (v := .int 1) (ty := .int) (C := RX8) (T := TX8) (N := 53) hx hb hts hin8 tyX8 tyX8_ok nmX8 hown hK hP hD hS 0 rfl rfl 22 (by decide) hw3 (fun _ h9 => h9) rfl (by decide +kernel) rfl rfl (Nat.le_of_ble_eq_true rfl) dX8_gust_157 (fun H locs hP hD hS => ?_)
          replace hP : va_P (dC, dI) vwCl [(n, .inr (8, [.int 800, .int 0, .int 0, .int 0, .int 0, .int 0, .int 0, .ref nwi, .ref nco, .int 0, .ref nqu, .ref nmi, .ref nde, .ref nsa, .ref nsm, .int 0, .ref npa, .int 0, .ref nac, .ref nam, .ref naw, .int 0, .int 1, .int (-6), .int 0, .int 4000, .int (-6), .int (-6), .int 0, .int 0, .ref ncs, .ref nbw, .ref ndc, .ref nmk, .int 800, .int 0, .int 0, .int 0, .int 0, .int 0, .int 0, .ref npo, .int 0, .ref nta, .ref npl, .int 0, .int 0, .ref nmm, .ref ncu, .ref nke, .ref nik, .int 0, .int 0])), (ndc, .inl (cI, 14, .inl (upd (upd (upd (upd (upd (upd (upd (upd (upd (upd (upd (upd (upd (upd (upd (upd (upd (upd (upd (upd (upd (upd (upd (upd (upd (upd (upd (upd (fun _ => 0) 0 0) 1 0) 2 0) 3 0) 4 0) 5 0) 6 0) 7 0) 8 0) 9 0) 10 0) 11 0) 12 0) 13 0) 0 0) 1 0) 2 0) 3 0) 4 0) 5 0) 6 0) 7 0) 8 0) 9 0) 10 0) 11 0) 12 0) 13 0))), (nmk, .inl (cI, 61, .inl (upd (upd (fun _ => 0) 0 5000000) 0 4)))] H := hP
          replace hD : va_D A [(n, .inr (8, [.int 800, .int 0, .int 0, .int 0, .int 0, .int 0, .int 0, .ref nwi, .ref nco, .int 0, .ref nqu, .ref nmi, .ref nde, .ref nsa, .ref nsm, .int 0, .ref npa, .int 0, .ref nac, .ref nam, .ref naw, .int 0, .int 1, .int (-6), .int 0, .int 4000, .int (-6), .int (-6), .int 0, .int 0, .ref ncs, .ref nbw, .ref ndc, .ref nmk, .int 800, .int 0, .int 0, .int 0, .int 0, .int 0, .int 0, .ref npo, .int 0, .ref nta, .ref npl, .int 0, .int 0, .ref nmm, .ref ncu, .ref nke, .ref nik, .int 0, .int 0])), (ndc, .inl (cI, 14, .inl (upd (upd (upd (upd (upd (upd (upd (upd (upd (upd (upd (upd (upd (upd (upd (upd (upd (upd (upd (upd (upd (upd (upd (upd (upd (upd (upd (upd (fun _ => 0) 0 0) 1 0) 2 0) 3 0) 4 0) 5 0) 6 0) 7 0) 8 0) 9 0) 10 0) 11 0) 12 0) 13 0) 0 0) 1 0) 2 0) 3 0) 4 0) 5 0) 6 0) 7 0) 8 0) 9 0) 10 0) 11 0) 12 0) 13 0))), (nmk, .inl (cI, 61, .inl (upd (upd (fun _ => 0) 0 5000000) 0 4)))] := hD
          refine lv_lload hx hb dX8_gust_160 (lv_at hl 4 rfl) ?_
          refine lv_lload hx hb dX8_gust_162 (lv_at hl 1 rfl) ?_
          refine lv_ladd hx hb dX8_gust_164 ?_
          refine lv_topl (fun x418 e418 => ?_)
          obtain rfl : x418 = 10 := e418.trans (by decide)
          refine lv_lstore (lv' := [(7, .long 10), (12, .int 1), (10, .long 10), (9, .int 1), (5, .long 0), (4, .int 1), (0, .ref n), (1, .int 10), (2, .int 0), (3, .int 0)]) hx hb dX8_gust_165 hl (by decide) rfl (fun ls hl => ?_)
          refine lv_lload hx hb dX8_gust_167 (lv_at hl 4 rfl) ?_
          refine lv_lload hx hb dX8_gust_169 (lv_at hl 2 rfl) ?_
          refine lv_aload_n hx hb dX8_gust_171 rfl (lv_at hl 6 rfl) ?_
          refine lv_iload_n hx hb dX8_gust_172 rfl (lv_at hl 8 rfl) ?_
          refine mx_i (wr := []) (va_runV (As := [.int 0]) (rest := [.long 10, .long 0]) ⟨hx, hb, hml, hown, hts⟩ (c_X8_worthOfGusts_0 l dC dI cI cZ cK tS aK aV n nwi nco nqu nmi nde nsa nsm npa nac nam naw ncs nbw ndc nmk npo nta npl nmm ncu nke nik 0 0 0 0 0 0 0 0 0 1 (-6) 0 4000 (-6) (-6) 0 0 800 0 0 0 0 0 0 0 0 0 0 0 (upd (upd (upd (upd (upd (upd (upd (upd (upd (upd (upd (upd (upd (upd (upd (upd (upd (upd (upd (upd (upd (upd (upd (upd (upd (upd (upd (upd (fun _ => 0) 0 0) 1 0) 2 0) 3 0) 4 0) 5 0) 6 0) 7 0) 8 0) 9 0) 10 0) 11 0) 12 0) 13 0) 0 0) 1 0) 2 0) 3 0) 4 0) 5 0) 6 0) 7 0) 8 0) 9 0) 10 0) 11 0) 12 0) 13 0) (upd (upd (fun _ => 0) 0 5000000) 0 4) H.size) (cwV 1 hts (gw_v (fun _ h9 => List.mem_cons_of_mem _ h9) wm_524 wm_525 wm_526 wm_385 wm_527) rfl rfl rfl (by decide +kernel) ⟨Nat.le_of_ble_eq_true rfl, Nat.le_of_ble_eq_true rfl⟩) (mx_preV (C := RX8) (T := TX8) (N := 53) (ci := 8) hKx hP hD hS hA [0, 1, 2] (by decide) rfl rfl rfl) rfl rfl hl.1 rfl (lv_room (Nat.le_of_ble_eq_true rfl)) dX8_gust_173 ⟨Nat.le_of_ble_eq_true rfl, Nat.le_of_ble_eq_true rfl⟩) hP hD hS hA [0, 1, 2] [] rfl rfl (by decide) (by decide) (fun r419 u419 H locs hq419 hP hD hS => ?_)
          replace hP : va_P (dC, dI) vwCl [(n, .inr (8, [.int 800, .int 0, .int 0, .int 0, .int 0, .int 0, .int 0, .ref nwi, .ref nco, .int 0, .ref nqu, .ref nmi, .ref nde, .ref nsa, .ref nsm, .int 0, .ref npa, .int 0, .ref nac, .ref nam, .ref naw, .int 0, .int 1, .int (-6), .int 0, .int 4000, .int (-6), .int (-6), .int 0, .int 0, .ref ncs, .ref nbw, .ref ndc, .ref nmk, .int 800, .int 0, .int 0, .int 0, .int 0, .int 0, .int 0, .ref npo, .int 0, .ref nta, .ref npl, .int 0, .int 0, .ref nmm, .ref ncu, .ref nke, .ref nik, .int 0, .int 0])), (ndc, .inl (cI, 14, .inl (upd (upd (upd (upd (upd (upd (upd (upd (upd (upd (upd (upd (upd (upd (upd (upd (upd (upd (upd (upd (upd (upd (upd (upd (upd (upd (upd (upd (upd (upd (upd (upd (upd (upd (upd (upd (upd (upd (upd (upd (upd (upd (fun _ => 0) 0 0) 1 0) 2 0) 3 0) 4 0) 5 0) 6 0) 7 0) 8 0) 9 0) 10 0) 11 0) 12 0) 13 0) 0 0) 1 0) 2 0) 3 0) 4 0) 5 0) 6 0) 7 0) 8 0) 9 0) 10 0) 11 0) 12 0) 13 0) 0 0) 1 0) 2 0) 3 0) 4 0) 5 0) 6 0) 7 0) 8 0) 9 0) 10 0) 11 0) 12 0) 13 0))), (nmk, .inl (cI, 61, .inl (upd (upd (upd (fun _ => 0) 0 5000000) 0 4) 0 4)))] H := hP
          replace hD : va_D A [(n, .inr (8, [.int 800, .int 0, .int 0, .int 0, .int 0, .int 0, .int 0, .ref nwi, .ref nco, .int 0, .ref nqu, .ref nmi, .ref nde, .ref nsa, .ref nsm, .int 0, .ref npa, .int 0, .ref nac, .ref nam, .ref naw, .int 0, .int 1, .int (-6), .int 0, .int 4000, .int (-6), .int (-6), .int 0, .int 0, .ref ncs, .ref nbw, .ref ndc, .ref nmk, .int 800, .int 0, .int 0, .int 0, .int 0, .int 0, .int 0, .ref npo, .int 0, .ref nta, .ref npl, .int 0, .int 0, .ref nmm, .ref ncu, .ref nke, .ref nik, .int 0, .int 0])), (ndc, .inl (cI, 14, .inl (upd (upd (upd (upd (upd (upd (upd (upd (upd (upd (upd (upd (upd (upd (upd (upd (upd (upd (upd (upd (upd (upd (upd (upd (upd (upd (upd (upd (upd (upd (upd (upd (upd (upd (upd (upd (upd (upd (upd (upd (upd (upd (fun _ => 0) 0 0) 1 0) 2 0) 3 0) 4 0) 5 0) 6 0) 7 0) 8 0) 9 0) 10 0) 11 0) 12 0) 13 0) 0 0) 1 0) 2 0) 3 0) 4 0) 5 0) 6 0) 7 0) 8 0) 9 0) 10 0) 11 0) 12 0) 13 0) 0 0) 1 0) 2 0) 3 0) 4 0) 5 0) 6 0) 7 0) 8 0) 9 0) 10 0) 11 0) 12 0) 13 0))), (nmk, .inl (cI, 61, .inl (upd (upd (upd (fun _ => 0) 0 5000000) 0 4) 0 4)))] := hD
          obtain rfl : r419 = 1 := hq419
          refine lv_i2l (v := 1) hx hb dX8_gust_176 (by decide) ?_
          refine lv_lmul hx hb dX8_gust_177 ?_
          refine lv_topl (fun x420 e420 => ?_)
          obtain rfl : x420 = 10 := e420.trans (by decide)
          refine lv_ladd hx hb dX8_gust_178 ?_
          refine lv_topl (fun x421 e421 => ?_)
          obtain rfl : x421 = 10 := e421.trans (by decide)
          refine lv_lstore (lv' := [(5, .long 10), (7, .long 10), (12, .int 1), (10, .long 10), (9, .int 1), (4, .int 1), (0, .ref n), (1, .int 10), (2, .int 0), (3, .int 0)]) hx hb dX8_gust_179 hl (by decide) rfl (fun ls hl => ?_)
          refine lv_iinc (v := 2) (lv' := [(9, .int 2), (5, .long 10), (7, .long 10), (12, .int 1), (10, .long 10), (4, .int 1), (0, .ref n), (1, .int 10), (2, .int 0), (3, .int 0)]) hx hb dX8_gust_181 hl (k := 4) rfl (by decide) (by decide) rfl (fun ls hl => ?_)
          refine lv_goto (tgt := 95) hx hb dX8_gust_184 (by decide) ?_
          refine lv_iload hx hb dX8_gust_95 (lv_at hl 0 rfl) ?_
          refine lv_iconst (v := 1) hx hb dX8_gust_97 (by decide) ?_
          refine lv_iload hx hb dX8_gust_98 (lv_at hl 5 rfl) ?_
          refine lv_ishl hx hb dX8_gust_100 ?_
          refine lv_topi (fun x422 e422 => ?_)
          obtain rfl : x422 = 2 := e422.trans (by decide)
          refine lv_icmp_ge (tgt := 187) hx hb dX8_gust_101 (by decide) (fun c423 => ?_) (fun c423 => absurd c423 (by decide))
          refine lv_aload_n hx hb dX8_gust_187 rfl (lv_at hl 6 rfl) ?_
          refine lv_iconst (v := 0) hx hb dX8_gust_188 (by decide) ?_
          refine va_put (D := (dC, dI)) (ci := 8) (v := .int 0) (ty := .int) (C := RX8) (T := TX8) (N := 53) hx hb hts hin8 tyX8 tyX8_ok nmX8 hown hK hP hD hS 0 rfl rfl 22 (by decide) hw3 (fun _ h9 => h9) rfl (by decide +kernel) rfl rfl (Nat.le_of_ble_eq_true rfl) dX8_gust_189 (fun H locs hP hD hS => ?_)
          replace hP : va_P (dC, dI) vwCl [(n, .inr (8, [.int 800, .int 0, .int 0, .int 0, .int 0, .int 0, .int 0, .ref nwi, .ref nco, .int 0, .ref nqu, .ref nmi, .ref nde, .ref nsa, .ref nsm, .int 0, .ref npa, .int 0, .ref nac, .ref nam, .ref naw, .int 0, .int 0, .int (-6), .int 0, .int 4000, .int (-6), .int (-6), .int 0, .int 0, .ref ncs, .ref nbw, .ref ndc, .ref nmk, .int 800, .int 0, .int 0, .int 0, .int 0, .int 0, .int 0, .ref npo, .int 0, .ref nta, .ref npl, .int 0, .int 0, .ref nmm, .ref ncu, .ref nke, .ref nik, .int 0, .int 0])), (ndc, .inl (cI, 14, .inl (upd (upd (upd (upd (upd (upd (upd (upd (upd (upd (upd (upd (upd (upd (upd (upd (upd (upd (upd (upd (upd (upd (upd (upd (upd (upd (upd (upd (upd (upd (upd (upd (upd (upd (upd (upd (upd (upd (upd (upd (upd (upd (fun _ => 0) 0 0) 1 0) 2 0) 3 0) 4 0) 5 0) 6 0) 7 0) 8 0) 9 0) 10 0) 11 0) 12 0) 13 0) 0 0) 1 0) 2 0) 3 0) 4 0) 5 0) 6 0) 7 0) 8 0) 9 0) 10 0) 11 0) 12 0) 13 0) 0 0) 1 0) 2 0) 3 0) 4 0) 5 0) 6 0) 7 0) 8 0) 9 0) 10 0) 11 0) 12 0) 13 0))), (nmk, .inl (cI, 61, .inl (upd (upd (upd (fun _ => 0) 0 5000000) 0 4) 0 4)))] H := hP
          replace hD : va_D A [(n, .inr (8, [.int 800, .int 0, .int 0, .int 0, .int 0, .int 0, .int 0, .ref nwi, .ref nco, .int 0, .ref nqu, .ref nmi, .ref nde, .ref nsa, .ref nsm, .int 0, .ref npa, .int 0, .ref nac, .ref nam, .ref naw, .int 0, .int 0, .int (-6), .int 0, .int 4000, .int (-6), .int (-6), .int 0, .int 0, .ref ncs, .ref nbw, .ref ndc, .ref nmk, .int 800, .int 0, .int 0, .int 0, .int 0, .int 0, .int 0, .ref npo, .int 0, .ref nta, .ref npl, .int 0, .int 0, .ref nmm, .ref ncu, .ref nke, .ref nik, .int 0, .int 0])), (ndc, .inl (cI, 14, .inl (upd (upd (upd (upd (upd (upd (upd (upd (upd (upd (upd (upd (upd (upd (upd (upd (upd (upd (upd (upd (upd (upd (upd (upd (upd (upd (upd (upd (upd (upd (upd (upd (upd (upd (upd (upd (upd (upd (upd (upd (upd (upd (fun _ => 0) 0 0) 1 0) 2 0) 3 0) 4 0) 5 0) 6 0) 7 0) 8 0) 9 0) 10 0) 11 0) 12 0) 13 0) 0 0) 1 0) 2 0) 3 0) 4 0) 5 0) 6 0) 7 0) 8 0) 9 0) 10 0) 11 0) 12 0) 13 0) 0 0) 1 0) 2 0) 3 0) 4 0) 5 0) 6 0) 7 0) 8 0) 9 0) 10 0) 11 0) 12 0) 13 0))), (nmk, .inl (cI, 61, .inl (upd (upd (upd (fun _ => 0) 0 5000000) 0 4) 0 4)))] := hD
          refine lv_lload hx hb dX8_gust_192 (lv_at hl 1 rfl) ?_
          refine lv_lload hx hb dX8_gust_194 (lv_at hl 2 rfl) ?_
          refine lv_iload_n hx hb dX8_gust_196 rfl (lv_at hl 9 rfl) ?_
          refine mx_l (wr := [(n, .inr (8, [.int 800, .int 0, .int 0, .int 0, .int 0, .int 0, .int 0, .ref nwi, .ref nco, .int 0, .ref nqu, .ref nmi, .ref nde, .ref nsa, .ref nsm, .int 0, .ref npa, .int 0, .ref nac, .ref nam, .ref naw, .int 0, .int 0, .int (-6), .int 0, .int 4000, .int (-6), .int (-6), .int 0, .int 0, .ref ncs, .ref nbw, .ref ndc, .ref nmk, .int 800, .int 0, .int 0, .int 0, .int 0, .int 0, .int 0, .ref npo, .int 0, .ref nta, .ref npl, .int 0, .int 0, .ref nmm, .ref ncu, .ref nke, .ref nik, .int 0, .int 0])), (ndc, .inl (cI, 14, .inl (upd (upd (upd (upd (upd (upd (upd (upd (upd (upd (upd (upd (upd (upd (upd (upd (upd (upd (upd (upd (upd (upd (upd (upd (upd (upd (upd (upd (upd (upd (upd (upd (upd (upd (upd (upd (upd (upd (upd (upd (upd (upd (fun _ => 0) 0 0) 1 0) 2 0) 3 0) 4 0) 5 0) 6 0) 7 0) 8 0) 9 0) 10 0) 11 0) 12 0) 13 0) 0 0) 1 0) 2 0) 3 0) 4 0) 5 0) 6 0) 7 0) 8 0) 9 0) 10 0) 11 0) 12 0) 13 0) 0 0) 1 0) 2 0) 3 0) 4 0) 5 0) 6 0) 7 0) 8 0) 9 0) 10 0) 11 0) 12 0) 13 0))), (nmk, .inl (cI, 61, .inl (upd (upd (upd (fun _ => 0) 0 5000000) 0 4) 0 4)))]) (va_runS (As := [.long 10, .long 10, .int 0]) (rest := []) ⟨hx, hb, hml, hown, hts⟩ (c_X8_lowest_10_0 l dC dI cI cZ cK tS aK aV  H.size) (va_cwS 3 hts (gw_s (fun _ h9 => List.mem_cons_of_mem _ h9) wm_528 wm_529 wm_385 wm_530) rfl rfl rfl (by decide +kernel) ⟨Nat.le_of_ble_eq_true rfl, Nat.le_of_ble_eq_true rfl⟩) (mx_preS hKx hP hD hS hA [] (by decide) rfl) rfl rfl hl.1 rfl (lv_room (Nat.le_of_ble_eq_true rfl)) dX8_gust_197 ⟨Nat.le_of_ble_eq_true rfl, Nat.le_of_ble_eq_true rfl⟩) hP hD hS hA [] [0, 1, 2] rfl rfl (by decide) (by decide) (fun r424 u424 H locs hq424 hP hD hS => ?_)
          replace hP : va_P (dC, dI) vwCl [(n, .inr (8, [.int 800, .int 0, .int 0, .int 0, .int 0, .int 0, .int 0, .ref nwi, .ref nco, .int 0, .ref nqu, .ref nmi, .ref nde, .ref nsa, .ref nsm, .int 0, .ref npa, .int 0, .ref nac, .ref nam, .ref naw, .int 0, .int 0, .int (-6), .int 0, .int 4000, .int (-6), .int (-6), .int 0, .int 0, .ref ncs, .ref nbw, .ref ndc, .ref nmk, .int 800, .int 0, .int 0, .int 0, .int 0, .int 0, .int 0, .ref npo, .int 0, .ref nta, .ref npl, .int 0, .int 0, .ref nmm, .ref ncu, .ref nke, .ref nik, .int 0, .int 0])), (ndc, .inl (cI, 14, .inl (upd (upd (upd (upd (upd (upd (upd (upd (upd (upd (upd (upd (upd (upd (upd (upd (upd (upd (upd (upd (upd (upd (upd (upd (upd (upd (upd (upd (upd (upd (upd (upd (upd (upd (upd (upd (upd (upd (upd (upd (upd (upd (fun _ => 0) 0 0) 1 0) 2 0) 3 0) 4 0) 5 0) 6 0) 7 0) 8 0) 9 0) 10 0) 11 0) 12 0) 13 0) 0 0) 1 0) 2 0) 3 0) 4 0) 5 0) 6 0) 7 0) 8 0) 9 0) 10 0) 11 0) 12 0) 13 0) 0 0) 1 0) 2 0) 3 0) 4 0) 5 0) 6 0) 7 0) 8 0) 9 0) 10 0) 11 0) 12 0) 13 0))), (nmk, .inl (cI, 61, .inl (upd (upd (upd (fun _ => 0) 0 5000000) 0 4) 0 4)))] H := hP
          replace hD : va_D A [(n, .inr (8, [.int 800, .int 0, .int 0, .int 0, .int 0, .int 0, .int 0, .ref nwi, .ref nco, .int 0, .ref nqu, .ref nmi, .ref nde, .ref nsa, .ref nsm, .int 0, .ref npa, .int 0, .ref nac, .ref nam, .ref naw, .int 0, .int 0, .int (-6), .int 0, .int 4000, .int (-6), .int (-6), .int 0, .int 0, .ref ncs, .ref nbw, .ref ndc, .ref nmk, .int 800, .int 0, .int 0, .int 0, .int 0, .int 0, .int 0, .ref npo, .int 0, .ref nta, .ref npl, .int 0, .int 0, .ref nmm, .ref ncu, .ref nke, .ref nik, .int 0, .int 0])), (ndc, .inl (cI, 14, .inl (upd (upd (upd (upd (upd (upd (upd (upd (upd (upd (upd (upd (upd (upd (upd (upd (upd (upd (upd (upd (upd (upd (upd (upd (upd (upd (upd (upd (upd (upd (upd (upd (upd (upd (upd (upd (upd (upd (upd (upd (upd (upd (fun _ => 0) 0 0) 1 0) 2 0) 3 0) 4 0) 5 0) 6 0) 7 0) 8 0) 9 0) 10 0) 11 0) 12 0) 13 0) 0 0) 1 0) 2 0) 3 0) 4 0) 5 0) 6 0) 7 0) 8 0) 9 0) 10 0) 11 0) 12 0) 13 0) 0 0) 1 0) 2 0) 3 0) 4 0) 5 0) 6 0) 7 0) 8 0) 9 0) 10 0) 11 0) 12 0) 13 0))), (nmk, .inl (cI, 61, .inl (upd (upd (upd (fun _ => 0) 0 5000000) 0 4) 0 4)))] := hD
          obtain rfl : r424 = 1 := hq424
          have hP9 := mx_subP (wc := []) hP [] rfl
          have hD9 := hD.sub (ws' := []) [] (by decide) rfl
          exact W.lret (v := 1) hx hb hr (fun t ht hW => ⟨⟨1, (), rfl, rfl, by rw [ht]; exact hP9, hD9⟩, hS.F ht⟩) hS.2.2 dX8_gust_200
      · exfalso; have hf5 : (0 : Int) < (0 : Int) ∨ (1 : Int) < (0 : Int) := hf5; omega
    · exfalso; have hf3 : (0 : Int) < (0 : Int) ∨ (1 : Int) < (0 : Int) := hf3; omega
  · exfalso; have hf1 : i0.toInt < (0 : Int) ∨ (10 : Int) < i0.toInt := (by have h9 := hf1; simp only [Int32.toInt_toInt64] at h9; exact h9); omega
