set_option maxHeartbeats 4000000 in
set_option maxRecDepth 100000 in
theorem c_X0_toBoil (l : Launch) (dC : Nat → ClassId) (dI : Nat → Nat → Nat) (cI cZ cK : ClassId) (tS : Nat) (aK aV : Nat → Nat) (k : Nat) (i0 : Int32) (i1 : Int32) (i2 : Int32) (ks : Nat) (kw : Nat) (kc : Nat) (kwd : Int32) (kbg : Int32) (kme : Int32) (kq : Nat) (km : Nat) (kd : Nat) (ksi : Int32) (ka : Nat) (kk : Nat) (kfq : Nat → Int32) (kfm : Nat → Int32) (sz : Nat) (h_i0 : 0 ≤ i0.toInt ∧ i0.toInt ≤ 5) : Ci l yX0_toBoil (wq yX0_toBoil cX0_toBoil 6 (some .int)) ({ frames := 1, cells := 0, slots := 0, locals := 23 }) dC dI cI cZ cK tS aK aV [.ref k, .int i0, .int i1, .int i2] sz [(k, .inr (0, [.ref ks, .ref kw, .ref kc, .int kwd, .int kbg, .int kme, .ref kq, .ref km, .ref kd, .int ksi, .ref ka, .ref kk])), (kq, .inl (cI, 6, .inl kfq)), (km, .inl (cI, 6, .inl kfm))] (fun (r : Int32) (u : Unit) => (r = tbF (kfq i0.toNatClampNeg) (kfm i0.toNatClampNeg) i1 i2)) (fun _ => [(k, .inr (0, [.ref ks, .ref kw, .ref kc, .int kwd, .int kbg, .int kme, .ref kq, .ref km, .ref kd, .int ksi, .ref ka, .ref kk])), (kq, .inl (cI, 6, .inl kfq)), (km, .inl (cI, 6, .inl kfm))]) := by
  refine Met.ofW (cc := cX0_toBoil) (maxL := 6) (ret := (some .int)) (by decide) rfl ?_
  intro p e s m args below meth c s₁ B hml hv
  obtain ⟨rfl, hsz, hP, hKx, hD0⟩ := hv
  have hx := B.exec
  have hb := B.bytes
  have hr := B.returns
  have hts := atoms_spec (ws := wq yX0_toBoil cX0_toBoil 6 (some .int)) B.pre
  have hown : s.vm.findClass RX0 = some m.cls := findClass_of_methodNamed B.named
  have hlocks := B.notSynchronized
  subst hsz
  have hD := hD0.self (sz := s.heap.size)
  generalize hAe : va_A [(k, .inr (0, [.ref ks, .ref kw, .ref kc, .int kwd, .int kbg, .int kme, .ref kq, .ref km, .ref kd, .int ksi, .ref ka, .ref kk])), (kq, .inl (cI, 6, .inl kfq)), (km, .inl (cI, 6, .inl kfm))] s.heap.size = A at hD hKx ⊢
  have hA : ∀ q : Nat, s.heap.size ≤ q → A q := fun q h => by rw [← hAe]; exact Or.inr h
  have hS : va_S A s.heap s.heap [] := va_S.rf
  have hP : va_P (dC, dI) vwCl [(k, .inr (0, [.ref ks, .ref kw, .ref kc, .int kwd, .int kbg, .int kme, .ref kq, .ref km, .ref kd, .int ksi, .ref ka, .ref kk])), (kq, .inl (cI, 6, .inl kfq)), (km, .inl (cI, 6, .inl kfm))] s.heap := hP
  have hl := lv_entry ([.ref k, .int i0, .int i1, .int i2]) (n := 6) (Nat.le_of_ble_eq_true rfl)
  rw [lg_entry_eq]
  generalize (lg_sl ([.ref k, .int i0, .int i1, .int i2]) ++ List.replicate (6 - (lg_sl ([.ref k, .int i0, .int i1, .int i2])).length) Slot.unset).toArray = ls at hl ⊢
  have hl : lv_has ls 6 [(0, .ref k), (1, .int i0), (2, .int i1), (3, .int i2)] := hl
  have hK := hKx.1
  have hin0 := fun w9 h9 => List.mem_cons_of_mem (Cond.code yX0_toBoil cX0_toBoil 6 (some .int)) (inlX0 w9 h9)
  have hw0 := hts (.fieldLink RX0 29 "OneCan$Camp" "minutes" "[I") (List.mem_cons_of_mem _ wm_54)
  refine lv_iconst (v := 4) hx hb dX0_toBoil_0 (by decide) ?_
  refine lv_iload_n hx hb dX0_toBoil_1 rfl (lv_at hl 2 rfl) ?_
  refine lv_iadd hx hb dX0_toBoil_2 ?_
  refine lv_istore (lv' := [(4, .int (4 + i1)), (0, .ref k), (1, .int i0), (2, .int i1), (3, .int i2)]) hx hb dX0_toBoil_3 hl (by decide) rfl (fun ls hl => ?_)
  refine lv_iconst (v := 1) hx hb dX0_toBoil_5 (by decide) ?_
  refine lv_istore (lv' := [(5, .int 1), (4, .int (4 + i1)), (0, .ref k), (1, .int i0), (2, .int i1), (3, .int i2)]) hx hb dX0_toBoil_6 hl (by decide) rfl (fun ls hl => ?_)
  refine lv_iload_n hx hb dX0_toBoil_8 rfl (lv_at hl 5 rfl) ?_
  refine lv_iconst (v := 2) hx hb dX0_toBoil_9 (by decide) ?_
  refine lv_iand hx hb dX0_toBoil_10 ?_
  refine lv_if_eq (tgt := 17) hx hb dX0_toBoil_11 (by decide) (fun c1 => ?_) (fun c1 => ?_)
  · have t1 : (i2 &&& 2).toInt = (0 : Int) := (teq c1)
    refine lv_iload_n hx hb dX0_toBoil_17 rfl (lv_at hl 5 rfl) ?_
    refine lv_iconst (v := 4) hx hb dX0_toBoil_18 (by decide) ?_
    refine lv_iand hx hb dX0_toBoil_19 ?_
    refine lv_if_eq (tgt := 29) hx hb dX0_toBoil_20 (by decide) (fun c2 => ?_) (fun c2 => ?_)
    · have t2 : (i2 &&& 4).toInt = (0 : Int) := (teq c2)
      refine lv_iload_n hx hb dX0_toBoil_29 rfl (lv_at hl 5 rfl) ?_
      refine lv_bipush (v := 8) hx hb dX0_toBoil_30 (by decide) ?_
      refine lv_iand hx hb dX0_toBoil_32 ?_
      refine lv_if_eq (tgt := 39) hx hb dX0_toBoil_33 (by decide) (fun c3 => ?_) (fun c3 => ?_)
      · have t3 : (i2 &&& 8).toInt = (0 : Int) := (teq c3)
        refine lv_aload_n hx hb dX0_toBoil_39 rfl (lv_at hl 2 rfl) ?_
        refine lv_iload_n hx hb dX0_toBoil_40 rfl (lv_at hl 3 rfl) ?_
        refine lv_iload_n hx hb dX0_toBoil_41 rfl (lv_at hl 5 rfl) ?_
        refine mx_i (wr := [(km, .inl (cI, 6, .inl kfm))]) (va_runV (As := [.int i0, .int i2]) (rest := []) ⟨hx, hb, hml, hown, hts⟩ (c_X0_water l dC dI cI cZ cK tS aK aV k i0 i2 ks kw kc kwd kbg kme kq km kd ksi ka kk kfq s.heap.size (by first | omega | decide | assumption | trivial)) (cwV 2 hts (gw_v (fun _ h9 => List.mem_cons_of_mem _ h9) wm_393 wm_394 wm_395 wm_14 wm_396) rfl rfl rfl (by decide +kernel) ⟨Nat.le_of_ble_eq_true rfl, Nat.le_of_ble_eq_true rfl⟩) (mx_preV (C := RX0) (T := TX0) (N := 12) (ci := 0) hKx hP hD hS hA [0, 1] (by decide) rfl rfl rfl) rfl rfl hl.1 rfl (lv_room (Nat.le_of_ble_eq_true rfl)) dX0_toBoil_42 ⟨Nat.le_of_ble_eq_true rfl, Nat.le_of_ble_eq_true rfl⟩) hP hD hS hA [0, 1] [2] rfl rfl (by decide) (by decide) (fun r4 u4 H locs hq4 hP hD hS => ?_)
        replace hP : va_P (dC, dI) vwCl [(km, .inl (cI, 6, .inl kfm)), (k, .inr (0, [.ref ks, .ref kw, .ref kc, .int kwd, .int kbg, .int kme, .ref kq, .ref km, .ref kd, .int ksi, .ref ka, .ref kk])), (kq, .inl (cI, 6, .inl kfq))] H := hP
        replace hD : va_D A [(km, .inl (cI, 6, .inl kfm)), (k, .inr (0, [.ref ks, .ref kw, .ref kc, .int kwd, .int kbg, .int kme, .ref kq, .ref km, .ref kd, .int ksi, .ref ka, .ref kk])), (kq, .inl (cI, 6, .inl kfq))] := hD
        have hx4_0 := hq4
        replace hx4_0 : r4 = waF (kfq i0.toNatClampNeg) i2 := hx4_0
        refine lv_iload hx hb dX0_toBoil_45 (lv_at hl 1 rfl) ?_
        refine lv_imul hx hb dX0_toBoil_47 ?_
        refine lv_iload hx hb dX0_toBoil_48 (lv_at hl 0 rfl) ?_
        refine lv_aload_n hx hb dX0_toBoil_50 rfl (lv_at hl 2 rfl) ?_
        refine va_get (D := (dC, dI)) (ci := 0) (v := .ref km) (C := RX0) (T := TX0) (N := 12) hx hb hts hin0 hown hK hP 1 rfl rfl 7 (by decide) hw0 (fun _ h9 => h9) rfl dX0_toBoil_51 ?_
        refine lv_iload_n hx hb dX0_toBoil_54 rfl (lv_at hl 3 rfl) ?_
        refine va_iald hx hb hK hP 0 0 rfl rfl (vin (by omega) (by omega)) dX0_toBoil_55 ?_
        refine lv_topi (fun y5 e5 => ?_)
        obtain rfl : kfm i0.toNatClampNeg = y5 := e5.symm
        refine lv_imul hx hb dX0_toBoil_56 ?_
        refine lv_iadd hx hb dX0_toBoil_57 ?_
        have hP9 := mx_subP (wc := [(k, .inr (0, [.ref ks, .ref kw, .ref kc, .int kwd, .int kbg, .int kme, .ref kq, .ref km, .ref kd, .int ksi, .ref ka, .ref kk])), (kq, .inl (cI, 6, .inl kfq)), (km, .inl (cI, 6, .inl kfm))]) hP [1, 2, 0] rfl
        have hD9 := hD.sub (ws' := [(k, .inr (0, [.ref ks, .ref kw, .ref kc, .int kwd, .int kbg, .int kme, .ref kq, .ref km, .ref kd, .int ksi, .ref ka, .ref kk])), (kq, .inl (cI, 6, .inl kfq)), (km, .inl (cI, 6, .inl kfm))]) [1, 2, 0] (by decide) rfl
        exact W.iret (v := ((r4 * (4 + i1)) + (1 * (kfm i0.toNatClampNeg)))) hx hb hr (fun t ht hW => ⟨⟨((r4 * (4 + i1)) + (1 * (kfm i0.toNatClampNeg))), (), rfl, (show ((r4 * (4 + i1)) + (1 * (kfm i0.toNatClampNeg))) = tbF (kfq i0.toNatClampNeg) (kfm i0.toNatClampNeg) i1 i2 from (by subst_vars; simp only [tbF, oi1, if_pos c1, if_pos c2, if_pos c3, Int32.zero_mul, Int32.add_zero])), by rw [ht]; exact hP9, hD9⟩, hS.F ht⟩) hS.2.2 dX0_toBoil_58
      · have t3 : (i2 &&& 8).toInt ≠ (0 : Int) := (tne c3)
        refine lv_iconst (v := 0) hx hb dX0_toBoil_36 (by decide) ?_
        refine lv_istore (lv' := [(5, .int 0), (4, .int (4 + i1)), (0, .ref k), (1, .int i0), (2, .int i1), (3, .int i2)]) hx hb dX0_toBoil_37 hl (by decide) rfl (fun ls hl => ?_)
        refine lv_aload_n hx hb dX0_toBoil_39 rfl (lv_at hl 2 rfl) ?_
        refine lv_iload_n hx hb dX0_toBoil_40 rfl (lv_at hl 3 rfl) ?_
        refine lv_iload_n hx hb dX0_toBoil_41 rfl (lv_at hl 5 rfl) ?_
        refine mx_i (wr := [(km, .inl (cI, 6, .inl kfm))]) (va_runV (As := [.int i0, .int i2]) (rest := []) ⟨hx, hb, hml, hown, hts⟩ (c_X0_water l dC dI cI cZ cK tS aK aV k i0 i2 ks kw kc kwd kbg kme kq km kd ksi ka kk kfq s.heap.size (by first | omega | decide | assumption | trivial)) (cwV 2 hts (gw_v (fun _ h9 => List.mem_cons_of_mem _ h9) wm_393 wm_394 wm_395 wm_14 wm_396) rfl rfl rfl (by decide +kernel) ⟨Nat.le_of_ble_eq_true rfl, Nat.le_of_ble_eq_true rfl⟩) (mx_preV (C := RX0) (T := TX0) (N := 12) (ci := 0) hKx hP hD hS hA [0, 1] (by decide) rfl rfl rfl) rfl rfl hl.1 rfl (lv_room (Nat.le_of_ble_eq_true rfl)) dX0_toBoil_42 ⟨Nat.le_of_ble_eq_true rfl, Nat.le_of_ble_eq_true rfl⟩) hP hD hS hA [0, 1] [2] rfl rfl (by decide) (by decide) (fun r6 u6 H locs hq6 hP hD hS => ?_)
        replace hP : va_P (dC, dI) vwCl [(km, .inl (cI, 6, .inl kfm)), (k, .inr (0, [.ref ks, .ref kw, .ref kc, .int kwd, .int kbg, .int kme, .ref kq, .ref km, .ref kd, .int ksi, .ref ka, .ref kk])), (kq, .inl (cI, 6, .inl kfq))] H := hP
        replace hD : va_D A [(km, .inl (cI, 6, .inl kfm)), (k, .inr (0, [.ref ks, .ref kw, .ref kc, .int kwd, .int kbg, .int kme, .ref kq, .ref km, .ref kd, .int ksi, .ref ka, .ref kk])), (kq, .inl (cI, 6, .inl kfq))] := hD
        have hx6_0 := hq6
        replace hx6_0 : r6 = waF (kfq i0.toNatClampNeg) i2 := hx6_0
        refine lv_iload hx hb dX0_toBoil_45 (lv_at hl 1 rfl) ?_
        refine lv_imul hx hb dX0_toBoil_47 ?_
        refine lv_iload hx hb dX0_toBoil_48 (lv_at hl 0 rfl) ?_
        refine lv_aload_n hx hb dX0_toBoil_50 rfl (lv_at hl 2 rfl) ?_
        refine va_get (D := (dC, dI)) (ci := 0) (v := .ref km) (C := RX0) (T := TX0) (N := 12) hx hb hts hin0 hown hK hP 1 rfl rfl 7 (by decide) hw0 (fun _ h9 => h9) rfl dX0_toBoil_51 ?_
        refine lv_iload_n hx hb dX0_toBoil_54 rfl (lv_at hl 3 rfl) ?_
        refine va_iald hx hb hK hP 0 0 rfl rfl (vin (by omega) (by omega)) dX0_toBoil_55 ?_
        refine lv_topi (fun y7 e7 => ?_)
        obtain rfl : kfm i0.toNatClampNeg = y7 := e7.symm
        refine lv_imul hx hb dX0_toBoil_56 ?_
        refine lv_topi (fun x8 e8 => ?_)
        obtain rfl : x8 = 0 := e8.trans (by simp)
        refine lv_iadd hx hb dX0_toBoil_57 ?_
        refine lv_topi (fun y9 e9 => ?_)
        obtain rfl : r6 * (4 + i1) = y9 := (e9.trans (by simp)).symm
        have hP9 := mx_subP (wc := [(k, .inr (0, [.ref ks, .ref kw, .ref kc, .int kwd, .int kbg, .int kme, .ref kq, .ref km, .ref kd, .int ksi, .ref ka, .ref kk])), (kq, .inl (cI, 6, .inl kfq)), (km, .inl (cI, 6, .inl kfm))]) hP [1, 2, 0] rfl
        have hD9 := hD.sub (ws' := [(k, .inr (0, [.ref ks, .ref kw, .ref kc, .int kwd, .int kbg, .int kme, .ref kq, .ref km, .ref kd, .int ksi, .ref ka, .ref kk])), (kq, .inl (cI, 6, .inl kfq)), (km, .inl (cI, 6, .inl kfm))]) [1, 2, 0] (by decide) rfl
        exact W.iret (v := (r6 * (4 + i1))) hx hb hr (fun t ht hW => ⟨⟨(r6 * (4 + i1)), (), rfl, (show (r6 * (4 + i1)) = tbF (kfq i0.toNatClampNeg) (kfm i0.toNatClampNeg) i1 i2 from (by subst_vars; simp only [tbF, oi1, if_pos c1, if_pos c2, if_neg c3, Int32.zero_mul, Int32.add_zero])), by rw [ht]; exact hP9, hD9⟩, hS.F ht⟩) hS.2.2 dX0_toBoil_58
    · have t2 : (i2 &&& 4).toInt ≠ (0 : Int) := (tne c2)
      obtain ⟨x10, e10⟩ : ∃ y : Int32, y = 4 + i1 + Int32.ofInt 1 := ⟨_, rfl⟩
      refine lv_iinc (v := x10) (lv' := [(4, .int x10), (5, .int 1), (0, .ref k), (1, .int i0), (2, .int i1), (3, .int i2)]) hx hb dX0_toBoil_23 hl (k := 1) rfl e10.symm (by decide) rfl (fun ls hl => ?_)
      refine lv_iconst (v := 2) hx hb dX0_toBoil_26 (by decide) ?_
      refine lv_istore (lv' := [(5, .int 2), (4, .int x10), (0, .ref k), (1, .int i0), (2, .int i1), (3, .int i2)]) hx hb dX0_toBoil_27 hl (by decide) rfl (fun ls hl => ?_)
      refine lv_iload_n hx hb dX0_toBoil_29 rfl (lv_at hl 5 rfl) ?_
      refine lv_bipush (v := 8) hx hb dX0_toBoil_30 (by decide) ?_
      refine lv_iand hx hb dX0_toBoil_32 ?_
      refine lv_if_eq (tgt := 39) hx hb dX0_toBoil_33 (by decide) (fun c11 => ?_) (fun c11 => ?_)
      · have t11 : (i2 &&& 8).toInt = (0 : Int) := (teq c11)
        refine lv_aload_n hx hb dX0_toBoil_39 rfl (lv_at hl 2 rfl) ?_
        refine lv_iload_n hx hb dX0_toBoil_40 rfl (lv_at hl 3 rfl) ?_
        refine lv_iload_n hx hb dX0_toBoil_41 rfl (lv_at hl 5 rfl) ?_
        refine mx_i (wr := [(km, .inl (cI, 6, .inl kfm))]) (va_runV (As := [.int i0, .int i2]) (rest := []) ⟨hx, hb, hml, hown, hts⟩ (c_X0_water l dC dI cI cZ cK tS aK aV k i0 i2 ks kw kc kwd kbg kme kq km kd ksi ka kk kfq s.heap.size (by first | omega | decide | assumption | trivial)) (cwV 2 hts (gw_v (fun _ h9 => List.mem_cons_of_mem _ h9) wm_393 wm_394 wm_395 wm_14 wm_396) rfl rfl rfl (by decide +kernel) ⟨Nat.le_of_ble_eq_true rfl, Nat.le_of_ble_eq_true rfl⟩) (mx_preV (C := RX0) (T := TX0) (N := 12) (ci := 0) hKx hP hD hS hA [0, 1] (by decide) rfl rfl rfl) rfl rfl hl.1 rfl (lv_room (Nat.le_of_ble_eq_true rfl)) dX0_toBoil_42 ⟨Nat.le_of_ble_eq_true rfl, Nat.le_of_ble_eq_true rfl⟩) hP hD hS hA [0, 1] [2] rfl rfl (by decide) (by decide) (fun r12 u12 H locs hq12 hP hD hS => ?_)
        replace hP : va_P (dC, dI) vwCl [(km, .inl (cI, 6, .inl kfm)), (k, .inr (0, [.ref ks, .ref kw, .ref kc, .int kwd, .int kbg, .int kme, .ref kq, .ref km, .ref kd, .int ksi, .ref ka, .ref kk])), (kq, .inl (cI, 6, .inl kfq))] H := hP
        replace hD : va_D A [(km, .inl (cI, 6, .inl kfm)), (k, .inr (0, [.ref ks, .ref kw, .ref kc, .int kwd, .int kbg, .int kme, .ref kq, .ref km, .ref kd, .int ksi, .ref ka, .ref kk])), (kq, .inl (cI, 6, .inl kfq))] := hD
        have hx12_0 := hq12
        replace hx12_0 : r12 = waF (kfq i0.toNatClampNeg) i2 := hx12_0
        refine lv_iload hx hb dX0_toBoil_45 (lv_at hl 1 rfl) ?_
        refine lv_imul hx hb dX0_toBoil_47 ?_
        refine lv_iload hx hb dX0_toBoil_48 (lv_at hl 0 rfl) ?_
        refine lv_aload_n hx hb dX0_toBoil_50 rfl (lv_at hl 2 rfl) ?_
        refine va_get (D := (dC, dI)) (ci := 0) (v := .ref km) (C := RX0) (T := TX0) (N := 12) hx hb hts hin0 hown hK hP 1 rfl rfl 7 (by decide) hw0 (fun _ h9 => h9) rfl dX0_toBoil_51 ?_
        refine lv_iload_n hx hb dX0_toBoil_54 rfl (lv_at hl 3 rfl) ?_
        refine va_iald hx hb hK hP 0 0 rfl rfl (vin (by omega) (by omega)) dX0_toBoil_55 ?_
        refine lv_topi (fun y13 e13 => ?_)
        obtain rfl : kfm i0.toNatClampNeg = y13 := e13.symm
        refine lv_imul hx hb dX0_toBoil_56 ?_
        refine lv_iadd hx hb dX0_toBoil_57 ?_
        have hP9 := mx_subP (wc := [(k, .inr (0, [.ref ks, .ref kw, .ref kc, .int kwd, .int kbg, .int kme, .ref kq, .ref km, .ref kd, .int ksi, .ref ka, .ref kk])), (kq, .inl (cI, 6, .inl kfq)), (km, .inl (cI, 6, .inl kfm))]) hP [1, 2, 0] rfl
        have hD9 := hD.sub (ws' := [(k, .inr (0, [.ref ks, .ref kw, .ref kc, .int kwd, .int kbg, .int kme, .ref kq, .ref km, .ref kd, .int ksi, .ref ka, .ref kk])), (kq, .inl (cI, 6, .inl kfq)), (km, .inl (cI, 6, .inl kfm))]) [1, 2, 0] (by decide) rfl
        exact W.iret (v := ((r12 * x10) + (2 * (kfm i0.toNatClampNeg)))) hx hb hr (fun t ht hW => ⟨⟨((r12 * x10) + (2 * (kfm i0.toNatClampNeg))), (), rfl, (show ((r12 * x10) + (2 * (kfm i0.toNatClampNeg))) = tbF (kfq i0.toNatClampNeg) (kfm i0.toNatClampNeg) i1 i2 from (by subst_vars; simp only [tbF, oi1, if_pos c1, if_neg c2, if_pos c11, Int32.zero_mul, Int32.add_zero])), by rw [ht]; exact hP9, hD9⟩, hS.F ht⟩) hS.2.2 dX0_toBoil_58
      · have t11 : (i2 &&& 8).toInt ≠ (0 : Int) := (tne c11)
        refine lv_iconst (v := 0) hx hb dX0_toBoil_36 (by decide) ?_
        refine lv_istore (lv' := [(5, .int 0), (4, .int x10), (0, .ref k), (1, .int i0), (2, .int i1), (3, .int i2)]) hx hb dX0_toBoil_37 hl (by decide) rfl (fun ls hl => ?_)
        refine lv_aload_n hx hb dX0_toBoil_39 rfl (lv_at hl 2 rfl) ?_
        refine lv_iload_n hx hb dX0_toBoil_40 rfl (lv_at hl 3 rfl) ?_
        refine lv_iload_n hx hb dX0_toBoil_41 rfl (lv_at hl 5 rfl) ?_
        refine mx_i (wr := [(km, .inl (cI, 6, .inl kfm))]) (va_runV (As := [.int i0, .int i2]) (rest := []) ⟨hx, hb, hml, hown, hts⟩ (c_X0_water l dC dI cI cZ cK tS aK aV k i0 i2 ks kw kc kwd kbg kme kq km kd ksi ka kk kfq s.heap.size (by first | omega | decide | assumption | trivial)) (cwV 2 hts (gw_v (fun _ h9 => List.mem_cons_of_mem _ h9) wm_393 wm_394 wm_395 wm_14 wm_396) rfl rfl rfl (by decide +kernel) ⟨Nat.le_of_ble_eq_true rfl, Nat.le_of_ble_eq_true rfl⟩) (mx_preV (C := RX0) (T := TX0) (N := 12) (ci := 0) hKx hP hD hS hA [0, 1] (by decide) rfl rfl rfl) rfl rfl hl.1 rfl (lv_room (Nat.le_of_ble_eq_true rfl)) dX0_toBoil_42 ⟨Nat.le_of_ble_eq_true rfl, Nat.le_of_ble_eq_true rfl⟩) hP hD hS hA [0, 1] [2] rfl rfl (by decide) (by decide) (fun r14 u14 H locs hq14 hP hD hS => ?_)
        replace hP : va_P (dC, dI) vwCl [(km, .inl (cI, 6, .inl kfm)), (k, .inr (0, [.ref ks, .ref kw, .ref kc, .int kwd, .int kbg, .int kme, .ref kq, .ref km, .ref kd, .int ksi, .ref ka, .ref kk])), (kq, .inl (cI, 6, .inl kfq))] H := hP
        replace hD : va_D A [(km, .inl (cI, 6, .inl kfm)), (k, .inr (0, [.ref ks, .ref kw, .ref kc, .int kwd, .int kbg, .int kme, .ref kq, .ref km, .ref kd, .int ksi, .ref ka, .ref kk])), (kq, .inl (cI, 6, .inl kfq))] := hD
        have hx14_0 := hq14
        replace hx14_0 : r14 = waF (kfq i0.toNatClampNeg) i2 := hx14_0
        refine lv_iload hx hb dX0_toBoil_45 (lv_at hl 1 rfl) ?_
        refine lv_imul hx hb dX0_toBoil_47 ?_
        refine lv_iload hx hb dX0_toBoil_48 (lv_at hl 0 rfl) ?_
        refine lv_aload_n hx hb dX0_toBoil_50 rfl (lv_at hl 2 rfl) ?_
        refine va_get (D := (dC, dI)) (ci := 0) (v := .ref km) (C := RX0) (T := TX0) (N := 12) hx hb hts hin0 hown hK hP 1 rfl rfl 7 (by decide) hw0 (fun _ h9 => h9) rfl dX0_toBoil_51 ?_
        refine lv_iload_n hx hb dX0_toBoil_54 rfl (lv_at hl 3 rfl) ?_
        refine va_iald hx hb hK hP 0 0 rfl rfl (vin (by omega) (by omega)) dX0_toBoil_55 ?_
        refine lv_topi (fun y15 e15 => ?_)
        obtain rfl : kfm i0.toNatClampNeg = y15 := e15.symm
        refine lv_imul hx hb dX0_toBoil_56 ?_
        refine lv_topi (fun x16 e16 => ?_)
        obtain rfl : x16 = 0 := e16.trans (by simp)
        refine lv_iadd hx hb dX0_toBoil_57 ?_
        refine lv_topi (fun y17 e17 => ?_)
        obtain rfl : r14 * x10 = y17 := (e17.trans (by simp)).symm
        have hP9 := mx_subP (wc := [(k, .inr (0, [.ref ks, .ref kw, .ref kc, .int kwd, .int kbg, .int kme, .ref kq, .ref km, .ref kd, .int ksi, .ref ka, .ref kk])), (kq, .inl (cI, 6, .inl kfq)), (km, .inl (cI, 6, .inl kfm))]) hP [1, 2, 0] rfl
        have hD9 := hD.sub (ws' := [(k, .inr (0, [.ref ks, .ref kw, .ref kc, .int kwd, .int kbg, .int kme, .ref kq, .ref km, .ref kd, .int ksi, .ref ka, .ref kk])), (kq, .inl (cI, 6, .inl kfq)), (km, .inl (cI, 6, .inl kfm))]) [1, 2, 0] (by decide) rfl
        exact W.iret (v := (r14 * x10)) hx hb hr (fun t ht hW => ⟨⟨(r14 * x10), (), rfl, (show (r14 * x10) = tbF (kfq i0.toNatClampNeg) (kfm i0.toNatClampNeg) i1 i2 from (by subst_vars; simp only [tbF, oi1, if_pos c1, if_neg c2, if_neg c11, Int32.zero_mul, Int32.add_zero])), by rw [ht]; exact hP9, hD9⟩, hS.F ht⟩) hS.2.2 dX0_toBoil_58
  · have t1 : (i2 &&& 2).toInt ≠ (0 : Int) := (tne c1)
    obtain ⟨x18, e18⟩ : ∃ y : Int32, y = 4 + i1 + Int32.ofInt 1 := ⟨_, rfl⟩
    refine lv_iinc (v := x18) (lv' := [(4, .int x18), (5, .int 1), (0, .ref k), (1, .int i0), (2, .int i1), (3, .int i2)]) hx hb dX0_toBoil_14 hl (k := 1) rfl e18.symm (by decide) rfl (fun ls hl => ?_)
    refine lv_iload_n hx hb dX0_toBoil_17 rfl (lv_at hl 5 rfl) ?_
    refine lv_iconst (v := 4) hx hb dX0_toBoil_18 (by decide) ?_
    refine lv_iand hx hb dX0_toBoil_19 ?_
    refine lv_if_eq (tgt := 29) hx hb dX0_toBoil_20 (by decide) (fun c19 => ?_) (fun c19 => ?_)
    · have t19 : (i2 &&& 4).toInt = (0 : Int) := (teq c19)
      refine lv_iload_n hx hb dX0_toBoil_29 rfl (lv_at hl 5 rfl) ?_
      refine lv_bipush (v := 8) hx hb dX0_toBoil_30 (by decide) ?_
      refine lv_iand hx hb dX0_toBoil_32 ?_
      refine lv_if_eq (tgt := 39) hx hb dX0_toBoil_33 (by decide) (fun c20 => ?_) (fun c20 => ?_)
      · have t20 : (i2 &&& 8).toInt = (0 : Int) := (teq c20)
        refine lv_aload_n hx hb dX0_toBoil_39 rfl (lv_at hl 2 rfl) ?_
        refine lv_iload_n hx hb dX0_toBoil_40 rfl (lv_at hl 3 rfl) ?_
        refine lv_iload_n hx hb dX0_toBoil_41 rfl (lv_at hl 5 rfl) ?_
        refine mx_i (wr := [(km, .inl (cI, 6, .inl kfm))]) (va_runV (As := [.int i0, .int i2]) (rest := []) ⟨hx, hb, hml, hown, hts⟩ (c_X0_water l dC dI cI cZ cK tS aK aV k i0 i2 ks kw kc kwd kbg kme kq km kd ksi ka kk kfq s.heap.size (by first | omega | decide | assumption | trivial)) (cwV 2 hts (gw_v (fun _ h9 => List.mem_cons_of_mem _ h9) wm_393 wm_394 wm_395 wm_14 wm_396) rfl rfl rfl (by decide +kernel) ⟨Nat.le_of_ble_eq_true rfl, Nat.le_of_ble_eq_true rfl⟩) (mx_preV (C := RX0) (T := TX0) (N := 12) (ci := 0) hKx hP hD hS hA [0, 1] (by decide) rfl rfl rfl) rfl rfl hl.1 rfl (lv_room (Nat.le_of_ble_eq_true rfl)) dX0_toBoil_42 ⟨Nat.le_of_ble_eq_true rfl, Nat.le_of_ble_eq_true rfl⟩) hP hD hS hA [0, 1] [2] rfl rfl (by decide) (by decide) (fun r21 u21 H locs hq21 hP hD hS => ?_)
        replace hP : va_P (dC, dI) vwCl [(km, .inl (cI, 6, .inl kfm)), (k, .inr (0, [.ref ks, .ref kw, .ref kc, .int kwd, .int kbg, .int kme, .ref kq, .ref km, .ref kd, .int ksi, .ref ka, .ref kk])), (kq, .inl (cI, 6, .inl kfq))] H := hP
        replace hD : va_D A [(km, .inl (cI, 6, .inl kfm)), (k, .inr (0, [.ref ks, .ref kw, .ref kc, .int kwd, .int kbg, .int kme, .ref kq, .ref km, .ref kd, .int ksi, .ref ka, .ref kk])), (kq, .inl (cI, 6, .inl kfq))] := hD
        have hx21_0 := hq21
        replace hx21_0 : r21 = waF (kfq i0.toNatClampNeg) i2 := hx21_0
        refine lv_iload hx hb dX0_toBoil_45 (lv_at hl 0 rfl) ?_
        refine lv_imul hx hb dX0_toBoil_47 ?_
        refine lv_iload hx hb dX0_toBoil_48 (lv_at hl 1 rfl) ?_
        refine lv_aload_n hx hb dX0_toBoil_50 rfl (lv_at hl 2 rfl) ?_
        refine va_get (D := (dC, dI)) (ci := 0) (v := .ref km) (C := RX0) (T := TX0) (N := 12) hx hb hts hin0 hown hK hP 1 rfl rfl 7 (by decide) hw0 (fun _ h9 => h9) rfl dX0_toBoil_51 ?_
        refine lv_iload_n hx hb dX0_toBoil_54 rfl (lv_at hl 3 rfl) ?_
        refine va_iald hx hb hK hP 0 0 rfl rfl (vin (by omega) (by omega)) dX0_toBoil_55 ?_
        refine lv_topi (fun y22 e22 => ?_)
        obtain rfl : kfm i0.toNatClampNeg = y22 := e22.symm
        refine lv_imul hx hb dX0_toBoil_56 ?_
        refine lv_iadd hx hb dX0_toBoil_57 ?_
        have hP9 := mx_subP (wc := [(k, .inr (0, [.ref ks, .ref kw, .ref kc, .int kwd, .int kbg, .int kme, .ref kq, .ref km, .ref kd, .int ksi, .ref ka, .ref kk])), (kq, .inl (cI, 6, .inl kfq)), (km, .inl (cI, 6, .inl kfm))]) hP [1, 2, 0] rfl
        have hD9 := hD.sub (ws' := [(k, .inr (0, [.ref ks, .ref kw, .ref kc, .int kwd, .int kbg, .int kme, .ref kq, .ref km, .ref kd, .int ksi, .ref ka, .ref kk])), (kq, .inl (cI, 6, .inl kfq)), (km, .inl (cI, 6, .inl kfm))]) [1, 2, 0] (by decide) rfl
        exact W.iret (v := ((r21 * x18) + (1 * (kfm i0.toNatClampNeg)))) hx hb hr (fun t ht hW => ⟨⟨((r21 * x18) + (1 * (kfm i0.toNatClampNeg))), (), rfl, (show ((r21 * x18) + (1 * (kfm i0.toNatClampNeg))) = tbF (kfq i0.toNatClampNeg) (kfm i0.toNatClampNeg) i1 i2 from (by subst_vars; simp only [tbF, oi1, if_neg c1, if_pos c19, if_pos c20, Int32.zero_mul, Int32.add_zero])), by rw [ht]; exact hP9, hD9⟩, hS.F ht⟩) hS.2.2 dX0_toBoil_58
      · have t20 : (i2 &&& 8).toInt ≠ (0 : Int) := (tne c20)
        refine lv_iconst (v := 0) hx hb dX0_toBoil_36 (by decide) ?_
        refine lv_istore (lv' := [(5, .int 0), (4, .int x18), (0, .ref k), (1, .int i0), (2, .int i1), (3, .int i2)]) hx hb dX0_toBoil_37 hl (by decide) rfl (fun ls hl => ?_)
        refine lv_aload_n hx hb dX0_toBoil_39 rfl (lv_at hl 2 rfl) ?_
        refine lv_iload_n hx hb dX0_toBoil_40 rfl (lv_at hl 3 rfl) ?_
        refine lv_iload_n hx hb dX0_toBoil_41 rfl (lv_at hl 5 rfl) ?_
        refine mx_i (wr := [(km, .inl (cI, 6, .inl kfm))]) (va_runV (As := [.int i0, .int i2]) (rest := []) ⟨hx, hb, hml, hown, hts⟩ (c_X0_water l dC dI cI cZ cK tS aK aV k i0 i2 ks kw kc kwd kbg kme kq km kd ksi ka kk kfq s.heap.size (by first | omega | decide | assumption | trivial)) (cwV 2 hts (gw_v (fun _ h9 => List.mem_cons_of_mem _ h9) wm_393 wm_394 wm_395 wm_14 wm_396) rfl rfl rfl (by decide +kernel) ⟨Nat.le_of_ble_eq_true rfl, Nat.le_of_ble_eq_true rfl⟩) (mx_preV (C := RX0) (T := TX0) (N := 12) (ci := 0) hKx hP hD hS hA [0, 1] (by decide) rfl rfl rfl) rfl rfl hl.1 rfl (lv_room (Nat.le_of_ble_eq_true rfl)) dX0_toBoil_42 ⟨Nat.le_of_ble_eq_true rfl, Nat.le_of_ble_eq_true rfl⟩) hP hD hS hA [0, 1] [2] rfl rfl (by decide) (by decide) (fun r23 u23 H locs hq23 hP hD hS => ?_)
        replace hP : va_P (dC, dI) vwCl [(km, .inl (cI, 6, .inl kfm)), (k, .inr (0, [.ref ks, .ref kw, .ref kc, .int kwd, .int kbg, .int kme, .ref kq, .ref km, .ref kd, .int ksi, .ref ka, .ref kk])), (kq, .inl (cI, 6, .inl kfq))] H := hP
        replace hD : va_D A [(km, .inl (cI, 6, .inl kfm)), (k, .inr (0, [.ref ks, .ref kw, .ref kc, .int kwd, .int kbg, .int kme, .ref kq, .ref km, .ref kd, .int ksi, .ref ka, .ref kk])), (kq, .inl (cI, 6, .inl kfq))] := hD
        have hx23_0 := hq23
        replace hx23_0 : r23 = waF (kfq i0.toNatClampNeg) i2 := hx23_0
        refine lv_iload hx hb dX0_toBoil_45 (lv_at hl 1 rfl) ?_
        refine lv_imul hx hb dX0_toBoil_47 ?_
        refine lv_iload hx hb dX0_toBoil_48 (lv_at hl 0 rfl) ?_
        refine lv_aload_n hx hb dX0_toBoil_50 rfl (lv_at hl 2 rfl) ?_
        refine va_get (D := (dC, dI)) (ci := 0) (v := .ref km) (C := RX0) (T := TX0) (N := 12) hx hb hts hin0 hown hK hP 1 rfl rfl 7 (by decide) hw0 (fun _ h9 => h9) rfl dX0_toBoil_51 ?_
        refine lv_iload_n hx hb dX0_toBoil_54 rfl (lv_at hl 3 rfl) ?_
        refine va_iald hx hb hK hP 0 0 rfl rfl (vin (by omega) (by omega)) dX0_toBoil_55 ?_
        refine lv_topi (fun y24 e24 => ?_)
        obtain rfl : kfm i0.toNatClampNeg = y24 := e24.symm
        refine lv_imul hx hb dX0_toBoil_56 ?_
        refine lv_topi (fun x25 e25 => ?_)
        obtain rfl : x25 = 0 := e25.trans (by simp)
        refine lv_iadd hx hb dX0_toBoil_57 ?_
        refine lv_topi (fun y26 e26 => ?_)
        obtain rfl : r23 * x18 = y26 := (e26.trans (by simp)).symm
        have hP9 := mx_subP (wc := [(k, .inr (0, [.ref ks, .ref kw, .ref kc, .int kwd, .int kbg, .int kme, .ref kq, .ref km, .ref kd, .int ksi, .ref ka, .ref kk])), (kq, .inl (cI, 6, .inl kfq)), (km, .inl (cI, 6, .inl kfm))]) hP [1, 2, 0] rfl
        have hD9 := hD.sub (ws' := [(k, .inr (0, [.ref ks, .ref kw, .ref kc, .int kwd, .int kbg, .int kme, .ref kq, .ref km, .ref kd, .int ksi, .ref ka, .ref kk])), (kq, .inl (cI, 6, .inl kfq)), (km, .inl (cI, 6, .inl kfm))]) [1, 2, 0] (by decide) rfl
        exact W.iret (v := (r23 * x18)) hx hb hr (fun t ht hW => ⟨⟨(r23 * x18), (), rfl, (show (r23 * x18) = tbF (kfq i0.toNatClampNeg) (kfm i0.toNatClampNeg) i1 i2 from (by subst_vars; simp only [tbF, oi1, if_neg c1, if_pos c19, if_neg c20, Int32.zero_mul, Int32.add_zero])), by rw [ht]; exact hP9, hD9⟩, hS.F ht⟩) hS.2.2 dX0_toBoil_58
    · have t19 : (i2 &&& 4).toInt ≠ (0 : Int) := (tne c19)
      obtain ⟨x27, e27⟩ : ∃ y : Int32, y = x18 + Int32.ofInt 1 := ⟨_, rfl⟩
      refine lv_iinc (v := x27) (lv' := [(4, .int x27), (5, .int 1), (0, .ref k), (1, .int i0), (2, .int i1), (3, .int i2)]) hx hb dX0_toBoil_23 hl (k := 0) rfl e27.symm (by decide) rfl (fun ls hl => ?_)
      refine lv_iconst (v := 2) hx hb dX0_toBoil_26 (by decide) ?_
      refine lv_istore (lv' := [(5, .int 2), (4, .int x27), (0, .ref k), (1, .int i0), (2, .int i1), (3, .int i2)]) hx hb dX0_toBoil_27 hl (by decide) rfl (fun ls hl => ?_)
      refine lv_iload_n hx hb dX0_toBoil_29 rfl (lv_at hl 5 rfl) ?_
      refine lv_bipush (v := 8) hx hb dX0_toBoil_30 (by decide) ?_
      refine lv_iand hx hb dX0_toBoil_32 ?_
      refine lv_if_eq (tgt := 39) hx hb dX0_toBoil_33 (by decide) (fun c28 => ?_) (fun c28 => ?_)
      · have t28 : (i2 &&& 8).toInt = (0 : Int) := (teq c28)
        refine lv_aload_n hx hb dX0_toBoil_39 rfl (lv_at hl 2 rfl) ?_
        refine lv_iload_n hx hb dX0_toBoil_40 rfl (lv_at hl 3 rfl) ?_
        refine lv_iload_n hx hb dX0_toBoil_41 rfl (lv_at hl 5 rfl) ?_
        refine mx_i (wr := [(km, .inl (cI, 6, .inl kfm))]) (va_runV (As := [.int i0, .int i2]) (rest := []) ⟨hx, hb, hml, hown, hts⟩ (c_X0_water l dC dI cI cZ cK tS aK aV k i0 i2 ks kw kc kwd kbg kme kq km kd ksi ka kk kfq s.heap.size (by first | omega | decide | assumption | trivial)) (cwV 2 hts (gw_v (fun _ h9 => List.mem_cons_of_mem _ h9) wm_393 wm_394 wm_395 wm_14 wm_396) rfl rfl rfl (by decide +kernel) ⟨Nat.le_of_ble_eq_true rfl, Nat.le_of_ble_eq_true rfl⟩) (mx_preV (C := RX0) (T := TX0) (N := 12) (ci := 0) hKx hP hD hS hA [0, 1] (by decide) rfl rfl rfl) rfl rfl hl.1 rfl (lv_room (Nat.le_of_ble_eq_true rfl)) dX0_toBoil_42 ⟨Nat.le_of_ble_eq_true rfl, Nat.le_of_ble_eq_true rfl⟩) hP hD hS hA [0, 1] [2] rfl rfl (by decide) (by decide) (fun r29 u29 H locs hq29 hP hD hS => ?_)
        replace hP : va_P (dC, dI) vwCl [(km, .inl (cI, 6, .inl kfm)), (k, .inr (0, [.ref ks, .ref kw, .ref kc, .int kwd, .int kbg, .int kme, .ref kq, .ref km, .ref kd, .int ksi, .ref ka, .ref kk])), (kq, .inl (cI, 6, .inl kfq))] H := hP
        replace hD : va_D A [(km, .inl (cI, 6, .inl kfm)), (k, .inr (0, [.ref ks, .ref kw, .ref kc, .int kwd, .int kbg, .int kme, .ref kq, .ref km, .ref kd, .int ksi, .ref ka, .ref kk])), (kq, .inl (cI, 6, .inl kfq))] := hD
        have hx29_0 := hq29
        replace hx29_0 : r29 = waF (kfq i0.toNatClampNeg) i2 := hx29_0
        refine lv_iload hx hb dX0_toBoil_45 (lv_at hl 1 rfl) ?_
        refine lv_imul hx hb dX0_toBoil_47 ?_
        refine lv_iload hx hb dX0_toBoil_48 (lv_at hl 0 rfl) ?_
        refine lv_aload_n hx hb dX0_toBoil_50 rfl (lv_at hl 2 rfl) ?_
        refine va_get (D := (dC, dI)) (ci := 0) (v := .ref km) (C := RX0) (T := TX0) (N := 12) hx hb hts hin0 hown hK hP 1 rfl rfl 7 (by decide) hw0 (fun _ h9 => h9) rfl dX0_toBoil_51 ?_
        refine lv_iload_n hx hb dX0_toBoil_54 rfl (lv_at hl 3 rfl) ?_
        refine va_iald hx hb hK hP 0 0 rfl rfl (vin (by omega) (by omega)) dX0_toBoil_55 ?_
        refine lv_topi (fun y30 e30 => ?_)
        obtain rfl : kfm i0.toNatClampNeg = y30 := e30.symm
        refine lv_imul hx hb dX0_toBoil_56 ?_
        refine lv_iadd hx hb dX0_toBoil_57 ?_
        have hP9 := mx_subP (wc := [(k, .inr (0, [.ref ks, .ref kw, .ref kc, .int kwd, .int kbg, .int kme, .ref kq, .ref km, .ref kd, .int ksi, .ref ka, .ref kk])), (kq, .inl (cI, 6, .inl kfq)), (km, .inl (cI, 6, .inl kfm))]) hP [1, 2, 0] rfl
        have hD9 := hD.sub (ws' := [(k, .inr (0, [.ref ks, .ref kw, .ref kc, .int kwd, .int kbg, .int kme, .ref kq, .ref km, .ref kd, .int ksi, .ref ka, .ref kk])), (kq, .inl (cI, 6, .inl kfq)), (km, .inl (cI, 6, .inl kfm))]) [1, 2, 0] (by decide) rfl
        exact W.iret (v := ((r29 * x27) + (2 * (kfm i0.toNatClampNeg)))) hx hb hr (fun t ht hW => ⟨⟨((r29 * x27) + (2 * (kfm i0.toNatClampNeg))), (), rfl, (show ((r29 * x27) + (2 * (kfm i0.toNatClampNeg))) = tbF (kfq i0.toNatClampNeg) (kfm i0.toNatClampNeg) i1 i2 from (by subst_vars; simp only [tbF, oi1, if_neg c1, if_neg c19, if_pos c28, Int32.zero_mul, Int32.add_zero])), by rw [ht]; exact hP9, hD9⟩, hS.F ht⟩) hS.2.2 dX0_toBoil_58
      · have t28 : (i2 &&& 8).toInt ≠ (0 : Int) := (tne c28)
        refine lv_iconst (v := 0) hx hb dX0_toBoil_36 (by decide) ?_
        refine lv_istore (lv' := [(5, .int 0), (4, .int x27), (0, .ref k), (1, .int i0), (2, .int i1), (3, .int i2)]) hx hb dX0_toBoil_37 hl (by decide) rfl (fun ls hl => ?_)
        refine lv_aload_n hx hb dX0_toBoil_39 rfl (lv_at hl 2 rfl) ?_
        refine lv_iload_n hx hb dX0_toBoil_40 rfl (lv_at hl 3 rfl) ?_
        refine lv_iload_n hx hb dX0_toBoil_41 rfl (lv_at hl 5 rfl) ?_
        refine mx_i (wr := [(km, .inl (cI, 6, .inl kfm))]) (va_runV (As := [.int i0, .int i2]) (rest := []) ⟨hx, hb, hml, hown, hts⟩ (c_X0_water l dC dI cI cZ cK tS aK aV k i0 i2 ks kw kc kwd kbg kme kq km kd ksi ka kk kfq s.heap.size (by first | omega | decide | assumption | trivial)) (cwV 2 hts (gw_v (fun _ h9 => List.mem_cons_of_mem _ h9) wm_393 wm_394 wm_395 wm_14 wm_396) rfl rfl rfl (by decide +kernel) ⟨Nat.le_of_ble_eq_true rfl, Nat.le_of_ble_eq_true rfl⟩) (mx_preV (C := RX0) (T := TX0) (N := 12) (ci := 0) hKx hP hD hS hA [0, 1] (by decide) rfl rfl rfl) rfl rfl hl.1 rfl (lv_room (Nat.le_of_ble_eq_true rfl)) dX0_toBoil_42 ⟨Nat.le_of_ble_eq_true rfl, Nat.le_of_ble_eq_true rfl⟩) hP hD hS hA [0, 1] [2] rfl rfl (by decide) (by decide) (fun r31 u31 H locs hq31 hP hD hS => ?_)
        replace hP : va_P (dC, dI) vwCl [(km, .inl (cI, 6, .inl kfm)), (k, .inr (0, [.ref ks, .ref kw, .ref kc, .int kwd, .int kbg, .int kme, .ref kq, .ref km, .ref kd, .int ksi, .ref ka, .ref kk])), (kq, .inl (cI, 6, .inl kfq))] H := hP
        replace hD : va_D A [(km, .inl (cI, 6, .inl kfm)), (k, .inr (0, [.ref ks, .ref kw, .ref kc, .int kwd, .int kbg, .int kme, .ref kq, .ref km, .ref kd, .int ksi, .ref ka, .ref kk])), (kq, .inl (cI, 6, .inl kfq))] := hD
        have hx31_0 := hq31
        replace hx31_0 : r31 = waF (kfq i0.toNatClampNeg) i2 := hx31_0
        refine lv_iload hx hb dX0_toBoil_45 (lv_at hl 1 rfl) ?_
        refine lv_imul hx hb dX0_toBoil_47 ?_
        refine lv_iload hx hb dX0_toBoil_48 (lv_at hl 0 rfl) ?_
        refine lv_aload_n hx hb dX0_toBoil_50 rfl (lv_at hl 2 rfl) ?_
        refine va_get (D := (dC, dI)) (ci := 0) (v := .ref km) (C := RX0) (T := TX0) (N := 12) hx hb hts hin0 hown hK hP 1 rfl rfl 7 (by decide) hw0 (fun _ h9 => h9) rfl dX0_toBoil_51 ?_
        refine lv_iload_n hx hb dX0_toBoil_54 rfl (lv_at hl 3 rfl) ?_
        refine va_iald hx hb hK hP 0 0 rfl rfl (vin (by omega) (by omega)) dX0_toBoil_55 ?_
        refine lv_topi (fun y32 e32 => ?_)
        obtain rfl : kfm i0.toNatClampNeg = y32 := e32.symm
        refine lv_imul hx hb dX0_toBoil_56 ?_
        refine lv_topi (fun x33 e33 => ?_)
        obtain rfl : x33 = 0 := e33.trans (by simp)
        refine lv_iadd hx hb dX0_toBoil_57 ?_
        refine lv_topi (fun y34 e34 => ?_)
        obtain rfl : r31 * x27 = y34 := (e34.trans (by simp)).symm
        have hP9 := mx_subP (wc := [(k, .inr (0, [.ref ks, .ref kw, .ref kc, .int kwd, .int kbg, .int kme, .ref kq, .ref km, .ref kd, .int ksi, .ref ka, .ref kk])), (kq, .inl (cI, 6, .inl kfq)), (km, .inl (cI, 6, .inl kfm))]) hP [1, 2, 0] rfl
        have hD9 := hD.sub (ws' := [(k, .inr (0, [.ref ks, .ref kw, .ref kc, .int kwd, .int kbg, .int kme, .ref kq, .ref km, .ref kd, .int ksi, .ref ka, .ref kk])), (kq, .inl (cI, 6, .inl kfq)), (km, .inl (cI, 6, .inl kfm))]) [1, 2, 0] (by decide) rfl
        exact W.iret (v := (r31 * x27)) hx hb hr (fun t ht hW => ⟨⟨(r31 * x27), (), rfl, (show (r31 * x27) = tbF (kfq i0.toNatClampNeg) (kfm i0.toNatClampNeg) i1 i2 from (by subst_vars; simp only [tbF, oi1, if_neg c1, if_neg c19, if_neg c28, Int32.zero_mul, Int32.add_zero])), by rw [ht]; exact hP9, hD9⟩, hS.F ht⟩) hS.2.2 dX0_toBoil_58
set_option maxHeartbeats 4000000 in
set_option maxRecDepth 100000 in
theorem c_X0_byWind (l : Launch) (dC : Nat → ClassId) (dI : Nat → Nat → Nat) (cI cZ cK : ClassId) (tS : Nat) (aK aV : Nat → Nat) (k : Nat) (i0 : Int32) (i1 : Int32) (i2 : Int32) (ks : Nat) (kw : Nat) (kc : Nat) (kwd : Int32) (kbg : Int32) (kme : Int32) (kq : Nat) (km : Nat) (kd : Nat) (ksi : Int32) (ka : Nat) (kk : Nat) (kfq : Nat → Int32) (sz : Nat) (h_i0 : 0 ≤ i0.toInt ∧ i0.toInt ≤ 5) : Ci l yX0_byWind (wq yX0_byWind cX0_byWind 4 (some .int)) ({ frames := 1, cells := 0, slots := 0, locals := 23 }) dC dI cI cZ cK tS aK aV [.ref k, .int i0, .int i1, .int i2] sz [(k, .inr (0, [.ref ks, .ref kw, .ref kc, .int kwd, .int kbg, .int kme, .ref kq, .ref km, .ref kd, .int ksi, .ref ka, .ref kk])), (kq, .inl (cI, 6, .inl kfq))] (fun (r : Int32) (u : Unit) => True) (fun _ => [(k, .inr (0, [.ref ks, .ref kw, .ref kc, .int kwd, .int kbg, .int kme, .ref kq, .ref km, .ref kd, .int ksi, .ref ka, .ref kk])), (kq, .inl (cI, 6, .inl kfq))]) := by
  refine Met.ofW (cc := cX0_byWind) (maxL := 4) (ret := (some .int)) (by decide) rfl ?_
  intro p e s m args below meth c s₁ B hml hv
  obtain ⟨rfl, hsz, hP, hKx, hD0⟩ := hv
  have hx := B.exec
  have hb := B.bytes
  have hr := B.returns
  have hts := atoms_spec (ws := wq yX0_byWind cX0_byWind 4 (some .int)) B.pre
  have hown : s.vm.findClass RX0 = some m.cls := findClass_of_methodNamed B.named
  have hlocks := B.notSynchronized
  subst hsz
  have hD := hD0.self (sz := s.heap.size)
  generalize hAe : va_A [(k, .inr (0, [.ref ks, .ref kw, .ref kc, .int kwd, .int kbg, .int kme, .ref kq, .ref km, .ref kd, .int ksi, .ref ka, .ref kk])), (kq, .inl (cI, 6, .inl kfq))] s.heap.size = A at hD hKx ⊢
  have hA : ∀ q : Nat, s.heap.size ≤ q → A q := fun q h => by rw [← hAe]; exact Or.inr h
  have hS : va_S A s.heap s.heap [] := va_S.rf
  have hP : va_P (dC, dI) vwCl [(k, .inr (0, [.ref ks, .ref kw, .ref kc, .int kwd, .int kbg, .int kme, .ref kq, .ref km, .ref kd, .int ksi, .ref ka, .ref kk])), (kq, .inl (cI, 6, .inl kfq))] s.heap := hP
  have hl := lv_entry ([.ref k, .int i0, .int i1, .int i2]) (n := 4) (Nat.le_of_ble_eq_true rfl)
  rw [lg_entry_eq]
  generalize (lg_sl ([.ref k, .int i0, .int i1, .int i2]) ++ List.replicate (4 - (lg_sl ([.ref k, .int i0, .int i1, .int i2])).length) Slot.unset).toArray = ls at hl ⊢
  have hl : lv_has ls 4 [(0, .ref k), (1, .int i0), (2, .int i1), (3, .int i2)] := hl
  have hK := hKx.1
  refine lv_aload_n hx hb dX0_byWind_0 rfl (lv_at hl 0 rfl) ?_
  refine lv_iload_n hx hb dX0_byWind_1 rfl (lv_at hl 1 rfl) ?_
  refine lv_iload_n hx hb dX0_byWind_2 rfl (lv_at hl 3 rfl) ?_
  refine mx_i (wr := []) (va_runV (As := [.int i0, .int i2]) (rest := []) ⟨hx, hb, hml, hown, hts⟩ (c_X0_water l dC dI cI cZ cK tS aK aV k i0 i2 ks kw kc kwd kbg kme kq km kd ksi ka kk kfq s.heap.size (by first | omega | decide | assumption | trivial)) (cwV 2 hts (gw_v (fun _ h9 => List.mem_cons_of_mem _ h9) wm_393 wm_394 wm_395 wm_14 wm_396) rfl rfl rfl (by decide +kernel) ⟨Nat.le_of_ble_eq_true rfl, Nat.le_of_ble_eq_true rfl⟩) (mx_preV (C := RX0) (T := TX0) (N := 12) (ci := 0) hKx hP hD hS hA [0, 1] (by decide) rfl rfl rfl) rfl rfl hl.1 rfl (lv_room (Nat.le_of_ble_eq_true rfl)) dX0_byWind_3 ⟨Nat.le_of_ble_eq_true rfl, Nat.le_of_ble_eq_true rfl⟩) hP hD hS hA [0, 1] [] rfl rfl (by decide) (by decide) (fun r1 u1 H locs hq1 hP hD hS => ?_)
  replace hP : va_P (dC, dI) vwCl [(k, .inr (0, [.ref ks, .ref kw, .ref kc, .int kwd, .int kbg, .int kme, .ref kq, .ref km, .ref kd, .int ksi, .ref ka, .ref kk])), (kq, .inl (cI, 6, .inl kfq))] H := hP
  replace hD : va_D A [(k, .inr (0, [.ref ks, .ref kw, .ref kc, .int kwd, .int kbg, .int kme, .ref kq, .ref km, .ref kd, .int ksi, .ref ka, .ref kk])), (kq, .inl (cI, 6, .inl kfq))] := hD
  have hx1_0 := hq1
  replace hx1_0 : r1 = waF (kfq i0.toNatClampNeg) i2 := hx1_0
  refine lv_iload_n hx hb dX0_byWind_6 rfl (lv_at hl 2 rfl) ?_
  refine lv_imul hx hb dX0_byWind_7 ?_
  refine lv_topi (fun x2 e2 => ?_)
  have hP9 := mx_subP (wc := [(k, .inr (0, [.ref ks, .ref kw, .ref kc, .int kwd, .int kbg, .int kme, .ref kq, .ref km, .ref kd, .int ksi, .ref ka, .ref kk])), (kq, .inl (cI, 6, .inl kfq))]) hP [0, 1] rfl
  have hD9 := hD.sub (ws' := [(k, .inr (0, [.ref ks, .ref kw, .ref kc, .int kwd, .int kbg, .int kme, .ref kq, .ref km, .ref kd, .int ksi, .ref ka, .ref kk])), (kq, .inl (cI, 6, .inl kfq))]) [0, 1] (by decide) rfl
  exact W.iret (v := x2) hx hb hr (fun t ht hW => ⟨⟨x2, (), rfl, trivial, by rw [ht]; exact hP9, hD9⟩, hS.F ht⟩) hS.2.2 dX0_byWind_8
set_option maxHeartbeats 4000000 in
set_option maxRecDepth 100000 in
theorem c_X0_toBoilOn (l : Launch) (dC : Nat → ClassId) (dI : Nat → Nat → Nat) (cI cZ cK : ClassId) (tS : Nat) (aK aV : Nat → Nat) (k : Nat) (i0 : Int32) (i1 : Int32) (i2 : Int32) (ks : Nat) (kw : Nat) (kc : Nat) (kwd : Int32) (kbg : Int32) (kme : Int32) (kq : Nat) (km : Nat) (kd : Nat) (ksi : Int32) (ka : Nat) (kk : Nat) (kfs : Nat → Int32) (kfw : Nat → Int32) (kfq : Nat → Int32) (kfm : Nat → Int32) (sz : Nat) (h_kfs_4 : 0 ≤ (kfs 4).toInt ∧ (kfs 4).toInt ≤ 13) (h_kfw : rg kfw 14 0 4) (h_i0 : 0 ≤ i0.toInt ∧ i0.toInt ≤ 5) (h_i1 : 0 ≤ i1.toInt ∧ i1.toInt ≤ 13) : Ci l yX0_toBoilOn (wq yX0_toBoilOn cX0_toBoilOn 4 (some .int)) ({ frames := 2, cells := 0, slots := 0, locals := 48 }) dC dI cI cZ cK tS aK aV [.ref k, .int i0, .int i1, .int i2] sz [(k, .inr (0, [.ref ks, .ref kw, .ref kc, .int kwd, .int kbg, .int kme, .ref kq, .ref km, .ref kd, .int ksi, .ref ka, .ref kk])), (ks, .inl (cI, 5, .inl kfs)), (kw, .inl (cI, 14, .inl kfw)), (kq, .inl (cI, 6, .inl kfq)), (km, .inl (cI, 6, .inl kfm))] (fun (r : Int32) (u : Unit) => (r = tbF (kfq i0.toNatClampNeg) (kfm i0.toNatClampNeg) (woF (kfs 3) (kfw i1.toNatClampNeg)) i2)) (fun _ => [(k, .inr (0, [.ref ks, .ref kw, .ref kc, .int kwd, .int kbg, .int kme, .ref kq, .ref km, .ref kd, .int ksi, .ref ka, .ref kk])), (ks, .inl (cI, 5, .inl kfs)), (kw, .inl (cI, 14, .inl kfw)), (kq, .inl (cI, 6, .inl kfq)), (km, .inl (cI, 6, .inl kfm))]) := by
  refine Met.ofW (cc := cX0_toBoilOn) (maxL := 4) (ret := (some .int)) (by decide) rfl ?_
  intro p e s m args below meth c s₁ B hml hv
  obtain ⟨rfl, hsz, hP, hKx, hD0⟩ := hv
  have hx := B.exec
  have hb := B.bytes
  have hr := B.returns
  have hts := atoms_spec (ws := wq yX0_toBoilOn cX0_toBoilOn 4 (some .int)) B.pre
  have hown : s.vm.findClass RX0 = some m.cls := findClass_of_methodNamed B.named
  have hlocks := B.notSynchronized
  subst hsz
  have hD := hD0.self (sz := s.heap.size)
  generalize hAe : va_A [(k, .inr (0, [.ref ks, .ref kw, .ref kc, .int kwd, .int kbg, .int kme, .ref kq, .ref km, .ref kd, .int ksi, .ref ka, .ref kk])), (ks, .inl (cI, 5, .inl kfs)), (kw, .inl (cI, 14, .inl kfw)), (kq, .inl (cI, 6, .inl kfq)), (km, .inl (cI, 6, .inl kfm))] s.heap.size = A at hD hKx ⊢
  have hA : ∀ q : Nat, s.heap.size ≤ q → A q := fun q h => by rw [← hAe]; exact Or.inr h
  have hS : va_S A s.heap s.heap [] := va_S.rf
  have hP : va_P (dC, dI) vwCl [(k, .inr (0, [.ref ks, .ref kw, .ref kc, .int kwd, .int kbg, .int kme, .ref kq, .ref km, .ref kd, .int ksi, .ref ka, .ref kk])), (ks, .inl (cI, 5, .inl kfs)), (kw, .inl (cI, 14, .inl kfw)), (kq, .inl (cI, 6, .inl kfq)), (km, .inl (cI, 6, .inl kfm))] s.heap := hP
  have hl := lv_entry ([.ref k, .int i0, .int i1, .int i2]) (n := 4) (Nat.le_of_ble_eq_true rfl)
  rw [lg_entry_eq]
  generalize (lg_sl ([.ref k, .int i0, .int i1, .int i2]) ++ List.replicate (4 - (lg_sl ([.ref k, .int i0, .int i1, .int i2])).length) Slot.unset).toArray = ls at hl ⊢
  have hl : lv_has ls 4 [(0, .ref k), (1, .int i0), (2, .int i1), (3, .int i2)] := hl
  have hK := hKx.1
  refine lv_aload_n hx hb dX0_toBoilOn_0 rfl (lv_at hl 0 rfl) ?_
  refine lv_iload_n hx hb dX0_toBoilOn_1 rfl (lv_at hl 1 rfl) ?_
  refine lv_aload_n hx hb dX0_toBoilOn_2 rfl (lv_at hl 0 rfl) ?_
  refine lv_iload_n hx hb dX0_toBoilOn_3 rfl (lv_at hl 2 rfl) ?_
  refine lv_iconst (v := 0) hx hb dX0_toBoilOn_4 (by decide) ?_
  refine mx_i (wr := [(kq, .inl (cI, 6, .inl kfq)), (km, .inl (cI, 6, .inl kfm))]) (va_runV (As := [.int i1, .int 0]) (rest := [.int i0, .ref k]) ⟨hx, hb, hml, hown, hts⟩ (c_X0_windOn l dC dI cI cZ cK tS aK aV k i1 0 ks kw kc kwd kbg kme kq km kd ksi ka kk kfs kfw s.heap.size (by have z8 : (0 : Int32).toInt = 0 := rfl; first | omega | decide | assumption | trivial) h_kfw (by have z8 : (0 : Int32).toInt = 0 := rfl; first | omega | decide | assumption | trivial) (by have z8 : (0 : Int32).toInt = 0 := rfl; first | omega | decide | assumption | trivial)) (cwV 2 hts (gw_v (fun _ h9 => List.mem_cons_of_mem _ h9) wm_591 wm_384 wm_385 wm_14 wm_386) rfl rfl rfl (by decide +kernel) ⟨Nat.le_of_ble_eq_true rfl, Nat.le_of_ble_eq_true rfl⟩) (mx_preV (C := RX0) (T := TX0) (N := 12) (ci := 0) hKx hP hD hS hA [0, 1, 2] (by decide) rfl rfl rfl) rfl rfl hl.1 rfl (lv_room (Nat.le_of_ble_eq_true rfl)) dX0_toBoilOn_5 ⟨Nat.le_of_ble_eq_true rfl, Nat.le_of_ble_eq_true rfl⟩) hP hD hS hA [0, 1, 2] [3, 4] rfl rfl (by decide) (by decide) (fun r1 u1 H locs hq1 hP hD hS => ?_)
  replace hP : va_P (dC, dI) vwCl [(kq, .inl (cI, 6, .inl kfq)), (km, .inl (cI, 6, .inl kfm)), (k, .inr (0, [.ref ks, .ref kw, .ref kc, .int kwd, .int kbg, .int kme, .ref kq, .ref km, .ref kd, .int ksi, .ref ka, .ref kk])), (ks, .inl (cI, 5, .inl kfs)), (kw, .inl (cI, 14, .inl kfw))] H := hP
  replace hD : va_D A [(kq, .inl (cI, 6, .inl kfq)), (km, .inl (cI, 6, .inl kfm)), (k, .inr (0, [.ref ks, .ref kw, .ref kc, .int kwd, .int kbg, .int kme, .ref kq, .ref km, .ref kd, .int ksi, .ref ka, .ref kk])), (ks, .inl (cI, 5, .inl kfs)), (kw, .inl (cI, 14, .inl kfw))] := hD
  obtain ⟨hx1_0, hr1⟩ := hq1
  replace hx1_0 : (0 : Int32).toInt ≠ 0 ∨ r1 = woF (kfs 3) (kfw i1.toNatClampNeg) := hx1_0
  refine lv_iload_n hx hb dX0_toBoilOn_8 rfl (lv_at hl 3 rfl) ?_
  refine mx_i (wr := [(ks, .inl (cI, 5, .inl kfs)), (kw, .inl (cI, 14, .inl kfw))]) (va_runV (As := [.int i0, .int r1, .int i2]) (rest := []) ⟨hx, hb, hml, hown, hts⟩ (c_X0_toBoil l dC dI cI cZ cK tS aK aV k i0 r1 i2 ks kw kc kwd kbg kme kq km kd ksi ka kk kfq kfm H.size (by first | omega | decide | assumption | trivial)) (cwV 3 hts (gw_v (fun _ h9 => List.mem_cons_of_mem _ h9) wm_592 wm_390 wm_391 wm_14 wm_392) rfl rfl rfl (by decide +kernel) ⟨Nat.le_of_ble_eq_true rfl, Nat.le_of_ble_eq_true rfl⟩) (mx_preV (C := RX0) (T := TX0) (N := 12) (ci := 0) hKx hP hD hS hA [2, 0, 1] (by decide) rfl rfl rfl) rfl rfl hl.1 rfl (lv_room (Nat.le_of_ble_eq_true rfl)) dX0_toBoilOn_9 ⟨Nat.le_of_ble_eq_true rfl, Nat.le_of_ble_eq_true rfl⟩) hP hD hS hA [2, 0, 1] [3, 4] rfl rfl (by decide) (by decide) (fun r2 u2 H locs hq2 hP hD hS => ?_)
  replace hP : va_P (dC, dI) vwCl [(ks, .inl (cI, 5, .inl kfs)), (kw, .inl (cI, 14, .inl kfw)), (k, .inr (0, [.ref ks, .ref kw, .ref kc, .int kwd, .int kbg, .int kme, .ref kq, .ref km, .ref kd, .int ksi, .ref ka, .ref kk])), (kq, .inl (cI, 6, .inl kfq)), (km, .inl (cI, 6, .inl kfm))] H := hP
  replace hD : va_D A [(ks, .inl (cI, 5, .inl kfs)), (kw, .inl (cI, 14, .inl kfw)), (k, .inr (0, [.ref ks, .ref kw, .ref kc, .int kwd, .int kbg, .int kme, .ref kq, .ref km, .ref kd, .int ksi, .ref ka, .ref kk])), (kq, .inl (cI, 6, .inl kfq)), (km, .inl (cI, 6, .inl kfm))] := hD
  have hx2_0 := hq2
  replace hx2_0 : r2 = tbF (kfq i0.toNatClampNeg) (kfm i0.toNatClampNeg) r1 i2 := hx2_0
  have hP9 := mx_subP (wc := [(k, .inr (0, [.ref ks, .ref kw, .ref kc, .int kwd, .int kbg, .int kme, .ref kq, .ref km, .ref kd, .int ksi, .ref ka, .ref kk])), (ks, .inl (cI, 5, .inl kfs)), (kw, .inl (cI, 14, .inl kfw)), (kq, .inl (cI, 6, .inl kfq)), (km, .inl (cI, 6, .inl kfm))]) hP [2, 0, 1, 3, 4] rfl
  have hD9 := hD.sub (ws' := [(k, .inr (0, [.ref ks, .ref kw, .ref kc, .int kwd, .int kbg, .int kme, .ref kq, .ref km, .ref kd, .int ksi, .ref ka, .ref kk])), (ks, .inl (cI, 5, .inl kfs)), (kw, .inl (cI, 14, .inl kfw)), (kq, .inl (cI, 6, .inl kfq)), (km, .inl (cI, 6, .inl kfm))]) [2, 0, 1, 3, 4] (by decide) rfl
  exact W.iret (v := r2) hx hb hr (fun t ht hW => ⟨⟨r2, (), rfl, (show r2 = tbF (kfq i0.toNatClampNeg) (kfm i0.toNatClampNeg) (woF (kfs 3) (kfw i1.toNatClampNeg)) i2 from (by rw [hx2_0, hx1_0.resolve_left (fun h9 => h9 rfl)])), by rw [ht]; exact hP9, hD9⟩, hS.F ht⟩) hS.2.2 dX0_toBoilOn_12
set_option maxHeartbeats 4000000 in
set_option maxRecDepth 100000 in
theorem c_X1_ready (l : Launch) (dC : Nat → ClassId) (dI : Nat → Nat → Nat) (cI cZ cK : ClassId) (tS : Nat) (aK aV : Nat → Nat) (j : Nat) (i0 : Int32) (k : Nat) (d : Nat) (jd : Nat) (jb : Nat) (jw : Nat) (jl : Nat) (jbad : Int32) (jwhy : Int32) (jleft : Int32) (jday : Int32) (jwarmDay : Int32) (jbagDays : Int32) (jburnt : Int32) (jboiled : Int32) (jfd : Nat → Int32) (jfb : Nat → Int32) (jfw : Nat → Int32) (ds : Nat) (dsz : Int32) (dk : Nat) (dw : Nat) (dac : Int32) (dwr : Int32) (dfk : Nat → Int32) (dfw : Nat → Int32) (ks : Nat) (kw : Nat) (kc : Nat) (kwd : Int32) (kbg : Int32) (kme : Int32) (kq : Nat) (km : Nat) (kd : Nat) (ksi : Int32) (ka : Nat) (kk : Nat) (kfs : Nat → Int32) (kfw : Nat → Int32) (kfq : Nat → Int32) (kfm : Nat → Int32) (sz : Nat) (h_jfd : rg jfd 60 0 13) (h_kfs_4 : 0 ≤ (kfs 4).toInt ∧ (kfs 4).toInt ≤ 13) (h_kfw : rg kfw 14 0 4) (h_i0 : 0 ≤ i0.toInt ∧ i0.toInt ≤ 59) (h_jday : 0 ≤ jday.toInt ∧ jday.toInt ≤ 13) : Cv l yX1_ready (wq yX1_ready cX1_ready 5 none) ({ frames := 2, cells := 0, slots := 0, locals := 48 }) dC dI cI cZ cK tS aK aV [.ref j, .int i0] sz [(j, .inr (1, [.ref k, .ref d, .ref jd, .ref jb, .ref jw, .ref jl, .int jbad, .int jwhy, .int jleft, .int jday, .int jwarmDay, .int jbagDays, .int jburnt, .int jboiled])), (jd, .inl (cI, 60, .inl jfd)), (jb, .inl (cI, 60, .inl jfb)), (jw, .inl (cI, 60, .inl jfw)), (d, .inr (4, [.ref ds, .int dsz, .ref dk, .ref dw, .int dac, .int dwr])), (dk, .inl (cI, 60, .inl dfk)), (dw, .inl (cI, 60, .inl dfw)), (k, .inr (0, [.ref ks, .ref kw, .ref kc, .int kwd, .int kbg, .int kme, .ref kq, .ref km, .ref kd, .int ksi, .ref ka, .ref kk])), (ks, .inl (cI, 5, .inl kfs)), (kw, .inl (cI, 14, .inl kfw)), (kq, .inl (cI, 6, .inl kfq)), (km, .inl (cI, 6, .inl kfm))] (fun (u : (Nat → Nat → Int32) × (Nat → Int32) × (Nat → Int64)) => rg (u.1 1) 60 0 13) (fun u => [(j, .inr (1, [.ref k, .ref d, .ref jd, .ref jb, .ref jw, .ref jl, .int jbad, .int jwhy, .int jleft, .int jday, .int jwarmDay, .int jbagDays, .int jburnt, .int jboiled])), (jd, .inl (cI, 60, .inl (u.1 1))), (jb, .inl (cI, 60, .inl (u.1 0))), (jw, .inl (cI, 60, .inl (u.1 2))), (d, .inr (4, [.ref ds, .int dsz, .ref dk, .ref dw, .int dac, .int dwr])), (dk, .inl (cI, 60, .inl dfk)), (dw, .inl (cI, 60, .inl dfw)), (k, .inr (0, [.ref ks, .ref kw, .ref kc, .int kwd, .int kbg, .int kme, .ref kq, .ref km, .ref kd, .int ksi, .ref ka, .ref kk])), (ks, .inl (cI, 5, .inl kfs)), (kw, .inl (cI, 14, .inl kfw)), (kq, .inl (cI, 6, .inl kfq)), (km, .inl (cI, 6, .inl kfm))]) := by
  refine Met.ofW (cc := cX1_ready) (maxL := 5) (ret := none) (by decide) rfl ?_
  intro p e s m args below meth c s₁ B hml hv
  obtain ⟨rfl, hsz, hP, hKx, hD0⟩ := hv
  have hx := B.exec
  have hb := B.bytes
  have hr := B.returns
  have hts := atoms_spec (ws := wq yX1_ready cX1_ready 5 none) B.pre
  have hown : s.vm.findClass RX1 = some m.cls := findClass_of_methodNamed B.named
  have hlocks := B.notSynchronized
  subst hsz
  have hD := hD0.self (sz := s.heap.size)
  generalize hAe : va_A [(j, .inr (1, [.ref k, .ref d, .ref jd, .ref jb, .ref jw, .ref jl, .int jbad, .int jwhy, .int jleft, .int jday, .int jwarmDay, .int jbagDays, .int jburnt, .int jboiled])), (jd, .inl (cI, 60, .inl jfd)), (jb, .inl (cI, 60, .inl jfb)), (jw, .inl (cI, 60, .inl jfw)), (d, .inr (4, [.ref ds, .int dsz, .ref dk, .ref dw, .int dac, .int dwr])), (dk, .inl (cI, 60, .inl dfk)), (dw, .inl (cI, 60, .inl dfw)), (k, .inr (0, [.ref ks, .ref kw, .ref kc, .int kwd, .int kbg, .int kme, .ref kq, .ref km, .ref kd, .int ksi, .ref ka, .ref kk])), (ks, .inl (cI, 5, .inl kfs)), (kw, .inl (cI, 14, .inl kfw)), (kq, .inl (cI, 6, .inl kfq)), (km, .inl (cI, 6, .inl kfm))] s.heap.size = A at hD hKx ⊢
  have hA : ∀ q : Nat, s.heap.size ≤ q → A q := fun q h => by rw [← hAe]; exact Or.inr h
  have hS : va_S A s.heap s.heap [] := va_S.rf
  have hP : va_P (dC, dI) vwCl [(j, .inr (1, [.ref k, .ref d, .ref jd, .ref jb, .ref jw, .ref jl, .int jbad, .int jwhy, .int jleft, .int jday, .int jwarmDay, .int jbagDays, .int jburnt, .int jboiled])), (jd, .inl (cI, 60, .inl jfd)), (jb, .inl (cI, 60, .inl jfb)), (jw, .inl (cI, 60, .inl jfw)), (d, .inr (4, [.ref ds, .int dsz, .ref dk, .ref dw, .int dac, .int dwr])), (dk, .inl (cI, 60, .inl dfk)), (dw, .inl (cI, 60, .inl dfw)), (k, .inr (0, [.ref ks, .ref kw, .ref kc, .int kwd, .int kbg, .int kme, .ref kq, .ref km, .ref kd, .int ksi, .ref ka, .ref kk])), (ks, .inl (cI, 5, .inl kfs)), (kw, .inl (cI, 14, .inl kfw)), (kq, .inl (cI, 6, .inl kfq)), (km, .inl (cI, 6, .inl kfm))] s.heap := hP
  have hl := lv_entry ([.ref j, .int i0]) (n := 5) (Nat.le_of_ble_eq_true rfl)
  rw [lg_entry_eq]
  generalize (lg_sl ([.ref j, .int i0]) ++ List.replicate (5 - (lg_sl ([.ref j, .int i0])).length) Slot.unset).toArray = ls at hl ⊢
  have hl : lv_has ls 5 [(0, .ref j), (1, .int i0)] := hl
  have hK := hKx.1
  have hin1 := fun w9 h9 => List.mem_cons_of_mem (Cond.code yX1_ready cX1_ready 5 none) (inlX1 w9 h9)
  have hin4 := fun w9 h9 => List.mem_cons_of_mem (Cond.code yX1_ready cX1_ready 5 none) (inlX4 w9 h9)
  have hw0 := hts (.fieldLink RX1 28 "OneCan$Course" "pad" "LOneCan$Pad;") (List.mem_cons_of_mem _ wm_73)
  have hw1 := hts (.fieldLink RX1 84 "OneCan$Pad" "kinds" "[I") (List.mem_cons_of_mem _ wm_376)
  have hw2 := hts (.fieldLink RX1 24 "OneCan$Course" "camp" "LOneCan$Camp;") (List.mem_cons_of_mem _ wm_72)
  have hw3 := hts (.fieldLink RX1 47 "OneCan$Course" "day" "I") (List.mem_cons_of_mem _ wm_364)
  have hw4 := hts (.fieldLink RX1 9 "OneCan$Course" "days" "[I") (List.mem_cons_of_mem _ wm_68)
  have hw5 := hts (.fieldLink RX1 15 "OneCan$Course" "burns" "[I") (List.mem_cons_of_mem _ wm_69)
  have hw6 := hts (.fieldLink RX1 95 "OneCan$Pad" "ways" "[I") (List.mem_cons_of_mem _ wm_377)
  have hw7 := hts (.fieldLink RX1 18 "OneCan$Course" "byWind" "[I") (List.mem_cons_of_mem _ wm_70)
  refine lv_aload_n hx hb dX1_ready_0 rfl (lv_at hl 0 rfl) ?_
  refine va_get (D := (dC, dI)) (ci := 1) (v := .ref d) (C := RX1) (T := TX1) (N := 14) hx hb hts hin1 hown hK hP 0 rfl rfl 1 (by decide) hw0 (fun _ h9 => h9) rfl dX1_ready_1 ?_
  refine va_get (D := (dC, dI)) (ci := 4) (v := .ref dk) (C := RX4) (T := TX4) (N := 6) hx hb hts hin4 hown hK hP 4 rfl rfl 2 (by decide) hw1 (fun _ h9 => h9) rfl dX1_ready_4 ?_
  refine lv_iload_n hx hb dX1_ready_7 rfl (lv_at hl 1 rfl) ?_
  refine va_iald hx hb hK hP 5 0 rfl rfl (vin (by omega) (by omega)) dX1_ready_8 ?_
  refine lv_topi (fun x1 e1 => ?_)
  refine lv_istore_n (lv' := [(2, .int x1), (0, .ref j), (1, .int i0)]) hx hb dX1_ready_9 rfl hl (by decide) rfl (fun ls hl => ?_)
  refine lv_aload_n hx hb dX1_ready_10 rfl (lv_at hl 1 rfl) ?_
  refine va_get (D := (dC, dI)) (ci := 1) (v := .ref k) (C := RX1) (T := TX1) (N := 14) hx hb hts hin1 hown hK hP 0 rfl rfl 0 (by decide) hw2 (fun _ h9 => h9) rfl dX1_ready_11 ?_
  refine lv_iload_n hx hb dX1_ready_14 rfl (lv_at hl 0 rfl) ?_
  refine mx_i (wr := [(j, .inr (1, [.ref k, .ref d, .ref jd, .ref jb, .ref jw, .ref jl, .int jbad, .int jwhy, .int jleft, .int jday, .int jwarmDay, .int jbagDays, .int jburnt, .int jboiled])), (jd, .inl (cI, 60, .inl jfd)), (jb, .inl (cI, 60, .inl jfb)), (jw, .inl (cI, 60, .inl jfw)), (d, .inr (4, [.ref ds, .int dsz, .ref dk, .ref dw, .int dac, .int dwr])), (dk, .inl (cI, 60, .inl dfk)), (dw, .inl (cI, 60, .inl dfw)), (ks, .inl (cI, 5, .inl kfs)), (kw, .inl (cI, 14, .inl kfw)), (kq, .inl (cI, 6, .inl kfq)), (km, .inl (cI, 6, .inl kfm))]) (va_runV (As := [.int x1]) (rest := []) ⟨hx, hb, hml, hown, hts⟩ (c_X0_has l dC dI cI cZ cK tS aK aV k x1 ks kw kc kwd kbg kme kq km kd ksi ka kk s.heap.size) (cwV 1 hts (gw_v (fun _ h9 => List.mem_cons_of_mem _ h9) wm_378 wm_379 wm_380 wm_14 wm_381) rfl rfl rfl (by decide +kernel) ⟨Nat.le_of_ble_eq_true rfl, Nat.le_of_ble_eq_true rfl⟩) (mx_preV (C := RX0) (T := TX0) (N := 12) (ci := 0) hKx hP hD hS hA [7] (by decide) rfl rfl rfl) rfl rfl hl.1 rfl (lv_room (Nat.le_of_ble_eq_true rfl)) dX1_ready_15 ⟨Nat.le_of_ble_eq_true rfl, Nat.le_of_ble_eq_true rfl⟩) hP hD hS hA [7] [0, 1, 2, 3, 4, 5, 6, 8, 9, 10, 11] rfl rfl (by decide) (by decide) (fun r2 u2 H locs hq2 hP hD hS => ?_)
  replace hP : va_P (dC, dI) vwCl [(j, .inr (1, [.ref k, .ref d, .ref jd, .ref jb, .ref jw, .ref jl, .int jbad, .int jwhy, .int jleft, .int jday, .int jwarmDay, .int jbagDays, .int jburnt, .int jboiled])), (jd, .inl (cI, 60, .inl jfd)), (jb, .inl (cI, 60, .inl jfb)), (jw, .inl (cI, 60, .inl jfw)), (d, .inr (4, [.ref ds, .int dsz, .ref dk, .ref dw, .int dac, .int dwr])), (dk, .inl (cI, 60, .inl dfk)), (dw, .inl (cI, 60, .inl dfw)), (ks, .inl (cI, 5, .inl kfs)), (kw, .inl (cI, 14, .inl kfw)), (kq, .inl (cI, 6, .inl kfq)), (km, .inl (cI, 6, .inl kfm)), (k, .inr (0, [.ref ks, .ref kw, .ref kc, .int kwd, .int kbg, .int kme, .ref kq, .ref km, .ref kd, .int ksi, .ref ka, .ref kk]))] H := hP
  replace hD : va_D A [(j, .inr (1, [.ref k, .ref d, .ref jd, .ref jb, .ref jw, .ref jl, .int jbad, .int jwhy, .int jleft, .int jday, .int jwarmDay, .int jbagDays, .int jburnt, .int jboiled])), (jd, .inl (cI, 60, .inl jfd)), (jb, .inl (cI, 60, .inl jfb)), (jw, .inl (cI, 60, .inl jfw)), (d, .inr (4, [.ref ds, .int dsz, .ref dk, .ref dw, .int dac, .int dwr])), (dk, .inl (cI, 60, .inl dfk)), (dw, .inl (cI, 60, .inl dfw)), (ks, .inl (cI, 5, .inl kfs)), (kw, .inl (cI, 14, .inl kfw)), (kq, .inl (cI, 6, .inl kfq)), (km, .inl (cI, 6, .inl kfm)), (k, .inr (0, [.ref ks, .ref kw, .ref kc, .int kwd, .int kbg, .int kme, .ref kq, .ref km, .ref kd, .int ksi, .ref ka, .ref kk]))] := hD
  obtain ⟨hx2_0, hr2⟩ := hq2
  replace hx2_0 : r2 = hsF kme x1 := hx2_0
  rcases hr2 with ⟨rfl, hf2⟩ | ⟨rfl, hf2⟩
  · have hf2 : 0 ≤ x1.toInt ∧ x1.toInt ≤ 5 := hf2
    refine lv_istore_n (lv' := [(3, .int 1), (2, .int x1), (0, .ref j), (1, .int i0)]) hx hb dX1_ready_18 rfl hl (by decide) rfl (fun ls hl => ?_)
    refine lv_aload_n hx hb dX1_ready_19 rfl (lv_at hl 2 rfl) ?_
    refine va_get (D := (dC, dI)) (ci := 1) (v := .ref k) (C := RX1) (T := TX1) (N := 14) hx hb hts hin1 hown hK hP 0 rfl rfl 0 (by decide) hw2 (fun _ h9 => h9) rfl dX1_ready_20 ?_
    refine lv_aload_n hx hb dX1_ready_23 rfl (lv_at hl 2 rfl) ?_
    refine va_get (D := (dC, dI)) (ci := 1) (v := .int jday) (C := RX1) (T := TX1) (N := 14) hx hb hts hin1 hown hK hP 0 rfl rfl 9 (by decide) hw3 (fun _ h9 => h9) rfl dX1_ready_24 ?_
    refine lv_iconst (v := 0) hx hb dX1_ready_27 (by decide) ?_
    refine mx_i (wr := [(j, .inr (1, [.ref k, .ref d, .ref jd, .ref jb, .ref jw, .ref jl, .int jbad, .int jwhy, .int jleft, .int jday, .int jwarmDay, .int jbagDays, .int jburnt, .int jboiled])), (jd, .inl (cI, 60, .inl jfd)), (jb, .inl (cI, 60, .inl jfb)), (jw, .inl (cI, 60, .inl jfw)), (d, .inr (4, [.ref ds, .int dsz, .ref dk, .ref dw, .int dac, .int dwr])), (dk, .inl (cI, 60, .inl dfk)), (dw, .inl (cI, 60, .inl dfw)), (kq, .inl (cI, 6, .inl kfq)), (km, .inl (cI, 6, .inl kfm))]) (va_runV (As := [.int jday, .int 0]) (rest := []) ⟨hx, hb, hml, hown, hts⟩ (c_X0_windOn l dC dI cI cZ cK tS aK aV k jday 0 ks kw kc kwd kbg kme kq km kd ksi ka kk kfs kfw H.size (by have z8 : (0 : Int32).toInt = 0 := rfl; first | omega | decide | assumption | trivial) h_kfw (by have z8 : (0 : Int32).toInt = 0 := rfl; first | omega | decide | assumption | trivial) (by have z8 : (0 : Int32).toInt = 0 := rfl; first | omega | decide | assumption | trivial)) (cwV 2 hts (gw_v (fun _ h9 => List.mem_cons_of_mem _ h9) wm_383 wm_384 wm_385 wm_14 wm_386) rfl rfl rfl (by decide +kernel) ⟨Nat.le_of_ble_eq_true rfl, Nat.le_of_ble_eq_true rfl⟩) (mx_preV (C := RX0) (T := TX0) (N := 12) (ci := 0) hKx hP hD hS hA [11, 7, 8] (by decide) rfl rfl rfl) rfl rfl hl.1 rfl (lv_room (Nat.le_of_ble_eq_true rfl)) dX1_ready_28 ⟨Nat.le_of_ble_eq_true rfl, Nat.le_of_ble_eq_true rfl⟩) hP hD hS hA [11, 7, 8] [0, 1, 2, 3, 4, 5, 6, 9, 10] rfl rfl (by decide) (by decide) (fun r3 u3 H locs hq3 hP hD hS => ?_)
    replace hP : va_P (dC, dI) vwCl [(j, .inr (1, [.ref k, .ref d, .ref jd, .ref jb, .ref jw, .ref jl, .int jbad, .int jwhy, .int jleft, .int jday, .int jwarmDay, .int jbagDays, .int jburnt, .int jboiled])), (jd, .inl (cI, 60, .inl jfd)), (jb, .inl (cI, 60, .inl jfb)), (jw, .inl (cI, 60, .inl jfw)), (d, .inr (4, [.ref ds, .int dsz, .ref dk, .ref dw, .int dac, .int dwr])), (dk, .inl (cI, 60, .inl dfk)), (dw, .inl (cI, 60, .inl dfw)), (kq, .inl (cI, 6, .inl kfq)), (km, .inl (cI, 6, .inl kfm)), (k, .inr (0, [.ref ks, .ref kw, .ref kc, .int kwd, .int kbg, .int kme, .ref kq, .ref km, .ref kd, .int ksi, .ref ka, .ref kk])), (ks, .inl (cI, 5, .inl kfs)), (kw, .inl (cI, 14, .inl kfw))] H := hP
    replace hD : va_D A [(j, .inr (1, [.ref k, .ref d, .ref jd, .ref jb, .ref jw, .ref jl, .int jbad, .int jwhy, .int jleft, .int jday, .int jwarmDay, .int jbagDays, .int jburnt, .int jboiled])), (jd, .inl (cI, 60, .inl jfd)), (jb, .inl (cI, 60, .inl jfb)), (jw, .inl (cI, 60, .inl jfw)), (d, .inr (4, [.ref ds, .int dsz, .ref dk, .ref dw, .int dac, .int dwr])), (dk, .inl (cI, 60, .inl dfk)), (dw, .inl (cI, 60, .inl dfw)), (kq, .inl (cI, 6, .inl kfq)), (km, .inl (cI, 6, .inl kfm)), (k, .inr (0, [.ref ks, .ref kw, .ref kc, .int kwd, .int kbg, .int kme, .ref kq, .ref km, .ref kd, .int ksi, .ref ka, .ref kk])), (ks, .inl (cI, 5, .inl kfs)), (kw, .inl (cI, 14, .inl kfw))] := hD
    obtain ⟨hx3_0, hr3⟩ := hq3
    replace hx3_0 : (0 : Int32).toInt ≠ 0 ∨ r3 = woF (kfs 3) (kfw jday.toNatClampNeg) := hx3_0
    refine lv_istore (lv' := [(4, .int r3), (3, .int 1), (2, .int x1), (0, .ref j), (1, .int i0)]) hx hb dX1_ready_31 hl (by decide) rfl (fun ls hl => ?_)
    refine lv_aload_n hx hb dX1_ready_33 rfl (lv_at hl 3 rfl) ?_
    refine va_get (D := (dC, dI)) (ci := 1) (v := .ref jd) (C := RX1) (T := TX1) (N := 14) hx hb hts hin1 hown hK hP 0 rfl rfl 2 (by decide) hw4 (fun _ h9 => h9) rfl dX1_ready_34 ?_
    refine lv_iload_n hx hb dX1_ready_37 rfl (lv_at hl 4 rfl) ?_
    refine lv_aload_n hx hb dX1_ready_38 rfl (lv_at hl 3 rfl) ?_
    refine va_get (D := (dC, dI)) (ci := 1) (v := .int jday) (C := RX1) (T := TX1) (N := 14) hx hb hts hin1 hown hK hP 0 rfl rfl 9 (by decide) hw3 (fun _ h9 => h9) rfl dX1_ready_39 ?_
    refine va_iast hx hb hK hP hD hS 1 0 rfl rfl (vin (by omega) (by omega)) dX1_ready_42 (fun H locs hP hD hS => ?_)
    replace hP : va_P (dC, dI) vwCl [(j, .inr (1, [.ref k, .ref d, .ref jd, .ref jb, .ref jw, .ref jl, .int jbad, .int jwhy, .int jleft, .int jday, .int jwarmDay, .int jbagDays, .int jburnt, .int jboiled])), (jd, .inl (cI, 60, .inl (upd jfd i0.toNatClampNeg jday))), (jb, .inl (cI, 60, .inl jfb)), (jw, .inl (cI, 60, .inl jfw)), (d, .inr (4, [.ref ds, .int dsz, .ref dk, .ref dw, .int dac, .int dwr])), (dk, .inl (cI, 60, .inl dfk)), (dw, .inl (cI, 60, .inl dfw)), (kq, .inl (cI, 6, .inl kfq)), (km, .inl (cI, 6, .inl kfm)), (k, .inr (0, [.ref ks, .ref kw, .ref kc, .int kwd, .int kbg, .int kme, .ref kq, .ref km, .ref kd, .int ksi, .ref ka, .ref kk])), (ks, .inl (cI, 5, .inl kfs)), (kw, .inl (cI, 14, .inl kfw))] H := hP
    replace hD : va_D A [(j, .inr (1, [.ref k, .ref d, .ref jd, .ref jb, .ref jw, .ref jl, .int jbad, .int jwhy, .int jleft, .int jday, .int jwarmDay, .int jbagDays, .int jburnt, .int jboiled])), (jd, .inl (cI, 60, .inl (upd jfd i0.toNatClampNeg jday))), (jb, .inl (cI, 60, .inl jfb)), (jw, .inl (cI, 60, .inl jfw)), (d, .inr (4, [.ref ds, .int dsz, .ref dk, .ref dw, .int dac, .int dwr])), (dk, .inl (cI, 60, .inl dfk)), (dw, .inl (cI, 60, .inl dfw)), (kq, .inl (cI, 6, .inl kfq)), (km, .inl (cI, 6, .inl kfm)), (k, .inr (0, [.ref ks, .ref kw, .ref kc, .int kwd, .int kbg, .int kme, .ref kq, .ref km, .ref kd, .int ksi, .ref ka, .ref kk])), (ks, .inl (cI, 5, .inl kfs)), (kw, .inl (cI, 14, .inl kfw))] := hD
    refine lv_aload_n hx hb dX1_ready_43 rfl (lv_at hl 3 rfl) ?_
    refine va_get (D := (dC, dI)) (ci := 1) (v := .ref jb) (C := RX1) (T := TX1) (N := 14) hx hb hts hin1 hown hK hP 0 rfl rfl 3 (by decide) hw5 (fun _ h9 => h9) rfl dX1_ready_44 ?_
    refine lv_iload_n hx hb dX1_ready_47 rfl (lv_at hl 4 rfl) ?_
    refine lv_iload_n hx hb dX1_ready_48 rfl (lv_at hl 1 rfl) ?_
    refine lv_if_eq (tgt := 74) hx hb dX1_ready_49 (by decide) (fun c4 => absurd c4 (by decide)) (fun c4 => ?_)
    refine lv_aload_n hx hb dX1_ready_52 rfl (lv_at hl 3 rfl) ?_
    refine va_get (D := (dC, dI)) (ci := 1) (v := .ref k) (C := RX1) (T := TX1) (N := 14) hx hb hts hin1 hown hK hP 0 rfl rfl 0 (by decide) hw2 (fun _ h9 => h9) rfl dX1_ready_53 ?_
    refine lv_iload_n hx hb dX1_ready_56 rfl (lv_at hl 2 rfl) ?_
    refine lv_iload hx hb dX1_ready_57 (lv_at hl 0 rfl) ?_
    refine lv_aload_n hx hb dX1_ready_59 rfl (lv_at hl 3 rfl) ?_
    refine va_get (D := (dC, dI)) (ci := 1) (v := .ref d) (C := RX1) (T := TX1) (N := 14) hx hb hts hin1 hown hK hP 0 rfl rfl 1 (by decide) hw0 (fun _ h9 => h9) rfl dX1_ready_60 ?_
    refine va_get (D := (dC, dI)) (ci := 4) (v := .ref dw) (C := RX4) (T := TX4) (N := 6) hx hb hts hin4 hown hK hP 4 rfl rfl 3 (by decide) hw6 (fun _ h9 => h9) rfl dX1_ready_63 ?_
    refine lv_iload_n hx hb dX1_ready_66 rfl (lv_at hl 4 rfl) ?_
    refine va_iald hx hb hK hP 6 0 rfl rfl (vin (by omega) (by omega)) dX1_ready_67 ?_
    refine lv_topi (fun x5 e5 => ?_)
    refine mx_i (wr := [(j, .inr (1, [.ref k, .ref d, .ref jd, .ref jb, .ref jw, .ref jl, .int jbad, .int jwhy, .int jleft, .int jday, .int jwarmDay, .int jbagDays, .int jburnt, .int jboiled])), (jd, .inl (cI, 60, .inl (upd jfd i0.toNatClampNeg jday))), (jb, .inl (cI, 60, .inl jfb)), (jw, .inl (cI, 60, .inl jfw)), (d, .inr (4, [.ref ds, .int dsz, .ref dk, .ref dw, .int dac, .int dwr])), (dk, .inl (cI, 60, .inl dfk)), (dw, .inl (cI, 60, .inl dfw)), (ks, .inl (cI, 5, .inl kfs)), (kw, .inl (cI, 14, .inl kfw))]) (va_runV (As := [.int x1, .int r3, .int x5]) (rest := [.int i0, .ref jb]) ⟨hx, hb, hml, hown, hts⟩ (c_X0_toBoil l dC dI cI cZ cK tS aK aV k x1 r3 x5 ks kw kc kwd kbg kme kq km kd ksi ka kk kfq kfm H.size (by first | omega | decide | assumption | trivial)) (cwV 3 hts (gw_v (fun _ h9 => List.mem_cons_of_mem _ h9) wm_389 wm_390 wm_391 wm_14 wm_392) rfl rfl rfl (by decide +kernel) ⟨Nat.le_of_ble_eq_true rfl, Nat.le_of_ble_eq_true rfl⟩) (mx_preV (C := RX0) (T := TX0) (N := 12) (ci := 0) hKx hP hD hS hA [9, 7, 8] (by decide) rfl rfl rfl) rfl rfl hl.1 rfl (lv_room (Nat.le_of_ble_eq_true rfl)) dX1_ready_68 ⟨Nat.le_of_ble_eq_true rfl, Nat.le_of_ble_eq_true rfl⟩) hP hD hS hA [9, 7, 8] [0, 1, 2, 3, 4, 5, 6, 10, 11] rfl rfl (by decide) (by decide) (fun r6 u6 H locs hq6 hP hD hS => ?_)
    replace hP : va_P (dC, dI) vwCl [(j, .inr (1, [.ref k, .ref d, .ref jd, .ref jb, .ref jw, .ref jl, .int jbad, .int jwhy, .int jleft, .int jday, .int jwarmDay, .int jbagDays, .int jburnt, .int jboiled])), (jd, .inl (cI, 60, .inl (upd jfd i0.toNatClampNeg jday))), (jb, .inl (cI, 60, .inl jfb)), (jw, .inl (cI, 60, .inl jfw)), (d, .inr (4, [.ref ds, .int dsz, .ref dk, .ref dw, .int dac, .int dwr])), (dk, .inl (cI, 60, .inl dfk)), (dw, .inl (cI, 60, .inl dfw)), (ks, .inl (cI, 5, .inl kfs)), (kw, .inl (cI, 14, .inl kfw)), (k, .inr (0, [.ref ks, .ref kw, .ref kc, .int kwd, .int kbg, .int kme, .ref kq, .ref km, .ref kd, .int ksi, .ref ka, .ref kk])), (kq, .inl (cI, 6, .inl kfq)), (km, .inl (cI, 6, .inl kfm))] H := hP
    replace hD : va_D A [(j, .inr (1, [.ref k, .ref d, .ref jd, .ref jb, .ref jw, .ref jl, .int jbad, .int jwhy, .int jleft, .int jday, .int jwarmDay, .int jbagDays, .int jburnt, .int jboiled])), (jd, .inl (cI, 60, .inl (upd jfd i0.toNatClampNeg jday))), (jb, .inl (cI, 60, .inl jfb)), (jw, .inl (cI, 60, .inl jfw)), (d, .inr (4, [.ref ds, .int dsz, .ref dk, .ref dw, .int dac, .int dwr])), (dk, .inl (cI, 60, .inl dfk)), (dw, .inl (cI, 60, .inl dfw)), (ks, .inl (cI, 5, .inl kfs)), (kw, .inl (cI, 14, .inl kfw)), (k, .inr (0, [.ref ks, .ref kw, .ref kc, .int kwd, .int kbg, .int kme, .ref kq, .ref km, .ref kd, .int ksi, .ref ka, .ref kk])), (kq, .inl (cI, 6, .inl kfq)), (km, .inl (cI, 6, .inl kfm))] := hD
    have hx6_0 := hq6
    replace hx6_0 : r6 = tbF (kfq x1.toNatClampNeg) (kfm x1.toNatClampNeg) r3 x5 := hx6_0
    refine lv_goto (tgt := 75) hx hb dX1_ready_71 (by decide) ?_
    refine va_iast hx hb hK hP hD hS 2 0 rfl rfl (vin (by omega) (by omega)) dX1_ready_75 (fun H locs hP hD hS => ?_)
    replace hP : va_P (dC, dI) vwCl [(j, .inr (1, [.ref k, .ref d, .ref jd, .ref jb, .ref jw, .ref jl, .int jbad, .int jwhy, .int jleft, .int jday, .int jwarmDay, .int jbagDays, .int jburnt, .int jboiled])), (jd, .inl (cI, 60, .inl (upd jfd i0.toNatClampNeg jday))), (jb, .inl (cI, 60, .inl (upd jfb i0.toNatClampNeg r6))), (jw, .inl (cI, 60, .inl jfw)), (d, .inr (4, [.ref ds, .int dsz, .ref dk, .ref dw, .int dac, .int dwr])), (dk, .inl (cI, 60, .inl dfk)), (dw, .inl (cI, 60, .inl dfw)), (ks, .inl (cI, 5, .inl kfs)), (kw, .inl (cI, 14, .inl kfw)), (k, .inr (0, [.ref ks, .ref kw, .ref kc, .int kwd, .int kbg, .int kme, .ref kq, .ref km, .ref kd, .int ksi, .ref ka, .ref kk])), (kq, .inl (cI, 6, .inl kfq)), (km, .inl (cI, 6, .inl kfm))] H := hP
    replace hD : va_D A [(j, .inr (1, [.ref k, .ref d, .ref jd, .ref jb, .ref jw, .ref jl, .int jbad, .int jwhy, .int jleft, .int jday, .int jwarmDay, .int jbagDays, .int jburnt, .int jboiled])), (jd, .inl (cI, 60, .inl (upd jfd i0.toNatClampNeg jday))), (jb, .inl (cI, 60, .inl (upd jfb i0.toNatClampNeg r6))), (jw, .inl (cI, 60, .inl jfw)), (d, .inr (4, [.ref ds, .int dsz, .ref dk, .ref dw, .int dac, .int dwr])), (dk, .inl (cI, 60, .inl dfk)), (dw, .inl (cI, 60, .inl dfw)), (ks, .inl (cI, 5, .inl kfs)), (kw, .inl (cI, 14, .inl kfw)), (k, .inr (0, [.ref ks, .ref kw, .ref kc, .int kwd, .int kbg, .int kme, .ref kq, .ref km, .ref kd, .int ksi, .ref ka, .ref kk])), (kq, .inl (cI, 6, .inl kfq)), (km, .inl (cI, 6, .inl kfm))] := hD
    refine lv_aload_n hx hb dX1_ready_76 rfl (lv_at hl 3 rfl) ?_
    refine va_get (D := (dC, dI)) (ci := 1) (v := .ref jw) (C := RX1) (T := TX1) (N := 14) hx hb hts hin1 hown hK hP 0 rfl rfl 4 (by decide) hw7 (fun _ h9 => h9) rfl dX1_ready_77 ?_
    refine lv_iload_n hx hb dX1_ready_80 rfl (lv_at hl 4 rfl) ?_
    refine lv_iload_n hx hb dX1_ready_81 rfl (lv_at hl 1 rfl) ?_
    refine lv_if_eq (tgt := 107) hx hb dX1_ready_82 (by decide) (fun c7 => absurd c7 (by decide)) (fun c7 => ?_)
    refine lv_aload_n hx hb dX1_ready_85 rfl (lv_at hl 3 rfl) ?_
    refine va_get (D := (dC, dI)) (ci := 1) (v := .ref k) (C := RX1) (T := TX1) (N := 14) hx hb hts hin1 hown hK hP 0 rfl rfl 0 (by decide) hw2 (fun _ h9 => h9) rfl dX1_ready_86 ?_
    refine lv_iload_n hx hb dX1_ready_89 rfl (lv_at hl 2 rfl) ?_
    refine lv_iload hx hb dX1_ready_90 (lv_at hl 0 rfl) ?_
    refine lv_aload_n hx hb dX1_ready_92 rfl (lv_at hl 3 rfl) ?_
    refine va_get (D := (dC, dI)) (ci := 1) (v := .ref d) (C := RX1) (T := TX1) (N := 14) hx hb hts hin1 hown hK hP 0 rfl rfl 1 (by decide) hw0 (fun _ h9 => h9) rfl dX1_ready_93 ?_
    refine va_get (D := (dC, dI)) (ci := 4) (v := .ref dw) (C := RX4) (T := TX4) (N := 6) hx hb hts hin4 hown hK hP 4 rfl rfl 3 (by decide) hw6 (fun _ h9 => h9) rfl dX1_ready_96 ?_
    refine lv_iload_n hx hb dX1_ready_99 rfl (lv_at hl 4 rfl) ?_
    refine va_iald hx hb hK hP 6 0 rfl rfl (vin (by omega) (by omega)) dX1_ready_100 ?_
    refine lv_topi (fun x8 e8 => ?_)
    refine mx_i (wr := [(j, .inr (1, [.ref k, .ref d, .ref jd, .ref jb, .ref jw, .ref jl, .int jbad, .int jwhy, .int jleft, .int jday, .int jwarmDay, .int jbagDays, .int jburnt, .int jboiled])), (jd, .inl (cI, 60, .inl (upd jfd i0.toNatClampNeg jday))), (jb, .inl (cI, 60, .inl (upd jfb i0.toNatClampNeg r6))), (jw, .inl (cI, 60, .inl jfw)), (d, .inr (4, [.ref ds, .int dsz, .ref dk, .ref dw, .int dac, .int dwr])), (dk, .inl (cI, 60, .inl dfk)), (dw, .inl (cI, 60, .inl dfw)), (ks, .inl (cI, 5, .inl kfs)), (kw, .inl (cI, 14, .inl kfw)), (km, .inl (cI, 6, .inl kfm))]) (va_runV (As := [.int x1, .int r3, .int x8]) (rest := [.int i0, .ref jw]) ⟨hx, hb, hml, hown, hts⟩ (c_X0_byWind l dC dI cI cZ cK tS aK aV k x1 r3 x8 ks kw kc kwd kbg kme kq km kd ksi ka kk kfq H.size (by first | omega | decide | assumption | trivial)) (cwV 3 hts (gw_v (fun _ h9 => List.mem_cons_of_mem _ h9) wm_397 wm_398 wm_399 wm_14 wm_400) rfl rfl rfl (by decide +kernel) ⟨Nat.le_of_ble_eq_true rfl, Nat.le_of_ble_eq_true rfl⟩) (mx_preV (C := RX0) (T := TX0) (N := 12) (ci := 0) hKx hP hD hS hA [9, 10] (by decide) rfl rfl rfl) rfl rfl hl.1 rfl (lv_room (Nat.le_of_ble_eq_true rfl)) dX1_ready_101 ⟨Nat.le_of_ble_eq_true rfl, Nat.le_of_ble_eq_true rfl⟩) hP hD hS hA [9, 10] [0, 1, 2, 3, 4, 5, 6, 7, 8, 11] rfl rfl (by decide) (by decide) (fun r9 u9 H locs hq9 hP hD hS => ?_)
    replace hP : va_P (dC, dI) vwCl [(j, .inr (1, [.ref k, .ref d, .ref jd, .ref jb, .ref jw, .ref jl, .int jbad, .int jwhy, .int jleft, .int jday, .int jwarmDay, .int jbagDays, .int jburnt, .int jboiled])), (jd, .inl (cI, 60, .inl (upd jfd i0.toNatClampNeg jday))), (jb, .inl (cI, 60, .inl (upd jfb i0.toNatClampNeg r6))), (jw, .inl (cI, 60, .inl jfw)), (d, .inr (4, [.ref ds, .int dsz, .ref dk, .ref dw, .int dac, .int dwr])), (dk, .inl (cI, 60, .inl dfk)), (dw, .inl (cI, 60, .inl dfw)), (ks, .inl (cI, 5, .inl kfs)), (kw, .inl (cI, 14, .inl kfw)), (km, .inl (cI, 6, .inl kfm)), (k, .inr (0, [.ref ks, .ref kw, .ref kc, .int kwd, .int kbg, .int kme, .ref kq, .ref km, .ref kd, .int ksi, .ref ka, .ref kk])), (kq, .inl (cI, 6, .inl kfq))] H := hP
    replace hD : va_D A [(j, .inr (1, [.ref k, .ref d, .ref jd, .ref jb, .ref jw, .ref jl, .int jbad, .int jwhy, .int jleft, .int jday, .int jwarmDay, .int jbagDays, .int jburnt, .int jboiled])), (jd, .inl (cI, 60, .inl (upd jfd i0.toNatClampNeg jday))), (jb, .inl (cI, 60, .inl (upd jfb i0.toNatClampNeg r6))), (jw, .inl (cI, 60, .inl jfw)), (d, .inr (4, [.ref ds, .int dsz, .ref dk, .ref dw, .int dac, .int dwr])), (dk, .inl (cI, 60, .inl dfk)), (dw, .inl (cI, 60, .inl dfw)), (ks, .inl (cI, 5, .inl kfs)), (kw, .inl (cI, 14, .inl kfw)), (km, .inl (cI, 6, .inl kfm)), (k, .inr (0, [.ref ks, .ref kw, .ref kc, .int kwd, .int kbg, .int kme, .ref kq, .ref km, .ref kd, .int ksi, .ref ka, .ref kk])), (kq, .inl (cI, 6, .inl kfq))] := hD
    refine lv_goto (tgt := 108) hx hb dX1_ready_104 (by decide) ?_
    refine va_iast hx hb hK hP hD hS 3 0 rfl rfl (vin (by omega) (by omega)) dX1_ready_108 (fun H locs hP hD hS => ?_)
    replace hP : va_P (dC, dI) vwCl [(j, .inr (1, [.ref k, .ref d, .ref jd, .ref jb, .ref jw, .ref jl, .int jbad, .int jwhy, .int jleft, .int jday, .int jwarmDay, .int jbagDays, .int jburnt, .int jboiled])), (jd, .inl (cI, 60, .inl (upd jfd i0.toNatClampNeg jday))), (jb, .inl (cI, 60, .inl (upd jfb i0.toNatClampNeg r6))), (jw, .inl (cI, 60, .inl (upd jfw i0.toNatClampNeg r9))), (d, .inr (4, [.ref ds, .int dsz, .ref dk, .ref dw, .int dac, .int dwr])), (dk, .inl (cI, 60, .inl dfk)), (dw, .inl (cI, 60, .inl dfw)), (ks, .inl (cI, 5, .inl kfs)), (kw, .inl (cI, 14, .inl kfw)), (km, .inl (cI, 6, .inl kfm)), (k, .inr (0, [.ref ks, .ref kw, .ref kc, .int kwd, .int kbg, .int kme, .ref kq, .ref km, .ref kd, .int ksi, .ref ka, .ref kk])), (kq, .inl (cI, 6, .inl kfq))] H := hP
    replace hD : va_D A [(j, .inr (1, [.ref k, .ref d, .ref jd, .ref jb, .ref jw, .ref jl, .int jbad, .int jwhy, .int jleft, .int jday, .int jwarmDay, .int jbagDays, .int jburnt, .int jboiled])), (jd, .inl (cI, 60, .inl (upd jfd i0.toNatClampNeg jday))), (jb, .inl (cI, 60, .inl (upd jfb i0.toNatClampNeg r6))), (jw, .inl (cI, 60, .inl (upd jfw i0.toNatClampNeg r9))), (d, .inr (4, [.ref ds, .int dsz, .ref dk, .ref dw, .int dac, .int dwr])), (dk, .inl (cI, 60, .inl dfk)), (dw, .inl (cI, 60, .inl dfw)), (ks, .inl (cI, 5, .inl kfs)), (kw, .inl (cI, 14, .inl kfw)), (km, .inl (cI, 6, .inl kfm)), (k, .inr (0, [.ref ks, .ref kw, .ref kc, .int kwd, .int kbg, .int kme, .ref kq, .ref km, .ref kd, .int ksi, .ref ka, .ref kk])), (kq, .inl (cI, 6, .inl kfq))] := hD
    have hP9 := mx_subP (wc := [(j, .inr (1, [.ref k, .ref d, .ref jd, .ref jb, .ref jw, .ref jl, .int jbad, .int jwhy, .int jleft, .int jday, .int jwarmDay, .int jbagDays, .int jburnt, .int jboiled])), (jd, .inl (cI, 60, .inl (upd jfd i0.toNatClampNeg jday))), (jb, .inl (cI, 60, .inl (upd jfb i0.toNatClampNeg r6))), (jw, .inl (cI, 60, .inl (upd jfw i0.toNatClampNeg r9))), (d, .inr (4, [.ref ds, .int dsz, .ref dk, .ref dw, .int dac, .int dwr])), (dk, .inl (cI, 60, .inl dfk)), (dw, .inl (cI, 60, .inl dfw)), (k, .inr (0, [.ref ks, .ref kw, .ref kc, .int kwd, .int kbg, .int kme, .ref kq, .ref km, .ref kd, .int ksi, .ref ka, .ref kk])), (ks, .inl (cI, 5, .inl kfs)), (kw, .inl (cI, 14, .inl kfw)), (kq, .inl (cI, 6, .inl kfq)), (km, .inl (cI, 6, .inl kfm))]) hP [0, 1, 2, 3, 4, 5, 6, 10, 7, 8, 11, 9] rfl
    have hD9 := hD.sub (ws' := [(j, .inr (1, [.ref k, .ref d, .ref jd, .ref jb, .ref jw, .ref jl, .int jbad, .int jwhy, .int jleft, .int jday, .int jwarmDay, .int jbagDays, .int jburnt, .int jboiled])), (jd, .inl (cI, 60, .inl (upd jfd i0.toNatClampNeg jday))), (jb, .inl (cI, 60, .inl (upd jfb i0.toNatClampNeg r6))), (jw, .inl (cI, 60, .inl (upd jfw i0.toNatClampNeg r9))), (d, .inr (4, [.ref ds, .int dsz, .ref dk, .ref dw, .int dac, .int dwr])), (dk, .inl (cI, 60, .inl dfk)), (dw, .inl (cI, 60, .inl dfw)), (k, .inr (0, [.ref ks, .ref kw, .ref kc, .int kwd, .int kbg, .int kme, .ref kq, .ref km, .ref kd, .int ksi, .ref ka, .ref kk])), (ks, .inl (cI, 5, .inl kfs)), (kw, .inl (cI, 14, .inl kfw)), (kq, .inl (cI, 6, .inl kfq)), (km, .inl (cI, 6, .inl kfm))]) [0, 1, 2, 3, 4, 5, 6, 10, 7, 8, 11, 9] (by decide) rfl
    exact W.vret hx hb hr (fun t ht hW => ⟨⟨((fun u9 => ([(upd jfb i0.toNatClampNeg r6), (upd jfd i0.toNatClampNeg jday), (upd jfw i0.toNatClampNeg r9)] : List (Nat → Int32)).getD u9 (fun _ => 0)), (fun u9 => ([] : List Int32).getD u9 0), (fun u9 => ([] : List Int64).getD u9 0)), rfl, (rg_upd h_jfd (by omega) (by omega)), by rw [ht]; exact hP9, hD9⟩, hS.F ht⟩) hS.2.2 dX1_ready_109
  · skip
    refine lv_istore_n (lv' := [(3, .int 0), (2, .int x1), (0, .ref j), (1, .int i0)]) hx hb dX1_ready_18 rfl hl (by decide) rfl (fun ls hl => ?_)
    refine lv_aload_n hx hb dX1_ready_19 rfl (lv_at hl 2 rfl) ?_
    refine va_get (D := (dC, dI)) (ci := 1) (v := .ref k) (C := RX1) (T := TX1) (N := 14) hx hb hts hin1 hown hK hP 0 rfl rfl 0 (by decide) hw2 (fun _ h9 => h9) rfl dX1_ready_20 ?_
    refine lv_aload_n hx hb dX1_ready_23 rfl (lv_at hl 2 rfl) ?_
    refine va_get (D := (dC, dI)) (ci := 1) (v := .int jday) (C := RX1) (T := TX1) (N := 14) hx hb hts hin1 hown hK hP 0 rfl rfl 9 (by decide) hw3 (fun _ h9 => h9) rfl dX1_ready_24 ?_
    refine lv_iconst (v := 0) hx hb dX1_ready_27 (by decide) ?_
    refine mx_i (wr := [(j, .inr (1, [.ref k, .ref d, .ref jd, .ref jb, .ref jw, .ref jl, .int jbad, .int jwhy, .int jleft, .int jday, .int jwarmDay, .int jbagDays, .int jburnt, .int jboiled])), (jd, .inl (cI, 60, .inl jfd)), (jb, .inl (cI, 60, .inl jfb)), (jw, .inl (cI, 60, .inl jfw)), (d, .inr (4, [.ref ds, .int dsz, .ref dk, .ref dw, .int dac, .int dwr])), (dk, .inl (cI, 60, .inl dfk)), (dw, .inl (cI, 60, .inl dfw)), (kq, .inl (cI, 6, .inl kfq)), (km, .inl (cI, 6, .inl kfm))]) (va_runV (As := [.int jday, .int 0]) (rest := []) ⟨hx, hb, hml, hown, hts⟩ (c_X0_windOn l dC dI cI cZ cK tS aK aV k jday 0 ks kw kc kwd kbg kme kq km kd ksi ka kk kfs kfw H.size (by have z8 : (0 : Int32).toInt = 0 := rfl; first | omega | decide | assumption | trivial) h_kfw (by have z8 : (0 : Int32).toInt = 0 := rfl; first | omega | decide | assumption | trivial) (by have z8 : (0 : Int32).toInt = 0 := rfl; first | omega | decide | assumption | trivial)) (cwV 2 hts (gw_v (fun _ h9 => List.mem_cons_of_mem _ h9) wm_383 wm_384 wm_385 wm_14 wm_386) rfl rfl rfl (by decide +kernel) ⟨Nat.le_of_ble_eq_true rfl, Nat.le_of_ble_eq_true rfl⟩) (mx_preV (C := RX0) (T := TX0) (N := 12) (ci := 0) hKx hP hD hS hA [11, 7, 8] (by decide) rfl rfl rfl) rfl rfl hl.1 rfl (lv_room (Nat.le_of_ble_eq_true rfl)) dX1_ready_28 ⟨Nat.le_of_ble_eq_true rfl, Nat.le_of_ble_eq_true rfl⟩) hP hD hS hA [11, 7, 8] [0, 1, 2, 3, 4, 5, 6, 9, 10] rfl rfl (by decide) (by decide) (fun r10 u10 H locs hq10 hP hD hS => ?_)
    replace hP : va_P (dC, dI) vwCl [(j, .inr (1, [.ref k, .ref d, .ref jd, .ref jb, .ref jw, .ref jl, .int jbad, .int jwhy, .int jleft, .int jday, .int jwarmDay, .int jbagDays, .int jburnt, .int jboiled])), (jd, .inl (cI, 60, .inl jfd)), (jb, .inl (cI, 60, .inl jfb)), (jw, .inl (cI, 60, .inl jfw)), (d, .inr (4, [.ref ds, .int dsz, .ref dk, .ref dw, .int dac, .int dwr])), (dk, .inl (cI, 60, .inl dfk)), (dw, .inl (cI, 60, .inl dfw)), (kq, .inl (cI, 6, .inl kfq)), (km, .inl (cI, 6, .inl kfm)), (k, .inr (0, [.ref ks, .ref kw, .ref kc, .int kwd, .int kbg, .int kme, .ref kq, .ref km, .ref kd, .int ksi, .ref ka, .ref kk])), (ks, .inl (cI, 5, .inl kfs)), (kw, .inl (cI, 14, .inl kfw))] H := hP
    replace hD : va_D A [(j, .inr (1, [.ref k, .ref d, .ref jd, .ref jb, .ref jw, .ref jl, .int jbad, .int jwhy, .int jleft, .int jday, .int jwarmDay, .int jbagDays, .int jburnt, .int jboiled])), (jd, .inl (cI, 60, .inl jfd)), (jb, .inl (cI, 60, .inl jfb)), (jw, .inl (cI, 60, .inl jfw)), (d, .inr (4, [.ref ds, .int dsz, .ref dk, .ref dw, .int dac, .int dwr])), (dk, .inl (cI, 60, .inl dfk)), (dw, .inl (cI, 60, .inl dfw)), (kq, .inl (cI, 6, .inl kfq)), (km, .inl (cI, 6, .inl kfm)), (k, .inr (0, [.ref ks, .ref kw, .ref kc, .int kwd, .int kbg, .int kme, .ref kq, .ref km, .ref kd, .int ksi, .ref ka, .ref kk])), (ks, .inl (cI, 5, .inl kfs)), (kw, .inl (cI, 14, .inl kfw))] := hD
    obtain ⟨hx10_0, hr10⟩ := hq10
    replace hx10_0 : (0 : Int32).toInt ≠ 0 ∨ r10 = woF (kfs 3) (kfw jday.toNatClampNeg) := hx10_0
    refine lv_istore (lv' := [(4, .int r10), (3, .int 0), (2, .int x1), (0, .ref j), (1, .int i0)]) hx hb dX1_ready_31 hl (by decide) rfl (fun ls hl => ?_)
    refine lv_aload_n hx hb dX1_ready_33 rfl (lv_at hl 3 rfl) ?_
    refine va_get (D := (dC, dI)) (ci := 1) (v := .ref jd) (C := RX1) (T := TX1) (N := 14) hx hb hts hin1 hown hK hP 0 rfl rfl 2 (by decide) hw4 (fun _ h9 => h9) rfl dX1_ready_34 ?_
    refine lv_iload_n hx hb dX1_ready_37 rfl (lv_at hl 4 rfl) ?_
    refine lv_aload_n hx hb dX1_ready_38 rfl (lv_at hl 3 rfl) ?_
    refine va_get (D := (dC, dI)) (ci := 1) (v := .int jday) (C := RX1) (T := TX1) (N := 14) hx hb hts hin1 hown hK hP 0 rfl rfl 9 (by decide) hw3 (fun _ h9 => h9) rfl dX1_ready_39 ?_
    refine va_iast hx hb hK hP hD hS 1 0 rfl rfl (vin (by omega) (by omega)) dX1_ready_42 (fun H locs hP hD hS => ?_)
    replace hP : va_P (dC, dI) vwCl [(j, .inr (1, [.ref k, .ref d, .ref jd, .ref jb, .ref jw, .ref jl, .int jbad, .int jwhy, .int jleft, .int jday, .int jwarmDay, .int jbagDays, .int jburnt, .int jboiled])), (jd, .inl (cI, 60, .inl (upd jfd i0.toNatClampNeg jday))), (jb, .inl (cI, 60, .inl jfb)), (jw, .inl (cI, 60, .inl jfw)), (d, .inr (4, [.ref ds, .int dsz, .ref dk, .ref dw, .int dac, .int dwr])), (dk, .inl (cI, 60, .inl dfk)), (dw, .inl (cI, 60, .inl dfw)), (kq, .inl (cI, 6, .inl kfq)), (km, .inl (cI, 6, .inl kfm)), (k, .inr (0, [.ref ks, .ref kw, .ref kc, .int kwd, .int kbg, .int kme, .ref kq, .ref km, .ref kd, .int ksi, .ref ka, .ref kk])), (ks, .inl (cI, 5, .inl kfs)), (kw, .inl (cI, 14, .inl kfw))] H := hP
    replace hD : va_D A [(j, .inr (1, [.ref k, .ref d, .ref jd, .ref jb, .ref jw, .ref jl, .int jbad, .int jwhy, .int jleft, .int jday, .int jwarmDay, .int jbagDays, .int jburnt, .int jboiled])), (jd, .inl (cI, 60, .inl (upd jfd i0.toNatClampNeg jday))), (jb, .inl (cI, 60, .inl jfb)), (jw, .inl (cI, 60, .inl jfw)), (d, .inr (4, [.ref ds, .int dsz, .ref dk, .ref dw, .int dac, .int dwr])), (dk, .inl (cI, 60, .inl dfk)), (dw, .inl (cI, 60, .inl dfw)), (kq, .inl (cI, 6, .inl kfq)), (km, .inl (cI, 6, .inl kfm)), (k, .inr (0, [.ref ks, .ref kw, .ref kc, .int kwd, .int kbg, .int kme, .ref kq, .ref km, .ref kd, .int ksi, .ref ka, .ref kk])), (ks, .inl (cI, 5, .inl kfs)), (kw, .inl (cI, 14, .inl kfw))] := hD
    refine lv_aload_n hx hb dX1_ready_43 rfl (lv_at hl 3 rfl) ?_
    refine va_get (D := (dC, dI)) (ci := 1) (v := .ref jb) (C := RX1) (T := TX1) (N := 14) hx hb hts hin1 hown hK hP 0 rfl rfl 3 (by decide) hw5 (fun _ h9 => h9) rfl dX1_ready_44 ?_
    refine lv_iload_n hx hb dX1_ready_47 rfl (lv_at hl 4 rfl) ?_
    refine lv_iload_n hx hb dX1_ready_48 rfl (lv_at hl 1 rfl) ?_
    refine lv_if_eq (tgt := 74) hx hb dX1_ready_49 (by decide) (fun c11 => ?_) (fun c11 => absurd c11 (by decide))
    refine lv_iconst (v := 0) hx hb dX1_ready_74 (by decide) ?_
    refine va_iast hx hb hK hP hD hS 2 0 rfl rfl (vin (by omega) (by omega)) dX1_ready_75 (fun H locs hP hD hS => ?_)
    replace hP : va_P (dC, dI) vwCl [(j, .inr (1, [.ref k, .ref d, .ref jd, .ref jb, .ref jw, .ref jl, .int jbad, .int jwhy, .int jleft, .int jday, .int jwarmDay, .int jbagDays, .int jburnt, .int jboiled])), (jd, .inl (cI, 60, .inl (upd jfd i0.toNatClampNeg jday))), (jb, .inl (cI, 60, .inl (upd jfb i0.toNatClampNeg 0))), (jw, .inl (cI, 60, .inl jfw)), (d, .inr (4, [.ref ds, .int dsz, .ref dk, .ref dw, .int dac, .int dwr])), (dk, .inl (cI, 60, .inl dfk)), (dw, .inl (cI, 60, .inl dfw)), (kq, .inl (cI, 6, .inl kfq)), (km, .inl (cI, 6, .inl kfm)), (k, .inr (0, [.ref ks, .ref kw, .ref kc, .int kwd, .int kbg, .int kme, .ref kq, .ref km, .ref kd, .int ksi, .ref ka, .ref kk])), (ks, .inl (cI, 5, .inl kfs)), (kw, .inl (cI, 14, .inl kfw))] H := hP
    replace hD : va_D A [(j, .inr (1, [.ref k, .ref d, .ref jd, .ref jb, .ref jw, .ref jl, .int jbad, .int jwhy, .int jleft, .int jday, .int jwarmDay, .int jbagDays, .int jburnt, .int jboiled])), (jd, .inl (cI, 60, .inl (upd jfd i0.toNatClampNeg jday))), (jb, .inl (cI, 60, .inl (upd jfb i0.toNatClampNeg 0))), (jw, .inl (cI, 60, .inl jfw)), (d, .inr (4, [.ref ds, .int dsz, .ref dk, .ref dw, .int dac, .int dwr])), (dk, .inl (cI, 60, .inl dfk)), (dw, .inl (cI, 60, .inl dfw)), (kq, .inl (cI, 6, .inl kfq)), (km, .inl (cI, 6, .inl kfm)), (k, .inr (0, [.ref ks, .ref kw, .ref kc, .int kwd, .int kbg, .int kme, .ref kq, .ref km, .ref kd, .int ksi, .ref ka, .ref kk])), (ks, .inl (cI, 5, .inl kfs)), (kw, .inl (cI, 14, .inl kfw))] := hD
    refine lv_aload_n hx hb dX1_ready_76 rfl (lv_at hl 3 rfl) ?_
    refine va_get (D := (dC, dI)) (ci := 1) (v := .ref jw) (C := RX1) (T := TX1) (N := 14) hx hb hts hin1 hown hK hP 0 rfl rfl 4 (by decide) hw7 (fun _ h9 => h9) rfl dX1_ready_77 ?_
    refine lv_iload_n hx hb dX1_ready_80 rfl (lv_at hl 4 rfl) ?_
    refine lv_iload_n hx hb dX1_ready_81 rfl (lv_at hl 1 rfl) ?_
    refine lv_if_eq (tgt := 107) hx hb dX1_ready_82 (by decide) (fun c12 => ?_) (fun c12 => absurd c12 (by decide))
    refine lv_iconst (v := 0) hx hb dX1_ready_107 (by decide) ?_
    refine va_iast hx hb hK hP hD hS 3 0 rfl rfl (vin (by omega) (by omega)) dX1_ready_108 (fun H locs hP hD hS => ?_)
    replace hP : va_P (dC, dI) vwCl [(j, .inr (1, [.ref k, .ref d, .ref jd, .ref jb, .ref jw, .ref jl, .int jbad, .int jwhy, .int jleft, .int jday, .int jwarmDay, .int jbagDays, .int jburnt, .int jboiled])), (jd, .inl (cI, 60, .inl (upd jfd i0.toNatClampNeg jday))), (jb, .inl (cI, 60, .inl (upd jfb i0.toNatClampNeg 0))), (jw, .inl (cI, 60, .inl (upd jfw i0.toNatClampNeg 0))), (d, .inr (4, [.ref ds, .int dsz, .ref dk, .ref dw, .int dac, .int dwr])), (dk, .inl (cI, 60, .inl dfk)), (dw, .inl (cI, 60, .inl dfw)), (kq, .inl (cI, 6, .inl kfq)), (km, .inl (cI, 6, .inl kfm)), (k, .inr (0, [.ref ks, .ref kw, .ref kc, .int kwd, .int kbg, .int kme, .ref kq, .ref km, .ref kd, .int ksi, .ref ka, .ref kk])), (ks, .inl (cI, 5, .inl kfs)), (kw, .inl (cI, 14, .inl kfw))] H := hP
    replace hD : va_D A [(j, .inr (1, [.ref k, .ref d, .ref jd, .ref jb, .ref jw, .ref jl, .int jbad, .int jwhy, .int jleft, .int jday, .int jwarmDay, .int jbagDays, .int jburnt, .int jboiled])), (jd, .inl (cI, 60, .inl (upd jfd i0.toNatClampNeg jday))), (jb, .inl (cI, 60, .inl (upd jfb i0.toNatClampNeg 0))), (jw, .inl (cI, 60, .inl (upd jfw i0.toNatClampNeg 0))), (d, .inr (4, [.ref ds, .int dsz, .ref dk, .ref dw, .int dac, .int dwr])), (dk, .inl (cI, 60, .inl dfk)), (dw, .inl (cI, 60, .inl dfw)), (kq, .inl (cI, 6, .inl kfq)), (km, .inl (cI, 6, .inl kfm)), (k, .inr (0, [.ref ks, .ref kw, .ref kc, .int kwd, .int kbg, .int kme, .ref kq, .ref km, .ref kd, .int ksi, .ref ka, .ref kk])), (ks, .inl (cI, 5, .inl kfs)), (kw, .inl (cI, 14, .inl kfw))] := hD
    have hP9 := mx_subP (wc := [(j, .inr (1, [.ref k, .ref d, .ref jd, .ref jb, .ref jw, .ref jl, .int jbad, .int jwhy, .int jleft, .int jday, .int jwarmDay, .int jbagDays, .int jburnt, .int jboiled])), (jd, .inl (cI, 60, .inl (upd jfd i0.toNatClampNeg jday))), (jb, .inl (cI, 60, .inl (upd jfb i0.toNatClampNeg 0))), (jw, .inl (cI, 60, .inl (upd jfw i0.toNatClampNeg 0))), (d, .inr (4, [.ref ds, .int dsz, .ref dk, .ref dw, .int dac, .int dwr])), (dk, .inl (cI, 60, .inl dfk)), (dw, .inl (cI, 60, .inl dfw)), (k, .inr (0, [.ref ks, .ref kw, .ref kc, .int kwd, .int kbg, .int kme, .ref kq, .ref km, .ref kd, .int ksi, .ref ka, .ref kk])), (ks, .inl (cI, 5, .inl kfs)), (kw, .inl (cI, 14, .inl kfw)), (kq, .inl (cI, 6, .inl kfq)), (km, .inl (cI, 6, .inl kfm))]) hP [0, 1, 2, 3, 4, 5, 6, 9, 10, 11, 7, 8] rfl
    have hD9 := hD.sub (ws' := [(j, .inr (1, [.ref k, .ref d, .ref jd, .ref jb, .ref jw, .ref jl, .int jbad, .int jwhy, .int jleft, .int jday, .int jwarmDay, .int jbagDays, .int jburnt, .int jboiled])), (jd, .inl (cI, 60, .inl (upd jfd i0.toNatClampNeg jday))), (jb, .inl (cI, 60, .inl (upd jfb i0.toNatClampNeg 0))), (jw, .inl (cI, 60, .inl (upd jfw i0.toNatClampNeg 0))), (d, .inr (4, [.ref ds, .int dsz, .ref dk, .ref dw, .int dac, .int dwr])), (dk, .inl (cI, 60, .inl dfk)), (dw, .inl (cI, 60, .inl dfw)), (k, .inr (0, [.ref ks, .ref kw, .ref kc, .int kwd, .int kbg, .int kme, .ref kq, .ref km, .ref kd, .int ksi, .ref ka, .ref kk])), (ks, .inl (cI, 5, .inl kfs)), (kw, .inl (cI, 14, .inl kfw)), (kq, .inl (cI, 6, .inl kfq)), (km, .inl (cI, 6, .inl kfm))]) [0, 1, 2, 3, 4, 5, 6, 9, 10, 11, 7, 8] (by decide) rfl
    exact W.vret hx hb hr (fun t ht hW => ⟨⟨((fun u9 => ([(upd jfb i0.toNatClampNeg 0), (upd jfd i0.toNatClampNeg jday), (upd jfw i0.toNatClampNeg 0)] : List (Nat → Int32)).getD u9 (fun _ => 0)), (fun u9 => ([] : List Int32).getD u9 0), (fun u9 => ([] : List Int64).getD u9 0)), rfl, (rg_upd h_jfd (by omega) (by omega)), by rw [ht]; exact hP9, hD9⟩, hS.F ht⟩) hS.2.2 dX1_ready_109
set_option maxHeartbeats 4000000 in
set_option maxRecDepth 100000 in
theorem c_X1_isCold (l : Launch) (dC : Nat → ClassId) (dI : Nat → Nat → Nat) (cI cZ cK : ClassId) (tS : Nat) (aK aV : Nat → Nat) (j : Nat) (k : Nat) (d : Nat) (jd : Nat) (jb : Nat) (jw : Nat) (jl : Nat) (jbad : Int32) (jwhy : Int32) (jleft : Int32) (jday : Int32) (jwarmDay : Int32) (jbagDays : Int32) (jburnt : Int32) (jboiled : Int32) (ks : Nat) (kw : Nat) (kc : Nat) (kwd : Int32) (kbg : Int32) (kme : Int32) (kq : Nat) (km : Nat) (kd : Nat) (ksi : Int32) (ka : Nat) (kk : Nat) (kfc : Nat → Int32) (sz : Nat) (h_jday : 0 ≤ jday.toInt ∧ jday.toInt ≤ 13) : Ci l yX1_isCold (wq yX1_isCold cX1_isCold 1 (some .boolean)) ({ frames := 0, cells := 0, slots := 0, locals := 0 }) dC dI cI cZ cK tS aK aV [.ref j] sz [(j, .inr (1, [.ref k, .ref d, .ref jd, .ref jb, .ref jw, .ref jl, .int jbad, .int jwhy, .int jleft, .int jday, .int jwarmDay, .int jbagDays, .int jburnt, .int jboiled])), (k, .inr (0, [.ref ks, .ref kw, .ref kc, .int kwd, .int kbg, .int kme, .ref kq, .ref km, .ref kd, .int ksi, .ref ka, .ref kk])), (kc, .inl (cZ, 14, .inl kfc))] (fun (r : Int32) (u : Unit) => True) (fun _ => [(j, .inr (1, [.ref k, .ref d, .ref jd, .ref jb, .ref jw, .ref jl, .int jbad, .int jwhy, .int jleft, .int jday, .int jwarmDay, .int jbagDays, .int jburnt, .int jboiled])), (k, .inr (0, [.ref ks, .ref kw, .ref kc, .int kwd, .int kbg, .int kme, .ref kq, .ref km, .ref kd, .int ksi, .ref ka, .ref kk])), (kc, .inl (cZ, 14, .inl kfc))]) := by
  refine Met.ofW (cc := cX1_isCold) (maxL := 1) (ret := (some .boolean)) (by decide) rfl ?_
  intro p e s m args below meth c s₁ B hml hv
  obtain ⟨rfl, hsz, hP, hKx, hD0⟩ := hv
  have hx := B.exec
  have hb := B.bytes
  have hr := B.returns
  have hts := atoms_spec (ws := wq yX1_isCold cX1_isCold 1 (some .boolean)) B.pre
  have hown : s.vm.findClass RX1 = some m.cls := findClass_of_methodNamed B.named
  have hlocks := B.notSynchronized
  subst hsz
  have hD := hD0.self (sz := s.heap.size)
  generalize hAe : va_A [(j, .inr (1, [.ref k, .ref d, .ref jd, .ref jb, .ref jw, .ref jl, .int jbad, .int jwhy, .int jleft, .int jday, .int jwarmDay, .int jbagDays, .int jburnt, .int jboiled])), (k, .inr (0, [.ref ks, .ref kw, .ref kc, .int kwd, .int kbg, .int kme, .ref kq, .ref km, .ref kd, .int ksi, .ref ka, .ref kk])), (kc, .inl (cZ, 14, .inl kfc))] s.heap.size = A at hD hKx ⊢
  have hA : ∀ q : Nat, s.heap.size ≤ q → A q := fun q h => by rw [← hAe]; exact Or.inr h
  have hS : va_S A s.heap s.heap [] := va_S.rf
  have hP : va_P (dC, dI) vwCl [(j, .inr (1, [.ref k, .ref d, .ref jd, .ref jb, .ref jw, .ref jl, .int jbad, .int jwhy, .int jleft, .int jday, .int jwarmDay, .int jbagDays, .int jburnt, .int jboiled])), (k, .inr (0, [.ref ks, .ref kw, .ref kc, .int kwd, .int kbg, .int kme, .ref kq, .ref km, .ref kd, .int ksi, .ref ka, .ref kk])), (kc, .inl (cZ, 14, .inl kfc))] s.heap := hP
  have hl := lv_entry ([.ref j]) (n := 1) (Nat.le_of_ble_eq_true rfl)
  rw [lg_entry_eq]
  generalize (lg_sl ([.ref j]) ++ List.replicate (1 - (lg_sl ([.ref j])).length) Slot.unset).toArray = ls at hl ⊢
  have hl : lv_has ls 1 [(0, .ref j)] := hl
  have hK := hKx.1
  have hin1 := fun w9 h9 => List.mem_cons_of_mem (Cond.code yX1_isCold cX1_isCold 1 (some .boolean)) (inlX1 w9 h9)
  have hin0 := fun w9 h9 => List.mem_cons_of_mem (Cond.code yX1_isCold cX1_isCold 1 (some .boolean)) (inlX0 w9 h9)
  have hw0 := hts (.fieldLink RX1 24 "OneCan$Course" "camp" "LOneCan$Camp;") (List.mem_cons_of_mem _ wm_72)
  have hw1 := hts (.fieldLink RX1 80 "OneCan$Camp" "colds" "[Z") (List.mem_cons_of_mem _ wm_421)
  have hw2 := hts (.fieldLink RX1 47 "OneCan$Course" "day" "I") (List.mem_cons_of_mem _ wm_364)
  have hw3 := hts (.fieldLink RX1 53 "OneCan$Course" "warmDay" "I") (List.mem_cons_of_mem _ wm_366)
  refine lv_aload_n hx hb dX1_isCold_0 rfl (lv_at hl 0 rfl) ?_
  refine va_get (D := (dC, dI)) (ci := 1) (v := .ref k) (C := RX1) (T := TX1) (N := 14) hx hb hts hin1 hown hK hP 0 rfl rfl 0 (by decide) hw0 (fun _ h9 => h9) rfl dX1_isCold_1 ?_
  refine va_get (D := (dC, dI)) (ci := 0) (v := .ref kc) (C := RX0) (T := TX0) (N := 12) hx hb hts hin0 hown hK hP 1 rfl rfl 2 (by decide) hw1 (fun _ h9 => h9) rfl dX1_isCold_4 ?_
  refine lv_aload_n hx hb dX1_isCold_7 rfl (lv_at hl 0 rfl) ?_
  refine va_get (D := (dC, dI)) (ci := 1) (v := .int jday) (C := RX1) (T := TX1) (N := 14) hx hb hts hin1 hown hK hP 0 rfl rfl 9 (by decide) hw2 (fun _ h9 => h9) rfl dX1_isCold_8 ?_
  refine va_zald hx hb hK hP 2 1 rfl rfl (vin (by omega) (by omega)) dX1_isCold_11 ?_
  refine lv_topi (fun x1 e1 => ?_)
  refine lv_if_eq (tgt := 30) hx hb dX1_isCold_12 (by decide) (fun c2 => ?_) (fun c2 => ?_)
  · have t2 : x1.toInt = (0 : Int) := (teq c2)
    refine lv_iconst (v := 0) hx hb dX1_isCold_30 (by decide) ?_
    have hP9 := mx_subP (wc := [(j, .inr (1, [.ref k, .ref d, .ref jd, .ref jb, .ref jw, .ref jl, .int jbad, .int jwhy, .int jleft, .int jday, .int jwarmDay, .int jbagDays, .int jburnt, .int jboiled])), (k, .inr (0, [.ref ks, .ref kw, .ref kc, .int kwd, .int kbg, .int kme, .ref kq, .ref km, .ref kd, .int ksi, .ref ka, .ref kk])), (kc, .inl (cZ, 14, .inl kfc))]) hP [0, 1, 2] rfl
    have hD9 := hD.sub (ws' := [(j, .inr (1, [.ref k, .ref d, .ref jd, .ref jb, .ref jw, .ref jl, .int jbad, .int jwhy, .int jleft, .int jday, .int jwarmDay, .int jbagDays, .int jburnt, .int jboiled])), (k, .inr (0, [.ref ks, .ref kw, .ref kc, .int kwd, .int kbg, .int kme, .ref kq, .ref km, .ref kd, .int ksi, .ref ka, .ref kk])), (kc, .inl (cZ, 14, .inl kfc))]) [0, 1, 2] (by decide) rfl
    exact W.zret (v := 0) hx hb hr rfl (fun t ht hW => ⟨⟨0, (), rfl, trivial, by rw [ht]; exact hP9, hD9⟩, hS.F ht⟩) hS.2.2 dX1_isCold_31
  · have t2 : x1.toInt ≠ (0 : Int) := (tne c2)
    refine lv_aload_n hx hb dX1_isCold_15 rfl (lv_at hl 0 rfl) ?_
    refine va_get (D := (dC, dI)) (ci := 1) (v := .int jday) (C := RX1) (T := TX1) (N := 14) hx hb hts hin1 hown hK hP 0 rfl rfl 9 (by decide) hw2 (fun _ h9 => h9) rfl dX1_isCold_16 ?_
    refine lv_aload_n hx hb dX1_isCold_19 rfl (lv_at hl 0 rfl) ?_
    refine va_get (D := (dC, dI)) (ci := 1) (v := .int jwarmDay) (C := RX1) (T := TX1) (N := 14) hx hb hts hin1 hown hK hP 0 rfl rfl 10 (by decide) hw3 (fun _ h9 => h9) rfl dX1_isCold_20 ?_
    refine lv_icmp_eq (tgt := 30) hx hb dX1_isCold_23 (by decide) (fun c3 => ?_) (fun c3 => ?_)
    · have t3 : jday.toInt = jwarmDay.toInt := (teq c3)
      refine lv_iconst (v := 0) hx hb dX1_isCold_30 (by decide) ?_
      have hP9 := mx_subP (wc := [(j, .inr (1, [.ref k, .ref d, .ref jd, .ref jb, .ref jw, .ref jl, .int jbad, .int jwhy, .int jleft, .int jday, .int jwarmDay, .int jbagDays, .int jburnt, .int jboiled])), (k, .inr (0, [.ref ks, .ref kw, .ref kc, .int kwd, .int kbg, .int kme, .ref kq, .ref km, .ref kd, .int ksi, .ref ka, .ref kk])), (kc, .inl (cZ, 14, .inl kfc))]) hP [0, 1, 2] rfl
      have hD9 := hD.sub (ws' := [(j, .inr (1, [.ref k, .ref d, .ref jd, .ref jb, .ref jw, .ref jl, .int jbad, .int jwhy, .int jleft, .int jday, .int jwarmDay, .int jbagDays, .int jburnt, .int jboiled])), (k, .inr (0, [.ref ks, .ref kw, .ref kc, .int kwd, .int kbg, .int kme, .ref kq, .ref km, .ref kd, .int ksi, .ref ka, .ref kk])), (kc, .inl (cZ, 14, .inl kfc))]) [0, 1, 2] (by decide) rfl
      exact W.zret (v := 0) hx hb hr rfl (fun t ht hW => ⟨⟨0, (), rfl, trivial, by rw [ht]; exact hP9, hD9⟩, hS.F ht⟩) hS.2.2 dX1_isCold_31
    · have t3 : jday.toInt ≠ jwarmDay.toInt := (tne c3)
      refine lv_iconst (v := 1) hx hb dX1_isCold_26 (by decide) ?_
      refine lv_goto (tgt := 31) hx hb dX1_isCold_27 (by decide) ?_
      have hP9 := mx_subP (wc := [(j, .inr (1, [.ref k, .ref d, .ref jd, .ref jb, .ref jw, .ref jl, .int jbad, .int jwhy, .int jleft, .int jday, .int jwarmDay, .int jbagDays, .int jburnt, .int jboiled])), (k, .inr (0, [.ref ks, .ref kw, .ref kc, .int kwd, .int kbg, .int kme, .ref kq, .ref km, .ref kd, .int ksi, .ref ka, .ref kk])), (kc, .inl (cZ, 14, .inl kfc))]) hP [0, 1, 2] rfl
      have hD9 := hD.sub (ws' := [(j, .inr (1, [.ref k, .ref d, .ref jd, .ref jb, .ref jw, .ref jl, .int jbad, .int jwhy, .int jleft, .int jday, .int jwarmDay, .int jbagDays, .int jburnt, .int jboiled])), (k, .inr (0, [.ref ks, .ref kw, .ref kc, .int kwd, .int kbg, .int kme, .ref kq, .ref km, .ref kd, .int ksi, .ref ka, .ref kk])), (kc, .inl (cZ, 14, .inl kfc))]) [0, 1, 2] (by decide) rfl
      exact W.zret (v := 1) hx hb hr rfl (fun t ht hW => ⟨⟨1, (), rfl, trivial, by rw [ht]; exact hP9, hD9⟩, hS.F ht⟩) hS.2.2 dX1_isCold_31
