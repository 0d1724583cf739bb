set_option maxHeartbeats 4000000 in
set_option maxRecDepth 100000 in
theorem c_X7_shares (l : Launch) (dC : Nat → ClassId) (dI : Nat → Nat → Nat) (cI cZ cK : ClassId) (tS : Nat) (aK aV : Nat → Nat) (h : Nat) (i0 : Int32) (i1 : Int32) (i2 : Int32) (k : Nat) (d : Nat) (j : Nat) (o : Nat) (f : Nat) (g : Nat) (wk : Nat) (im : Nat) (kt : Nat) (dl : Nat) (lfd : Nat → Int32) (ks : Nat) (kw : Nat) (kc : Nat) (kwd : Int32) (kbg : Int32) (kme : Int32) (kq : Nat) (km : Nat) (kd : Nat) (ksi : Int32) (ka : Nat) (kk : Nat) (kfs : Nat → Int32) (kfw : Nat → Int32) (kfq : Nat → Int32) (kfm : Nat → Int32) (sz : Nat) (h_kfs_4 : 0 ≤ (kfs 4).toInt ∧ (kfs 4).toInt ≤ 13) (h_kfw : rg kfw 14 0 4) : Ci l yX7_shares (wq yX7_shares cX7_shares 6 (some .int)) ({ frames := 3, cells := 0, slots := 0, locals := 71 }) dC dI cI cZ cK tS aK aV [.ref h, .int i0, .int i1, .int i2] sz [(h, .inr (7, [.ref k, .ref d, .ref j, .ref o, .ref f, .ref g, .ref wk, .ref im, .ref kt, .ref dl])), (dl, .inl (cI, 4, .inl lfd)), (k, .inr (0, [.ref ks, .ref kw, .ref kc, .int kwd, .int kbg, .int kme, .ref kq, .ref km, .ref kd, .int ksi, .ref ka, .ref kk])), (ks, .inl (cI, 5, .inl kfs)), (kw, .inl (cI, 14, .inl kfw)), (kq, .inl (cI, 6, .inl kfq)), (km, .inl (cI, 6, .inl kfm))] (fun (r : Int32) (u : (Nat → Nat → Int32) × (Nat → Int32) × (Nat → Int64)) => True) (fun u => [(h, .inr (7, [.ref k, .ref d, .ref j, .ref o, .ref f, .ref g, .ref wk, .ref im, .ref kt, .ref dl])), (dl, .inl (cI, 4, .inl (u.1 0))), (k, .inr (0, [.ref ks, .ref kw, .ref kc, .int kwd, .int kbg, .int kme, .ref kq, .ref km, .ref kd, .int ksi, .ref ka, .ref kk])), (ks, .inl (cI, 5, .inl kfs)), (kw, .inl (cI, 14, .inl kfw)), (kq, .inl (cI, 6, .inl kfq)), (km, .inl (cI, 6, .inl kfm))]) := by
  refine Met.ofW (cc := cX7_shares) (maxL := 6) (ret := (some .int)) (by decide) rfl ?_
  intro p e s m args below meth c s₁ B hml hv
  obtain ⟨rfl, hsz, hP, hKx, hD0⟩ := hv
  have hx := B.exec
  have hb := B.bytes
  have hr := B.returns
  have hts := atoms_spec (ws := wq yX7_shares cX7_shares 6 (some .int)) B.pre
  have hown : s.vm.findClass RX7 = some m.cls := findClass_of_methodNamed B.named
  have hlocks := B.notSynchronized
  subst hsz
  have hD := hD0.self (sz := s.heap.size)
  generalize hAe : va_A [(h, .inr (7, [.ref k, .ref d, .ref j, .ref o, .ref f, .ref g, .ref wk, .ref im, .ref kt, .ref dl])), (dl, .inl (cI, 4, .inl lfd)), (k, .inr (0, [.ref ks, .ref kw, .ref kc, .int kwd, .int kbg, .int kme, .ref kq, .ref km, .ref kd, .int ksi, .ref ka, .ref kk])), (ks, .inl (cI, 5, .inl kfs)), (kw, .inl (cI, 14, .inl kfw)), (kq, .inl (cI, 6, .inl kfq)), (km, .inl (cI, 6, .inl kfm))] s.heap.size = A at hD hKx ⊢
  have hA : ∀ q : Nat, s.heap.size ≤ q → A q := fun q h => by rw [← hAe]; exact Or.inr h
  have hS : va_S A s.heap s.heap [] := va_S.rf
  have hP : va_P (dC, dI) vwCl [(h, .inr (7, [.ref k, .ref d, .ref j, .ref o, .ref f, .ref g, .ref wk, .ref im, .ref kt, .ref dl])), (dl, .inl (cI, 4, .inl lfd)), (k, .inr (0, [.ref ks, .ref kw, .ref kc, .int kwd, .int kbg, .int kme, .ref kq, .ref km, .ref kd, .int ksi, .ref ka, .ref kk])), (ks, .inl (cI, 5, .inl kfs)), (kw, .inl (cI, 14, .inl kfw)), (kq, .inl (cI, 6, .inl kfq)), (km, .inl (cI, 6, .inl kfm))] s.heap := hP
  have hl := lv_entry ([.ref h, .int i0, .int i1, .int i2]) (n := 6) (Nat.le_of_ble_eq_true rfl)
  rw [lg_entry_eq]
  generalize (lg_sl ([.ref h, .int i0, .int i1, .int i2]) ++ List.replicate (6 - (lg_sl ([.ref h, .int i0, .int i1, .int i2])).length) Slot.unset).toArray = ls at hl ⊢
  have hl : lv_has ls 6 [(0, .ref h), (1, .int i0), (2, .int i1), (3, .int i2)] := hl
  have hK := hKx.1
  have hin7 := fun w9 h9 => List.mem_cons_of_mem (Cond.code yX7_shares cX7_shares 6 (some .int)) (inlX7 w9 h9)
  have hin0 := fun w9 h9 => List.mem_cons_of_mem (Cond.code yX7_shares cX7_shares 6 (some .int)) (inlX0 w9 h9)
  have hw0 := hts (.fieldLink RX7 12 "OneCan" "camp" "LOneCan$Camp;") (List.mem_cons_of_mem _ wm_15)
  have hw1 := hts (.constant RX7 256 99999999) (List.mem_cons_of_mem _ wm_916)
  have hw2 := hts (.fieldLink RX7 83 "OneCan$Camp" "settings" "[I") (List.mem_cons_of_mem _ wm_140)
  refine lv_aload_n hx hb dX7_shares_0 rfl (lv_at hl 0 rfl) ?_
  refine va_get (D := (dC, dI)) (ci := 7) (v := .ref k) (C := RX7) (T := TX7) (N := 10) hx hb hts hin7 hown hK hP 0 rfl rfl 0 (by decide) hw0 (fun _ h9 => h9) rfl dX7_shares_1 ?_
  refine lv_iload_n hx hb dX7_shares_4 rfl (lv_at hl 1 rfl) ?_
  refine mx_i (wr := [(h, .inr (7, [.ref k, .ref d, .ref j, .ref o, .ref f, .ref g, .ref wk, .ref im, .ref kt, .ref dl])), (dl, .inl (cI, 4, .inl lfd)), (ks, .inl (cI, 5, .inl kfs)), (kw, .inl (cI, 14, .inl kfw)), (kq, .inl (cI, 6, .inl kfq)), (km, .inl (cI, 6, .inl kfm))]) (va_runV (As := [.int i0]) (rest := []) ⟨hx, hb, hml, hown, hts⟩ (c_X0_has l dC dI cI cZ cK tS aK aV k i0 ks kw kc kwd kbg kme kq km kd ksi ka kk s.heap.size) (cwV 1 hts (gw_v (fun _ h9 => List.mem_cons_of_mem _ h9) wm_555 wm_379 wm_380 wm_14 wm_381) rfl rfl rfl (by decide +kernel) ⟨Nat.le_of_ble_eq_true rfl, Nat.le_of_ble_eq_true rfl⟩) (mx_preV (C := RX0) (T := TX0) (N := 12) (ci := 0) hKx hP hD hS hA [2] (by decide) rfl rfl rfl) rfl rfl hl.1 rfl (lv_room (Nat.le_of_ble_eq_true rfl)) dX7_shares_5 ⟨Nat.le_of_ble_eq_true rfl, Nat.le_of_ble_eq_true rfl⟩) hP hD hS hA [2] [0, 1, 3, 4, 5, 6] rfl rfl (by decide) (by decide) (fun r1 u1 H locs hq1 hP hD hS => ?_)
  replace hP : va_P (dC, dI) vwCl [(h, .inr (7, [.ref k, .ref d, .ref j, .ref o, .ref f, .ref g, .ref wk, .ref im, .ref kt, .ref dl])), (dl, .inl (cI, 4, .inl lfd)), (ks, .inl (cI, 5, .inl kfs)), (kw, .inl (cI, 14, .inl kfw)), (kq, .inl (cI, 6, .inl kfq)), (km, .inl (cI, 6, .inl kfm)), (k, .inr (0, [.ref ks, .ref kw, .ref kc, .int kwd, .int kbg, .int kme, .ref kq, .ref km, .ref kd, .int ksi, .ref ka, .ref kk]))] H := hP
  replace hD : va_D A [(h, .inr (7, [.ref k, .ref d, .ref j, .ref o, .ref f, .ref g, .ref wk, .ref im, .ref kt, .ref dl])), (dl, .inl (cI, 4, .inl lfd)), (ks, .inl (cI, 5, .inl kfs)), (kw, .inl (cI, 14, .inl kfw)), (kq, .inl (cI, 6, .inl kfq)), (km, .inl (cI, 6, .inl kfm)), (k, .inr (0, [.ref ks, .ref kw, .ref kc, .int kwd, .int kbg, .int kme, .ref kq, .ref km, .ref kd, .int ksi, .ref ka, .ref kk]))] := hD
  obtain ⟨hx1_0, hr1⟩ := hq1
  replace hx1_0 : r1 = hsF kme i0 := hx1_0
  rcases hr1 with ⟨rfl, hf1⟩ | ⟨rfl, hf1⟩
  · have hf1 : 0 ≤ i0.toInt ∧ i0.toInt ≤ 5 := hf1
    refine lv_if_eq (tgt := 20) hx hb dX7_shares_8 (by decide) (fun c2 => absurd c2 (by decide)) (fun c2 => ?_)
    refine lv_iload_n hx hb dX7_shares_11 rfl (lv_at hl 3 rfl) ?_
    refine lv_iconst (v := 0) hx hb dX7_shares_12 (by decide) ?_
    refine lv_iconst (v := 3) hx hb dX7_shares_13 (by decide) ?_
    refine mx_i (wr := [(h, .inr (7, [.ref k, .ref d, .ref j, .ref o, .ref f, .ref g, .ref wk, .ref im, .ref kt, .ref dl])), (dl, .inl (cI, 4, .inl lfd)), (ks, .inl (cI, 5, .inl kfs)), (kw, .inl (cI, 14, .inl kfw)), (kq, .inl (cI, 6, .inl kfq)), (km, .inl (cI, 6, .inl kfm)), (k, .inr (0, [.ref ks, .ref kw, .ref kc, .int kwd, .int kbg, .int kme, .ref kq, .ref km, .ref kd, .int ksi, .ref ka, .ref kk]))]) (va_runS (As := [.int i2, .int 0, .int 3]) (rest := []) ⟨hx, hb, hml, hown, hts⟩ (c_X7_isIn l dC dI cI cZ cK tS aK aV i2 0 3 H.size) (va_cwS 3 hts (gw_s (fun _ h9 => List.mem_cons_of_mem _ h9) wm_141 wm_142 wm_2 wm_143) rfl rfl rfl (by decide +kernel) ⟨Nat.le_of_ble_eq_true rfl, Nat.le_of_ble_eq_true rfl⟩) (mx_preS hKx hP hD hS hA [] (by decide) rfl) rfl rfl hl.1 rfl (lv_room (Nat.le_of_ble_eq_true rfl)) dX7_shares_14 ⟨Nat.le_of_ble_eq_true rfl, Nat.le_of_ble_eq_true rfl⟩) hP hD hS hA [] [0, 1, 2, 3, 4, 5, 6] rfl rfl (by decide) (by decide) (fun r3 u3 H locs hq3 hP hD hS => ?_)
    replace hP : va_P (dC, dI) vwCl [(h, .inr (7, [.ref k, .ref d, .ref j, .ref o, .ref f, .ref g, .ref wk, .ref im, .ref kt, .ref dl])), (dl, .inl (cI, 4, .inl lfd)), (ks, .inl (cI, 5, .inl kfs)), (kw, .inl (cI, 14, .inl kfw)), (kq, .inl (cI, 6, .inl kfq)), (km, .inl (cI, 6, .inl kfm)), (k, .inr (0, [.ref ks, .ref kw, .ref kc, .int kwd, .int kbg, .int kme, .ref kq, .ref km, .ref kd, .int ksi, .ref ka, .ref kk]))] H := hP
    replace hD : va_D A [(h, .inr (7, [.ref k, .ref d, .ref j, .ref o, .ref f, .ref g, .ref wk, .ref im, .ref kt, .ref dl])), (dl, .inl (cI, 4, .inl lfd)), (ks, .inl (cI, 5, .inl kfs)), (kw, .inl (cI, 14, .inl kfw)), (kq, .inl (cI, 6, .inl kfq)), (km, .inl (cI, 6, .inl kfm)), (k, .inr (0, [.ref ks, .ref kw, .ref kc, .int kwd, .int kbg, .int kme, .ref kq, .ref km, .ref kd, .int ksi, .ref ka, .ref kk]))] := hD
    rcases hq3 with ⟨rfl, hf3⟩ | ⟨rfl, hf3⟩
    · have hf3 : (0 : Int) ≤ i2.toInt ∧ i2.toInt ≤ (3 : Int) := hf3
      refine lv_if_ne (tgt := 22) hx hb dX7_shares_17 (by decide) (fun c4 => ?_) (fun c4 => absurd c4 (by decide))
      refine lv_iload_n hx hb dX7_shares_22 rfl (lv_at hl 2 rfl) ?_
      refine lv_iconst (v := 0) hx hb dX7_shares_23 (by decide) ?_
      refine lv_ldcw (v := 99999999) hx hb hown hw1 dX7_shares_24 ?_
      refine mx_i (wr := [(h, .inr (7, [.ref k, .ref d, .ref j, .ref o, .ref f, .ref g, .ref wk, .ref im, .ref kt, .ref dl])), (dl, .inl (cI, 4, .inl lfd)), (ks, .inl (cI, 5, .inl kfs)), (kw, .inl (cI, 14, .inl kfw)), (kq, .inl (cI, 6, .inl kfq)), (km, .inl (cI, 6, .inl kfm)), (k, .inr (0, [.ref ks, .ref kw, .ref kc, .int kwd, .int kbg, .int kme, .ref kq, .ref km, .ref kd, .int ksi, .ref ka, .ref kk]))]) (va_runS (As := [.int i1, .int 0, .int 99999999]) (rest := []) ⟨hx, hb, hml, hown, hts⟩ (c_X7_isIn l dC dI cI cZ cK tS aK aV i1 0 99999999 H.size) (va_cwS 3 hts (gw_s (fun _ h9 => List.mem_cons_of_mem _ h9) wm_141 wm_142 wm_2 wm_143) rfl rfl rfl (by decide +kernel) ⟨Nat.le_of_ble_eq_true rfl, Nat.le_of_ble_eq_true rfl⟩) (mx_preS hKx hP hD hS hA [] (by decide) rfl) rfl rfl hl.1 rfl (lv_room (Nat.le_of_ble_eq_true rfl)) dX7_shares_27 ⟨Nat.le_of_ble_eq_true rfl, Nat.le_of_ble_eq_true rfl⟩) hP hD hS hA [] [0, 1, 2, 3, 4, 5, 6] rfl rfl (by decide) (by decide) (fun r5 u5 H locs hq5 hP hD hS => ?_)
      replace hP : va_P (dC, dI) vwCl [(h, .inr (7, [.ref k, .ref d, .ref j, .ref o, .ref f, .ref g, .ref wk, .ref im, .ref kt, .ref dl])), (dl, .inl (cI, 4, .inl lfd)), (ks, .inl (cI, 5, .inl kfs)), (kw, .inl (cI, 14, .inl kfw)), (kq, .inl (cI, 6, .inl kfq)), (km, .inl (cI, 6, .inl kfm)), (k, .inr (0, [.ref ks, .ref kw, .ref kc, .int kwd, .int kbg, .int kme, .ref kq, .ref km, .ref kd, .int ksi, .ref ka, .ref kk]))] H := hP
      replace hD : va_D A [(h, .inr (7, [.ref k, .ref d, .ref j, .ref o, .ref f, .ref g, .ref wk, .ref im, .ref kt, .ref dl])), (dl, .inl (cI, 4, .inl lfd)), (ks, .inl (cI, 5, .inl kfs)), (kw, .inl (cI, 14, .inl kfw)), (kq, .inl (cI, 6, .inl kfq)), (km, .inl (cI, 6, .inl kfm)), (k, .inr (0, [.ref ks, .ref kw, .ref kc, .int kwd, .int kbg, .int kme, .ref kq, .ref km, .ref kd, .int ksi, .ref ka, .ref kk]))] := hD
      rcases hq5 with ⟨rfl, hf5⟩ | ⟨rfl, hf5⟩
      · have hf5 : (0 : Int) ≤ i1.toInt ∧ i1.toInt ≤ (99999999 : Int) := hf5
        refine lv_if_ne (tgt := 36) hx hb dX7_shares_30 (by decide) (fun c6 => ?_) (fun c6 => absurd c6 (by decide))
        refine lv_aload_n hx hb dX7_shares_36 rfl (lv_at hl 0 rfl) ?_
        refine va_get (D := (dC, dI)) (ci := 7) (v := .ref k) (C := RX7) (T := TX7) (N := 10) hx hb hts hin7 hown hK hP 0 rfl rfl 0 (by decide) hw0 (fun _ h9 => h9) rfl dX7_shares_37 ?_
        refine lv_iload_n hx hb dX7_shares_40 rfl (lv_at hl 1 rfl) ?_
        refine lv_aload_n hx hb dX7_shares_41 rfl (lv_at hl 0 rfl) ?_
        refine va_get (D := (dC, dI)) (ci := 7) (v := .ref k) (C := RX7) (T := TX7) (N := 10) hx hb hts hin7 hown hK hP 0 rfl rfl 0 (by decide) hw0 (fun _ h9 => h9) rfl dX7_shares_42 ?_
        refine va_get (D := (dC, dI)) (ci := 0) (v := .ref ks) (C := RX0) (T := TX0) (N := 12) hx hb hts hin0 hown hK hP 6 rfl rfl 0 (by decide) hw2 (fun _ h9 => h9) rfl dX7_shares_45 ?_
        refine lv_iconst (v := 4) hx hb dX7_shares_48 (by decide) ?_
        refine va_iald hx hb hK hP 2 0 rfl rfl (vin (by decide) (by decide)) dX7_shares_49 ?_
        refine lv_topi (fun y7 e7 => ?_)
        obtain rfl : kfs 4 = y7 := e7.symm
        refine lv_iconst (v := 0) hx hb dX7_shares_50 (by decide) ?_
        refine mx_i (wr := [(h, .inr (7, [.ref k, .ref d, .ref j, .ref o, .ref f, .ref g, .ref wk, .ref im, .ref kt, .ref dl])), (dl, .inl (cI, 4, .inl lfd))]) (va_runV (As := [.int i0, .int (kfs 4), .int 0]) (rest := []) ⟨hx, hb, hml, hown, hts⟩ (c_X0_toBoilOn l dC dI cI cZ cK tS aK aV k i0 (kfs 4) 0 ks kw kc kwd kbg kme kq km kd ksi ka kk kfs kfw kfq kfm H.size (by have z8 : (0 : Int32).toInt = 0 := rfl; first | omega | decide | assumption | trivial) h_kfw (by have z8 : (0 : Int32).toInt = 0 := rfl; first | omega | decide | assumption | trivial) (by have z8 : (0 : Int32).toInt = 0 := rfl; first | omega | decide | assumption | trivial)) (cwV 3 hts (gw_v (fun _ h9 => List.mem_cons_of_mem _ h9) wm_682 wm_588 wm_589 wm_14 wm_590) rfl rfl rfl (by decide +kernel) ⟨Nat.le_of_ble_eq_true rfl, Nat.le_of_ble_eq_true rfl⟩) (mx_preV (C := RX0) (T := TX0) (N := 12) (ci := 0) hKx hP hD hS hA [6, 2, 3, 4, 5] (by decide) rfl rfl rfl) rfl rfl hl.1 rfl (lv_room (Nat.le_of_ble_eq_true rfl)) dX7_shares_51 ⟨Nat.le_of_ble_eq_true rfl, Nat.le_of_ble_eq_true rfl⟩) hP hD hS hA [6, 2, 3, 4, 5] [0, 1] rfl rfl (by decide) (by decide) (fun r8 u8 H locs hq8 hP hD hS => ?_)
        replace hP : va_P (dC, dI) vwCl [(h, .inr (7, [.ref k, .ref d, .ref j, .ref o, .ref f, .ref g, .ref wk, .ref im, .ref kt, .ref dl])), (dl, .inl (cI, 4, .inl lfd)), (k, .inr (0, [.ref ks, .ref kw, .ref kc, .int kwd, .int kbg, .int kme, .ref kq, .ref km, .ref kd, .int ksi, .ref ka, .ref kk])), (ks, .inl (cI, 5, .inl kfs)), (kw, .inl (cI, 14, .inl kfw)), (kq, .inl (cI, 6, .inl kfq)), (km, .inl (cI, 6, .inl kfm))] H := hP
        replace hD : va_D A [(h, .inr (7, [.ref k, .ref d, .ref j, .ref o, .ref f, .ref g, .ref wk, .ref im, .ref kt, .ref dl])), (dl, .inl (cI, 4, .inl lfd)), (k, .inr (0, [.ref ks, .ref kw, .ref kc, .int kwd, .int kbg, .int kme, .ref kq, .ref km, .ref kd, .int ksi, .ref ka, .ref kk])), (ks, .inl (cI, 5, .inl kfs)), (kw, .inl (cI, 14, .inl kfw)), (kq, .inl (cI, 6, .inl kfq)), (km, .inl (cI, 6, .inl kfm))] := hD
        have hx8_0 := hq8
        replace hx8_0 : r8 = tbF (kfq i0.toNatClampNeg) (kfm i0.toNatClampNeg) (woF (kfs 3) (kfw (kfs 4).toNatClampNeg)) (0 : Int32) := hx8_0
        refine lv_istore (lv' := [(4, .int r8), (0, .ref h), (1, .int i0), (2, .int i1), (3, .int i2)]) hx hb dX7_shares_54 hl (by decide) rfl (fun ls hl => ?_)
        refine lv_iload hx hb dX7_shares_56 (lv_at hl 0 rfl) ?_
        refine lv_if_le (tgt := 76) hx hb dX7_shares_58 (by decide) (fun c9 => ?_) (fun c9 => ?_)
        · have t9 : r8.toInt ≤ (0 : Int) := (tle c9)
          refine lv_iconst (v := 0) hx hb dX7_shares_76 (by decide) ?_
          refine lv_istore (lv' := [(5, .int 0), (4, .int r8), (0, .ref h), (1, .int i0), (2, .int i1), (3, .int i2)]) hx hb dX7_shares_77 hl (by decide) rfl (fun ls hl => ?_)
          refine lv_aload_n hx hb dX7_shares_79 rfl (lv_at hl 2 rfl) ?_
          refine lv_iload hx hb dX7_shares_80 (lv_at hl 0 rfl) ?_
          refine lv_iload_n hx hb dX7_shares_82 rfl (lv_at hl 4 rfl) ?_
          refine lv_iload_n hx hb dX7_shares_83 rfl (lv_at hl 5 rfl) ?_
          refine mx_i (wr := [(k, .inr (0, [.ref ks, .ref kw, .ref kc, .int kwd, .int kbg, .int kme, .ref kq, .ref km, .ref kd, .int ksi, .ref ka, .ref kk])), (ks, .inl (cI, 5, .inl kfs)), (kw, .inl (cI, 14, .inl kfw)), (kq, .inl (cI, 6, .inl kfq)), (km, .inl (cI, 6, .inl kfm))]) (va_runV (As := [.int 0, .int i1, .int i2]) (rest := []) ⟨hx, hb, hml, hown, hts⟩ (c_X7_deal l dC dI cI cZ cK tS aK aV h 0 i1 i2 k d j o f g wk im kt dl lfd H.size (by have z8 : (0 : Int32).toInt = 0 := rfl; first | omega | decide | assumption | trivial)) (cwV 3 hts (gw_v (fun _ h9 => List.mem_cons_of_mem _ h9) wm_917 wm_918 wm_919 wm_2 wm_920) rfl rfl rfl (by decide +kernel) ⟨Nat.le_of_ble_eq_true rfl, Nat.le_of_ble_eq_true rfl⟩) (mx_preV (C := RX7) (T := TX7) (N := 10) (ci := 7) hKx hP hD hS hA [0, 1] (by decide) rfl rfl rfl) rfl rfl hl.1 rfl (lv_room (Nat.le_of_ble_eq_true rfl)) dX7_shares_84 ⟨Nat.le_of_ble_eq_true rfl, Nat.le_of_ble_eq_true rfl⟩) hP hD hS hA [0, 1] [2, 3, 4, 5, 6] rfl rfl (by decide) (by decide) (fun r10 u10 H locs hq10 hP hD hS => ?_)
          replace hP : va_P (dC, dI) vwCl [(k, .inr (0, [.ref ks, .ref kw, .ref kc, .int kwd, .int kbg, .int kme, .ref kq, .ref km, .ref kd, .int ksi, .ref ka, .ref kk])), (ks, .inl (cI, 5, .inl kfs)), (kw, .inl (cI, 14, .inl kfw)), (kq, .inl (cI, 6, .inl kfq)), (km, .inl (cI, 6, .inl kfm)), (h, .inr (7, [.ref k, .ref d, .ref j, .ref o, .ref f, .ref g, .ref wk, .ref im, .ref kt, .ref dl])), (dl, .inl (cI, 4, .inl (u10.1 0)))] H := hP
          replace hD : va_D A [(k, .inr (0, [.ref ks, .ref kw, .ref kc, .int kwd, .int kbg, .int kme, .ref kq, .ref km, .ref kd, .int ksi, .ref ka, .ref kk])), (ks, .inl (cI, 5, .inl kfs)), (kw, .inl (cI, 14, .inl kfw)), (kq, .inl (cI, 6, .inl kfq)), (km, .inl (cI, 6, .inl kfm)), (h, .inr (7, [.ref k, .ref d, .ref j, .ref o, .ref f, .ref g, .ref wk, .ref im, .ref kt, .ref dl])), (dl, .inl (cI, 4, .inl (u10.1 0)))] := hD
          have hP9 := mx_subP (wc := [(h, .inr (7, [.ref k, .ref d, .ref j, .ref o, .ref f, .ref g, .ref wk, .ref im, .ref kt, .ref dl])), (dl, .inl (cI, 4, .inl (u10.1 0))), (k, .inr (0, [.ref ks, .ref kw, .ref kc, .int kwd, .int kbg, .int kme, .ref kq, .ref km, .ref kd, .int ksi, .ref ka, .ref kk])), (ks, .inl (cI, 5, .inl kfs)), (kw, .inl (cI, 14, .inl kfw)), (kq, .inl (cI, 6, .inl kfq)), (km, .inl (cI, 6, .inl kfm))]) hP [5, 6, 0, 1, 2, 3, 4] rfl
          have hD9 := hD.sub (ws' := [(h, .inr (7, [.ref k, .ref d, .ref j, .ref o, .ref f, .ref g, .ref wk, .ref im, .ref kt, .ref dl])), (dl, .inl (cI, 4, .inl (u10.1 0))), (k, .inr (0, [.ref ks, .ref kw, .ref kc, .int kwd, .int kbg, .int kme, .ref kq, .ref km, .ref kd, .int ksi, .ref ka, .ref kk])), (ks, .inl (cI, 5, .inl kfs)), (kw, .inl (cI, 14, .inl kfw)), (kq, .inl (cI, 6, .inl kfq)), (km, .inl (cI, 6, .inl kfm))]) [5, 6, 0, 1, 2, 3, 4] (by decide) rfl
          exact W.iret (v := r10) hx hb hr (fun t ht hW => ⟨⟨r10, ((fun u9 => ([(u10.1 0)] : List (Nat → Int32)).getD u9 (fun _ => 0)), (fun u9 => ([] : List Int32).getD u9 0), (fun u9 => ([] : List Int64).getD u9 0)), rfl, trivial, by rw [ht]; exact hP9, hD9⟩, hS.F ht⟩) hS.2.2 dX7_shares_87
        · have t9 : (0 : Int) < r8.toInt := (tnle c9)
          refine lv_aload_n hx hb dX7_shares_61 rfl (lv_at hl 1 rfl) ?_
          refine va_get (D := (dC, dI)) (ci := 7) (v := .ref k) (C := RX7) (T := TX7) (N := 10) hx hb hts hin7 hown hK hP 0 rfl rfl 0 (by decide) hw0 (fun _ h9 => h9) rfl dX7_shares_62 ?_
          refine va_get (D := (dC, dI)) (ci := 0) (v := .ref ks) (C := RX0) (T := TX0) (N := 12) hx hb hts hin0 hown hK hP 2 rfl rfl 0 (by decide) hw2 (fun _ h9 => h9) rfl dX7_shares_65 ?_
          refine lv_iconst (v := 0) hx hb dX7_shares_68 (by decide) ?_
          refine va_iald hx hb hK hP 3 0 rfl rfl (vin (by decide) (by decide)) dX7_shares_69 ?_
          refine lv_topi (fun x11 e11 => ?_)
          refine lv_iload hx hb dX7_shares_70 (lv_at hl 0 rfl) ?_
          refine lv_idiv hx hb dX7_shares_72 (by intro h9; have := teq h9; have h8 : (0 : Int32).toInt = 0 := rfl; omega) ?_
          refine lv_topi (fun x12 e12 => ?_)
          refine lv_goto (tgt := 77) hx hb dX7_shares_73 (by decide) ?_
          refine lv_istore (lv' := [(5, .int x12), (4, .int r8), (0, .ref h), (1, .int i0), (2, .int i1), (3, .int i2)]) hx hb dX7_shares_77 hl (by decide) rfl (fun ls hl => ?_)
          refine lv_aload_n hx hb dX7_shares_79 rfl (lv_at hl 2 rfl) ?_
          refine lv_iload hx hb dX7_shares_80 (lv_at hl 0 rfl) ?_
          refine lv_iload_n hx hb dX7_shares_82 rfl (lv_at hl 4 rfl) ?_
          refine lv_iload_n hx hb dX7_shares_83 rfl (lv_at hl 5 rfl) ?_
          refine mx_i (wr := [(k, .inr (0, [.ref ks, .ref kw, .ref kc, .int kwd, .int kbg, .int kme, .ref kq, .ref km, .ref kd, .int ksi, .ref ka, .ref kk])), (ks, .inl (cI, 5, .inl kfs)), (kw, .inl (cI, 14, .inl kfw)), (kq, .inl (cI, 6, .inl kfq)), (km, .inl (cI, 6, .inl kfm))]) (va_runV (As := [.int x12, .int i1, .int i2]) (rest := []) ⟨hx, hb, hml, hown, hts⟩ (c_X7_deal l dC dI cI cZ cK tS aK aV h x12 i1 i2 k d j o f g wk im kt dl lfd H.size (by first | omega | decide | assumption | trivial)) (cwV 3 hts (gw_v (fun _ h9 => List.mem_cons_of_mem _ h9) wm_917 wm_918 wm_919 wm_2 wm_920) rfl rfl rfl (by decide +kernel) ⟨Nat.le_of_ble_eq_true rfl, Nat.le_of_ble_eq_true rfl⟩) (mx_preV (C := RX7) (T := TX7) (N := 10) (ci := 7) hKx hP hD hS hA [0, 1] (by decide) rfl rfl rfl) rfl rfl hl.1 rfl (lv_room (Nat.le_of_ble_eq_true rfl)) dX7_shares_84 ⟨Nat.le_of_ble_eq_true rfl, Nat.le_of_ble_eq_true rfl⟩) hP hD hS hA [0, 1] [2, 3, 4, 5, 6] rfl rfl (by decide) (by decide) (fun r13 u13 H locs hq13 hP hD hS => ?_)
          replace hP : va_P (dC, dI) vwCl [(k, .inr (0, [.ref ks, .ref kw, .ref kc, .int kwd, .int kbg, .int kme, .ref kq, .ref km, .ref kd, .int ksi, .ref ka, .ref kk])), (ks, .inl (cI, 5, .inl kfs)), (kw, .inl (cI, 14, .inl kfw)), (kq, .inl (cI, 6, .inl kfq)), (km, .inl (cI, 6, .inl kfm)), (h, .inr (7, [.ref k, .ref d, .ref j, .ref o, .ref f, .ref g, .ref wk, .ref im, .ref kt, .ref dl])), (dl, .inl (cI, 4, .inl (u13.1 0)))] H := hP
          replace hD : va_D A [(k, .inr (0, [.ref ks, .ref kw, .ref kc, .int kwd, .int kbg, .int kme, .ref kq, .ref km, .ref kd, .int ksi, .ref ka, .ref kk])), (ks, .inl (cI, 5, .inl kfs)), (kw, .inl (cI, 14, .inl kfw)), (kq, .inl (cI, 6, .inl kfq)), (km, .inl (cI, 6, .inl kfm)), (h, .inr (7, [.ref k, .ref d, .ref j, .ref o, .ref f, .ref g, .ref wk, .ref im, .ref kt, .ref dl])), (dl, .inl (cI, 4, .inl (u13.1 0)))] := hD
          have hP9 := mx_subP (wc := [(h, .inr (7, [.ref k, .ref d, .ref j, .ref o, .ref f, .ref g, .ref wk, .ref im, .ref kt, .ref dl])), (dl, .inl (cI, 4, .inl (u13.1 0))), (k, .inr (0, [.ref ks, .ref kw, .ref kc, .int kwd, .int kbg, .int kme, .ref kq, .ref km, .ref kd, .int ksi, .ref ka, .ref kk])), (ks, .inl (cI, 5, .inl kfs)), (kw, .inl (cI, 14, .inl kfw)), (kq, .inl (cI, 6, .inl kfq)), (km, .inl (cI, 6, .inl kfm))]) hP [5, 6, 0, 1, 2, 3, 4] rfl
          have hD9 := hD.sub (ws' := [(h, .inr (7, [.ref k, .ref d, .ref j, .ref o, .ref f, .ref g, .ref wk, .ref im, .ref kt, .ref dl])), (dl, .inl (cI, 4, .inl (u13.1 0))), (k, .inr (0, [.ref ks, .ref kw, .ref kc, .int kwd, .int kbg, .int kme, .ref kq, .ref km, .ref kd, .int ksi, .ref ka, .ref kk])), (ks, .inl (cI, 5, .inl kfs)), (kw, .inl (cI, 14, .inl kfw)), (kq, .inl (cI, 6, .inl kfq)), (km, .inl (cI, 6, .inl kfm))]) [5, 6, 0, 1, 2, 3, 4] (by decide) rfl
          exact W.iret (v := r13) hx hb hr (fun t ht hW => ⟨⟨r13, ((fun u9 => ([(u13.1 0)] : List (Nat → Int32)).getD u9 (fun _ => 0)), (fun u9 => ([] : List Int32).getD u9 0), (fun u9 => ([] : List Int64).getD u9 0)), rfl, trivial, by rw [ht]; exact hP9, hD9⟩, hS.F ht⟩) hS.2.2 dX7_shares_87
      · have hf5 : i1.toInt < (0 : Int) ∨ (99999999 : Int) < i1.toInt := hf5
        refine lv_if_ne (tgt := 36) hx hb dX7_shares_30 (by decide) (fun c14 => absurd c14 (by decide)) (fun c14 => ?_)
        refine lv_bipush (v := (-2)) hx hb dX7_shares_33 (by decide) ?_
        have hP9 := mx_subP (wc := [(h, .inr (7, [.ref k, .ref d, .ref j, .ref o, .ref f, .ref g, .ref wk, .ref im, .ref kt, .ref dl])), (dl, .inl (cI, 4, .inl lfd)), (k, .inr (0, [.ref ks, .ref kw, .ref kc, .int kwd, .int kbg, .int kme, .ref kq, .ref km, .ref kd, .int ksi, .ref ka, .ref kk])), (ks, .inl (cI, 5, .inl kfs)), (kw, .inl (cI, 14, .inl kfw)), (kq, .inl (cI, 6, .inl kfq)), (km, .inl (cI, 6, .inl kfm))]) hP [0, 1, 6, 2, 3, 4, 5] rfl
        have hD9 := hD.sub (ws' := [(h, .inr (7, [.ref k, .ref d, .ref j, .ref o, .ref f, .ref g, .ref wk, .ref im, .ref kt, .ref dl])), (dl, .inl (cI, 4, .inl lfd)), (k, .inr (0, [.ref ks, .ref kw, .ref kc, .int kwd, .int kbg, .int kme, .ref kq, .ref km, .ref kd, .int ksi, .ref ka, .ref kk])), (ks, .inl (cI, 5, .inl kfs)), (kw, .inl (cI, 14, .inl kfw)), (kq, .inl (cI, 6, .inl kfq)), (km, .inl (cI, 6, .inl kfm))]) [0, 1, 6, 2, 3, 4, 5] (by decide) rfl
        exact W.iret (v := (-2)) hx hb hr (fun t ht hW => ⟨⟨(-2), ((fun u9 => ([lfd] : List (Nat → Int32)).getD u9 (fun _ => 0)), (fun u9 => ([] : List Int32).getD u9 0), (fun u9 => ([] : List Int64).getD u9 0)), rfl, trivial, by rw [ht]; exact hP9, hD9⟩, hS.F ht⟩) hS.2.2 dX7_shares_35
    · have hf3 : i2.toInt < (0 : Int) ∨ (3 : Int) < i2.toInt := hf3
      refine lv_if_ne (tgt := 22) hx hb dX7_shares_17 (by decide) (fun c15 => absurd c15 (by decide)) (fun c15 => ?_)
      refine lv_iconst (v := (-1)) hx hb dX7_shares_20 (by decide) ?_
      have hP9 := mx_subP (wc := [(h, .inr (7, [.ref k, .ref d, .ref j, .ref o, .ref f, .ref g, .ref wk, .ref im, .ref kt, .ref dl])), (dl, .inl (cI, 4, .inl lfd)), (k, .inr (0, [.ref ks, .ref kw, .ref kc, .int kwd, .int kbg, .int kme, .ref kq, .ref km, .ref kd, .int ksi, .ref ka, .ref kk])), (ks, .inl (cI, 5, .inl kfs)), (kw, .inl (cI, 14, .inl kfw)), (kq, .inl (cI, 6, .inl kfq)), (km, .inl (cI, 6, .inl kfm))]) hP [0, 1, 6, 2, 3, 4, 5] rfl
      have hD9 := hD.sub (ws' := [(h, .inr (7, [.ref k, .ref d, .ref j, .ref o, .ref f, .ref g, .ref wk, .ref im, .ref kt, .ref dl])), (dl, .inl (cI, 4, .inl lfd)), (k, .inr (0, [.ref ks, .ref kw, .ref kc, .int kwd, .int kbg, .int kme, .ref kq, .ref km, .ref kd, .int ksi, .ref ka, .ref kk])), (ks, .inl (cI, 5, .inl kfs)), (kw, .inl (cI, 14, .inl kfw)), (kq, .inl (cI, 6, .inl kfq)), (km, .inl (cI, 6, .inl kfm))]) [0, 1, 6, 2, 3, 4, 5] (by decide) rfl
      exact W.iret (v := (-1)) hx hb hr (fun t ht hW => ⟨⟨(-1), ((fun u9 => ([lfd] : List (Nat → Int32)).getD u9 (fun _ => 0)), (fun u9 => ([] : List Int32).getD u9 0), (fun u9 => ([] : List Int64).getD u9 0)), rfl, trivial, by rw [ht]; exact hP9, hD9⟩, hS.F ht⟩) hS.2.2 dX7_shares_21
  · skip
    refine lv_if_eq (tgt := 20) hx hb dX7_shares_8 (by decide) (fun c16 => ?_) (fun c16 => absurd c16 (by decide))
    refine lv_iconst (v := (-1)) hx hb dX7_shares_20 (by decide) ?_
    have hP9 := mx_subP (wc := [(h, .inr (7, [.ref k, .ref d, .ref j, .ref o, .ref f, .ref g, .ref wk, .ref im, .ref kt, .ref dl])), (dl, .inl (cI, 4, .inl lfd)), (k, .inr (0, [.ref ks, .ref kw, .ref kc, .int kwd, .int kbg, .int kme, .ref kq, .ref km, .ref kd, .int ksi, .ref ka, .ref kk])), (ks, .inl (cI, 5, .inl kfs)), (kw, .inl (cI, 14, .inl kfw)), (kq, .inl (cI, 6, .inl kfq)), (km, .inl (cI, 6, .inl kfm))]) hP [0, 1, 6, 2, 3, 4, 5] rfl
    have hD9 := hD.sub (ws' := [(h, .inr (7, [.ref k, .ref d, .ref j, .ref o, .ref f, .ref g, .ref wk, .ref im, .ref kt, .ref dl])), (dl, .inl (cI, 4, .inl lfd)), (k, .inr (0, [.ref ks, .ref kw, .ref kc, .int kwd, .int kbg, .int kme, .ref kq, .ref km, .ref kd, .int ksi, .ref ka, .ref kk])), (ks, .inl (cI, 5, .inl kfs)), (kw, .inl (cI, 14, .inl kfw)), (kq, .inl (cI, 6, .inl kfq)), (km, .inl (cI, 6, .inl kfm))]) [0, 1, 6, 2, 3, 4, 5] (by decide) rfl
    exact W.iret (v := (-1)) hx hb hr (fun t ht hW => ⟨⟨(-1), ((fun u9 => ([lfd] : List (Nat → Int32)).getD u9 (fun _ => 0)), (fun u9 => ([] : List Int32).getD u9 0), (fun u9 => ([] : List Int64).getD u9 0)), rfl, trivial, by rw [ht]; exact hP9, hD9⟩, hS.F ht⟩) hS.2.2 dX7_shares_21
set_option maxHeartbeats 4000000 in
set_option maxRecDepth 100000 in
theorem c_X6_tryToBoil (l : Launch) (dC : Nat → ClassId) (dI : Nat → Nat → Nat) (cI cZ cK : ClassId) (tS : Nat) (aK aV : Nat → Nat) (wk : Nat) (i0 : Int32) (i1 : Int32) (k : Nat) (wl : Int32) (wb : Int32) (ww : Int32) (ks : Nat) (kw : Nat) (kc : Nat) (kwd : Int32) (kbg : Int32) (kme : Int32) (kq : Nat) (km : Nat) (kd : Nat) (ksi : Int32) (ka : Nat) (kk : Nat) (kfs : Nat → Int32) (kfq : Nat → Int32) (kfm : Nat → Int32) (kfd : Nat → Int32) (sz : Nat) (h_kfs_4 : 0 ≤ (kfs 4).toInt ∧ (kfs 4).toInt ≤ 13) : Cv l yX6_tryToBoil (wq yX6_tryToBoil cX6_tryToBoil 4 none) ({ frames := 2, cells := 0, slots := 0, locals := 48 }) dC dI cI cZ cK tS aK aV [.ref wk, .int i0, .int i1] sz [(wk, .inr (6, [.ref k, .int wl, .int wb, .int ww])), (k, .inr (0, [.ref ks, .ref kw, .ref kc, .int kwd, .int kbg, .int kme, .ref kq, .ref km, .ref kd, .int ksi, .ref ka, .ref kk])), (ks, .inl (cI, 5, .inl kfs)), (kq, .inl (cI, 6, .inl kfq)), (km, .inl (cI, 6, .inl kfm)), (kd, .inl (cI, 6, .inl kfd))] (fun (u : (Nat → Nat → Int32) × (Nat → Int32) × (Nat → Int64)) => True) (fun u => [(wk, .inr (6, [.ref k, .int (u.2.1 0), .int (u.2.1 1), .int (u.2.1 2)])), (k, .inr (0, [.ref ks, .ref kw, .ref kc, .int kwd, .int kbg, .int kme, .ref kq, .ref km, .ref kd, .int ksi, .ref ka, .ref kk])), (ks, .inl (cI, 5, .inl kfs)), (kq, .inl (cI, 6, .inl kfq)), (km, .inl (cI, 6, .inl kfm)), (kd, .inl (cI, 6, .inl kfd))]) := by
  refine Met.ofW (cc := cX6_tryToBoil) (maxL := 4) (ret := none) (by decide) rfl ?_
  intro p e s m args below meth c s₁ B hml hv
  obtain ⟨rfl, hsz, hP, hKx, hD0⟩ := hv
  have hx := B.exec
  have hb := B.bytes
  have hr := B.returns
  have hts := atoms_spec (ws := wq yX6_tryToBoil cX6_tryToBoil 4 none) B.pre
  have hown : s.vm.findClass RX6 = some m.cls := findClass_of_methodNamed B.named
  have hlocks := B.notSynchronized
  subst hsz
  have hD := hD0.self (sz := s.heap.size)
  generalize hAe : va_A [(wk, .inr (6, [.ref k, .int wl, .int wb, .int ww])), (k, .inr (0, [.ref ks, .ref kw, .ref kc, .int kwd, .int kbg, .int kme, .ref kq, .ref km, .ref kd, .int ksi, .ref ka, .ref kk])), (ks, .inl (cI, 5, .inl kfs)), (kq, .inl (cI, 6, .inl kfq)), (km, .inl (cI, 6, .inl kfm)), (kd, .inl (cI, 6, .inl kfd))] s.heap.size = A at hD hKx ⊢
  have hA : ∀ q : Nat, s.heap.size ≤ q → A q := fun q h => by rw [← hAe]; exact Or.inr h
  have hS : va_S A s.heap s.heap [] := va_S.rf
  have hP : va_P (dC, dI) vwCl [(wk, .inr (6, [.ref k, .int wl, .int wb, .int ww])), (k, .inr (0, [.ref ks, .ref kw, .ref kc, .int kwd, .int kbg, .int kme, .ref kq, .ref km, .ref kd, .int ksi, .ref ka, .ref kk])), (ks, .inl (cI, 5, .inl kfs)), (kq, .inl (cI, 6, .inl kfq)), (km, .inl (cI, 6, .inl kfm)), (kd, .inl (cI, 6, .inl kfd))] s.heap := hP
  have hl := lv_entry ([.ref wk, .int i0, .int i1]) (n := 4) (Nat.le_of_ble_eq_true rfl)
  rw [lg_entry_eq]
  generalize (lg_sl ([.ref wk, .int i0, .int i1]) ++ List.replicate (4 - (lg_sl ([.ref wk, .int i0, .int i1])).length) Slot.unset).toArray = ls at hl ⊢
  have hl : lv_has ls 4 [(0, .ref wk), (1, .int i0), (2, .int i1)] := hl
  have hK := hKx.1
  have hin6 := fun w9 h9 => List.mem_cons_of_mem (Cond.code yX6_tryToBoil cX6_tryToBoil 4 none) (inlX6 w9 h9)
  have hw0 := hts (.fieldLink RX6 9 "OneCan$Week" "camp" "LOneCan$Camp;") (List.mem_cons_of_mem _ wm_107)
  have hw1 := hts (.fieldLink RX6 21 "OneCan$Week" "left" "I") (List.mem_cons_of_mem _ wm_938)
  have hw2 := hts (.fieldLink RX6 25 "OneCan$Week" "boiled" "I") (List.mem_cons_of_mem _ wm_939)
  have hw3 := hts (.fieldLink RX6 28 "OneCan$Week" "wanting" "I") (List.mem_cons_of_mem _ wm_940)
  refine lv_aload_n hx hb dX6_tryToBoil_0 rfl (lv_at hl 0 rfl) ?_
  refine va_get (D := (dC, dI)) (ci := 6) (v := .ref k) (C := RX6) (T := TX6) (N := 4) hx hb hts hin6 hown hK hP 0 rfl rfl 0 (by decide) hw0 (fun _ h9 => h9) rfl dX6_tryToBoil_1 ?_
  refine lv_iload_n hx hb dX6_tryToBoil_4 rfl (lv_at hl 1 rfl) ?_
  refine mx_i (wr := [(wk, .inr (6, [.ref k, .int wl, .int wb, .int ww])), (ks, .inl (cI, 5, .inl kfs)), (kq, .inl (cI, 6, .inl kfq)), (km, .inl (cI, 6, .inl kfm)), (kd, .inl (cI, 6, .inl kfd))]) (va_runV (As := [.int i0]) (rest := []) ⟨hx, hb, hml, hown, hts⟩ (c_X0_has l dC dI cI cZ cK tS aK aV k i0 ks kw kc kwd kbg kme kq km kd ksi ka kk s.heap.size) (cwV 1 hts (gw_v (fun _ h9 => List.mem_cons_of_mem _ h9) wm_946 wm_379 wm_380 wm_14 wm_381) rfl rfl rfl (by decide +kernel) ⟨Nat.le_of_ble_eq_true rfl, Nat.le_of_ble_eq_true rfl⟩) (mx_preV (C := RX0) (T := TX0) (N := 12) (ci := 0) hKx hP hD hS hA [1] (by decide) rfl rfl rfl) rfl rfl hl.1 rfl (lv_room (Nat.le_of_ble_eq_true rfl)) dX6_tryToBoil_5 ⟨Nat.le_of_ble_eq_true rfl, Nat.le_of_ble_eq_true rfl⟩) hP hD hS hA [1] [0, 2, 3, 4, 5] rfl rfl (by decide) (by decide) (fun r1 u1 H locs hq1 hP hD hS => ?_)
  replace hP : va_P (dC, dI) vwCl [(wk, .inr (6, [.ref k, .int wl, .int wb, .int ww])), (ks, .inl (cI, 5, .inl kfs)), (kq, .inl (cI, 6, .inl kfq)), (km, .inl (cI, 6, .inl kfm)), (kd, .inl (cI, 6, .inl kfd)), (k, .inr (0, [.ref ks, .ref kw, .ref kc, .int kwd, .int kbg, .int kme, .ref kq, .ref km, .ref kd, .int ksi, .ref ka, .ref kk]))] H := hP
  replace hD : va_D A [(wk, .inr (6, [.ref k, .int wl, .int wb, .int ww])), (ks, .inl (cI, 5, .inl kfs)), (kq, .inl (cI, 6, .inl kfq)), (km, .inl (cI, 6, .inl kfm)), (kd, .inl (cI, 6, .inl kfd)), (k, .inr (0, [.ref ks, .ref kw, .ref kc, .int kwd, .int kbg, .int kme, .ref kq, .ref km, .ref kd, .int ksi, .ref ka, .ref kk]))] := hD
  obtain ⟨hx1_0, hr1⟩ := hq1
  replace hx1_0 : r1 = hsF kme i0 := hx1_0
  rcases hr1 with ⟨rfl, hf1⟩ | ⟨rfl, hf1⟩
  · have hf1 : 0 ≤ i0.toInt ∧ i0.toInt ≤ 5 := hf1
    refine lv_if_eq (tgt := 22) hx hb dX6_tryToBoil_8 (by decide) (fun c2 => absurd c2 (by decide)) (fun c2 => ?_)
    refine lv_aload_n hx hb dX6_tryToBoil_11 rfl (lv_at hl 0 rfl) ?_
    refine va_get (D := (dC, dI)) (ci := 6) (v := .ref k) (C := RX6) (T := TX6) (N := 4) hx hb hts hin6 hown hK hP 0 rfl rfl 0 (by decide) hw0 (fun _ h9 => h9) rfl dX6_tryToBoil_12 ?_
    refine lv_iload_n hx hb dX6_tryToBoil_15 rfl (lv_at hl 1 rfl) ?_
    refine mx_i (wr := [(wk, .inr (6, [.ref k, .int wl, .int wb, .int ww])), (kq, .inl (cI, 6, .inl kfq)), (km, .inl (cI, 6, .inl kfm))]) (va_runV (As := [.int i0]) (rest := []) ⟨hx, hb, hml, hown, hts⟩ (c_X0_isHot l dC dI cI cZ cK tS aK aV k i0 ks kw kc kwd kbg kme kq km kd ksi ka kk kfs kfd H.size (by first | omega | decide | assumption | trivial) (by first | omega | decide | assumption | trivial)) (cwV 1 hts (gw_v (fun _ h9 => List.mem_cons_of_mem _ h9) wm_947 wm_410 wm_411 wm_14 wm_412) rfl rfl rfl (by decide +kernel) ⟨Nat.le_of_ble_eq_true rfl, Nat.le_of_ble_eq_true rfl⟩) (mx_preV (C := RX0) (T := TX0) (N := 12) (ci := 0) hKx hP hD hS hA [5, 1, 4] (by decide) rfl rfl rfl) rfl rfl hl.1 rfl (lv_room (Nat.le_of_ble_eq_true rfl)) dX6_tryToBoil_16 ⟨Nat.le_of_ble_eq_true rfl, Nat.le_of_ble_eq_true rfl⟩) hP hD hS hA [5, 1, 4] [0, 2, 3] rfl rfl (by decide) (by decide) (fun r3 u3 H locs hq3 hP hD hS => ?_)
    replace hP : va_P (dC, dI) vwCl [(wk, .inr (6, [.ref k, .int wl, .int wb, .int ww])), (kq, .inl (cI, 6, .inl kfq)), (km, .inl (cI, 6, .inl kfm)), (k, .inr (0, [.ref ks, .ref kw, .ref kc, .int kwd, .int kbg, .int kme, .ref kq, .ref km, .ref kd, .int ksi, .ref ka, .ref kk])), (ks, .inl (cI, 5, .inl kfs)), (kd, .inl (cI, 6, .inl kfd))] H := hP
    replace hD : va_D A [(wk, .inr (6, [.ref k, .int wl, .int wb, .int ww])), (kq, .inl (cI, 6, .inl kfq)), (km, .inl (cI, 6, .inl kfm)), (k, .inr (0, [.ref ks, .ref kw, .ref kc, .int kwd, .int kbg, .int kme, .ref kq, .ref km, .ref kd, .int ksi, .ref ka, .ref kk])), (ks, .inl (cI, 5, .inl kfs)), (kd, .inl (cI, 6, .inl kfd))] := hD
    refine lv_if_ne (tgt := 23) hx hb dX6_tryToBoil_19 (by decide) (fun c4 => ?_) (fun c4 => ?_)
    · have t4 : r3.toInt ≠ (0 : Int) := (tne c4)
      refine lv_aload_n hx hb dX6_tryToBoil_23 rfl (lv_at hl 0 rfl) ?_
      refine va_get (D := (dC, dI)) (ci := 6) (v := .ref k) (C := RX6) (T := TX6) (N := 4) hx hb hts hin6 hown hK hP 0 rfl rfl 0 (by decide) hw0 (fun _ h9 => h9) rfl dX6_tryToBoil_24 ?_
      refine lv_iload_n hx hb dX6_tryToBoil_27 rfl (lv_at hl 1 rfl) ?_
      refine lv_iconst (v := 0) hx hb dX6_tryToBoil_28 (by decide) ?_
      refine lv_iload_n hx hb dX6_tryToBoil_29 rfl (lv_at hl 2 rfl) ?_
      refine mx_i (wr := [(wk, .inr (6, [.ref k, .int wl, .int wb, .int ww])), (ks, .inl (cI, 5, .inl kfs)), (kd, .inl (cI, 6, .inl kfd))]) (va_runV (As := [.int i0, .int 0, .int i1]) (rest := []) ⟨hx, hb, hml, hown, hts⟩ (c_X0_toBoil l dC dI cI cZ cK tS aK aV k i0 0 i1 ks kw kc kwd kbg kme kq km kd ksi ka kk kfq kfm H.size (by have z8 : (0 : Int32).toInt = 0 := rfl; first | omega | decide | assumption | trivial)) (cwV 3 hts (gw_v (fun _ h9 => List.mem_cons_of_mem _ h9) wm_948 wm_390 wm_391 wm_14 wm_392) rfl rfl rfl (by decide +kernel) ⟨Nat.le_of_ble_eq_true rfl, Nat.le_of_ble_eq_true rfl⟩) (mx_preV (C := RX0) (T := TX0) (N := 12) (ci := 0) hKx hP hD hS hA [3, 1, 2] (by decide) rfl rfl rfl) rfl rfl hl.1 rfl (lv_room (Nat.le_of_ble_eq_true rfl)) dX6_tryToBoil_30 ⟨Nat.le_of_ble_eq_true rfl, Nat.le_of_ble_eq_true rfl⟩) hP hD hS hA [3, 1, 2] [0, 4, 5] rfl rfl (by decide) (by decide) (fun r5 u5 H locs hq5 hP hD hS => ?_)
      replace hP : va_P (dC, dI) vwCl [(wk, .inr (6, [.ref k, .int wl, .int wb, .int ww])), (ks, .inl (cI, 5, .inl kfs)), (kd, .inl (cI, 6, .inl kfd)), (k, .inr (0, [.ref ks, .ref kw, .ref kc, .int kwd, .int kbg, .int kme, .ref kq, .ref km, .ref kd, .int ksi, .ref ka, .ref kk])), (kq, .inl (cI, 6, .inl kfq)), (km, .inl (cI, 6, .inl kfm))] H := hP
      replace hD : va_D A [(wk, .inr (6, [.ref k, .int wl, .int wb, .int ww])), (ks, .inl (cI, 5, .inl kfs)), (kd, .inl (cI, 6, .inl kfd)), (k, .inr (0, [.ref ks, .ref kw, .ref kc, .int kwd, .int kbg, .int kme, .ref kq, .ref km, .ref kd, .int ksi, .ref ka, .ref kk])), (kq, .inl (cI, 6, .inl kfq)), (km, .inl (cI, 6, .inl kfm))] := hD
      have hx5_0 := hq5
      replace hx5_0 : r5 = tbF (kfq i0.toNatClampNeg) (kfm i0.toNatClampNeg) (0 : Int32) i1 := hx5_0
      refine lv_istore_n (lv' := [(3, .int r5), (0, .ref wk), (1, .int i0), (2, .int i1)]) hx hb dX6_tryToBoil_33 rfl hl (by decide) rfl (fun ls hl => ?_)
      refine lv_iload_n hx hb dX6_tryToBoil_34 rfl (lv_at hl 0 rfl) ?_
      refine lv_aload_n hx hb dX6_tryToBoil_35 rfl (lv_at hl 1 rfl) ?_
      refine va_get (D := (dC, dI)) (ci := 6) (v := .int wl) (C := RX6) (T := TX6) (N := 4) hx hb hts hin6 hown hK hP 0 rfl rfl 1 (by decide) hw1 (fun _ h9 => h9) rfl dX6_tryToBoil_36 ?_
      refine lv_icmp_le (tgt := 55) hx hb dX6_tryToBoil_39 (by decide) (fun c6 => ?_) (fun c6 => ?_)
      · have t6 : r5.toInt ≤ wl.toInt := (tle c6)
        refine lv_aload_n hx hb dX6_tryToBoil_55 rfl (lv_at hl 1 rfl) ?_
        refine lv_dup hx hb dX6_tryToBoil_56 rfl ?_
        refine va_get (D := (dC, dI)) (ci := 6) (v := .int wl) (C := RX6) (T := TX6) (N := 4) hx hb hts hin6 hown hK hP 0 rfl rfl 1 (by decide) hw1 (fun _ h9 => h9) rfl dX6_tryToBoil_57 ?_
        refine lv_iload_n hx hb dX6_tryToBoil_60 rfl (lv_at hl 0 rfl) ?_
        refine lv_isub hx hb dX6_tryToBoil_61 ?_
        refine lv_topi (fun x7 e7 => ?_)
        refine va_put (D := (dC, dI)) (ci := 6) (v := .int x7) (ty := .int) (C := RX6) (T := TX6) (N := 4) hx hb hts hin6 tyX6 tyX6_ok nmX6 hown hK hP hD hS 0 rfl rfl 1 (by decide) hw1 (fun _ h9 => h9) rfl (by decide +kernel) rfl rfl (Nat.le_of_ble_eq_true rfl) dX6_tryToBoil_62 (fun H locs hP hD hS => ?_)
        replace hP : va_P (dC, dI) vwCl [(wk, .inr (6, [.ref k, .int x7, .int wb, .int ww])), (ks, .inl (cI, 5, .inl kfs)), (kd, .inl (cI, 6, .inl kfd)), (k, .inr (0, [.ref ks, .ref kw, .ref kc, .int kwd, .int kbg, .int kme, .ref kq, .ref km, .ref kd, .int ksi, .ref ka, .ref kk])), (kq, .inl (cI, 6, .inl kfq)), (km, .inl (cI, 6, .inl kfm))] H := hP
        replace hD : va_D A [(wk, .inr (6, [.ref k, .int x7, .int wb, .int ww])), (ks, .inl (cI, 5, .inl kfs)), (kd, .inl (cI, 6, .inl kfd)), (k, .inr (0, [.ref ks, .ref kw, .ref kc, .int kwd, .int kbg, .int kme, .ref kq, .ref km, .ref kd, .int ksi, .ref ka, .ref kk])), (kq, .inl (cI, 6, .inl kfq)), (km, .inl (cI, 6, .inl kfm))] := hD
        refine lv_aload_n hx hb dX6_tryToBoil_65 rfl (lv_at hl 1 rfl) ?_
        refine lv_dup hx hb dX6_tryToBoil_66 rfl ?_
        refine va_get (D := (dC, dI)) (ci := 6) (v := .int wb) (C := RX6) (T := TX6) (N := 4) hx hb hts hin6 hown hK hP 0 rfl rfl 2 (by decide) hw2 (fun _ h9 => h9) rfl dX6_tryToBoil_67 ?_
        refine lv_iconst (v := 1) hx hb dX6_tryToBoil_70 (by decide) ?_
        refine lv_iadd hx hb dX6_tryToBoil_71 ?_
        refine lv_topi (fun x8 e8 => ?_)
        refine va_put (D := (dC, dI)) (ci := 6) (v := .int x8) (ty := .int) (C := RX6) (T := TX6) (N := 4) hx hb hts hin6 tyX6 tyX6_ok nmX6 hown hK hP hD hS 0 rfl rfl 2 (by decide) hw2 (fun _ h9 => h9) rfl (by decide +kernel) rfl rfl (Nat.le_of_ble_eq_true rfl) dX6_tryToBoil_72 (fun H locs hP hD hS => ?_)
        replace hP : va_P (dC, dI) vwCl [(wk, .inr (6, [.ref k, .int x7, .int x8, .int ww])), (ks, .inl (cI, 5, .inl kfs)), (kd, .inl (cI, 6, .inl kfd)), (k, .inr (0, [.ref ks, .ref kw, .ref kc, .int kwd, .int kbg, .int kme, .ref kq, .ref km, .ref kd, .int ksi, .ref ka, .ref kk])), (kq, .inl (cI, 6, .inl kfq)), (km, .inl (cI, 6, .inl kfm))] H := hP
        replace hD : va_D A [(wk, .inr (6, [.ref k, .int x7, .int x8, .int ww])), (ks, .inl (cI, 5, .inl kfs)), (kd, .inl (cI, 6, .inl kfd)), (k, .inr (0, [.ref ks, .ref kw, .ref kc, .int kwd, .int kbg, .int kme, .ref kq, .ref km, .ref kd, .int ksi, .ref ka, .ref kk])), (kq, .inl (cI, 6, .inl kfq)), (km, .inl (cI, 6, .inl kfm))] := hD
        have hP9 := mx_subP (wc := [(wk, .inr (6, [.ref k, .int x7, .int x8, .int ww])), (k, .inr (0, [.ref ks, .ref kw, .ref kc, .int kwd, .int kbg, .int kme, .ref kq, .ref km, .ref kd, .int ksi, .ref ka, .ref kk])), (ks, .inl (cI, 5, .inl kfs)), (kq, .inl (cI, 6, .inl kfq)), (km, .inl (cI, 6, .inl kfm)), (kd, .inl (cI, 6, .inl kfd))]) hP [0, 3, 1, 4, 5, 2] rfl
        have hD9 := hD.sub (ws' := [(wk, .inr (6, [.ref k, .int x7, .int x8, .int ww])), (k, .inr (0, [.ref ks, .ref kw, .ref kc, .int kwd, .int kbg, .int kme, .ref kq, .ref km, .ref kd, .int ksi, .ref ka, .ref kk])), (ks, .inl (cI, 5, .inl kfs)), (kq, .inl (cI, 6, .inl kfq)), (km, .inl (cI, 6, .inl kfm)), (kd, .inl (cI, 6, .inl kfd))]) [0, 3, 1, 4, 5, 2] (by decide) rfl
        exact W.vret hx hb hr (fun t ht hW => ⟨⟨((fun u9 => ([] : List (Nat → Int32)).getD u9 (fun _ => 0)), (fun u9 => ([x7, x8, ww] : List Int32).getD u9 0), (fun u9 => ([] : List Int64).getD u9 0)), rfl, trivial, by rw [ht]; exact hP9, hD9⟩, hS.F ht⟩) hS.2.2 dX6_tryToBoil_75
      · have t6 : wl.toInt < r5.toInt := (tnle c6)
        refine lv_aload_n hx hb dX6_tryToBoil_42 rfl (lv_at hl 1 rfl) ?_
        refine lv_dup hx hb dX6_tryToBoil_43 rfl ?_
        refine va_get (D := (dC, dI)) (ci := 6) (v := .int ww) (C := RX6) (T := TX6) (N := 4) hx hb hts hin6 hown hK hP 0 rfl rfl 3 (by decide) hw3 (fun _ h9 => h9) rfl dX6_tryToBoil_44 ?_
        refine lv_iconst (v := 1) hx hb dX6_tryToBoil_47 (by decide) ?_
        refine lv_iadd hx hb dX6_tryToBoil_48 ?_
        refine lv_topi (fun x9 e9 => ?_)
        refine va_put (D := (dC, dI)) (ci := 6) (v := .int x9) (ty := .int) (C := RX6) (T := TX6) (N := 4) hx hb hts hin6 tyX6 tyX6_ok nmX6 hown hK hP hD hS 0 rfl rfl 3 (by decide) hw3 (fun _ h9 => h9) rfl (by decide +kernel) rfl rfl (Nat.le_of_ble_eq_true rfl) dX6_tryToBoil_49 (fun H locs hP hD hS => ?_)
        replace hP : va_P (dC, dI) vwCl [(wk, .inr (6, [.ref k, .int wl, .int wb, .int x9])), (ks, .inl (cI, 5, .inl kfs)), (kd, .inl (cI, 6, .inl kfd)), (k, .inr (0, [.ref ks, .ref kw, .ref kc, .int kwd, .int kbg, .int kme, .ref kq, .ref km, .ref kd, .int ksi, .ref ka, .ref kk])), (kq, .inl (cI, 6, .inl kfq)), (km, .inl (cI, 6, .inl kfm))] H := hP
        replace hD : va_D A [(wk, .inr (6, [.ref k, .int wl, .int wb, .int x9])), (ks, .inl (cI, 5, .inl kfs)), (kd, .inl (cI, 6, .inl kfd)), (k, .inr (0, [.ref ks, .ref kw, .ref kc, .int kwd, .int kbg, .int kme, .ref kq, .ref km, .ref kd, .int ksi, .ref ka, .ref kk])), (kq, .inl (cI, 6, .inl kfq)), (km, .inl (cI, 6, .inl kfm))] := hD
        refine lv_goto (tgt := 75) hx hb dX6_tryToBoil_52 (by decide) ?_
        have hP9 := mx_subP (wc := [(wk, .inr (6, [.ref k, .int wl, .int wb, .int x9])), (k, .inr (0, [.ref ks, .ref kw, .ref kc, .int kwd, .int kbg, .int kme, .ref kq, .ref km, .ref kd, .int ksi, .ref ka, .ref kk])), (ks, .inl (cI, 5, .inl kfs)), (kq, .inl (cI, 6, .inl kfq)), (km, .inl (cI, 6, .inl kfm)), (kd, .inl (cI, 6, .inl kfd))]) hP [0, 3, 1, 4, 5, 2] rfl
        have hD9 := hD.sub (ws' := [(wk, .inr (6, [.ref k, .int wl, .int wb, .int x9])), (k, .inr (0, [.ref ks, .ref kw, .ref kc, .int kwd, .int kbg, .int kme, .ref kq, .ref km, .ref kd, .int ksi, .ref ka, .ref kk])), (ks, .inl (cI, 5, .inl kfs)), (kq, .inl (cI, 6, .inl kfq)), (km, .inl (cI, 6, .inl kfm)), (kd, .inl (cI, 6, .inl kfd))]) [0, 3, 1, 4, 5, 2] (by decide) rfl
        exact W.vret hx hb hr (fun t ht hW => ⟨⟨((fun u9 => ([] : List (Nat → Int32)).getD u9 (fun _ => 0)), (fun u9 => ([wl, wb, x9] : List Int32).getD u9 0), (fun u9 => ([] : List Int64).getD u9 0)), rfl, trivial, by rw [ht]; exact hP9, hD9⟩, hS.F ht⟩) hS.2.2 dX6_tryToBoil_75
    · have t4 : r3.toInt = (0 : Int) := (teq c4)
      have hP9 := mx_subP (wc := [(wk, .inr (6, [.ref k, .int wl, .int wb, .int ww])), (k, .inr (0, [.ref ks, .ref kw, .ref kc, .int kwd, .int kbg, .int kme, .ref kq, .ref km, .ref kd, .int ksi, .ref ka, .ref kk])), (ks, .inl (cI, 5, .inl kfs)), (kq, .inl (cI, 6, .inl kfq)), (km, .inl (cI, 6, .inl kfm)), (kd, .inl (cI, 6, .inl kfd))]) hP [0, 3, 4, 1, 2, 5] rfl
      have hD9 := hD.sub (ws' := [(wk, .inr (6, [.ref k, .int wl, .int wb, .int ww])), (k, .inr (0, [.ref ks, .ref kw, .ref kc, .int kwd, .int kbg, .int kme, .ref kq, .ref km, .ref kd, .int ksi, .ref ka, .ref kk])), (ks, .inl (cI, 5, .inl kfs)), (kq, .inl (cI, 6, .inl kfq)), (km, .inl (cI, 6, .inl kfm)), (kd, .inl (cI, 6, .inl kfd))]) [0, 3, 4, 1, 2, 5] (by decide) rfl
      exact W.vret hx hb hr (fun t ht hW => ⟨⟨((fun u9 => ([] : List (Nat → Int32)).getD u9 (fun _ => 0)), (fun u9 => ([wl, wb, ww] : List Int32).getD u9 0), (fun u9 => ([] : List Int64).getD u9 0)), rfl, trivial, by rw [ht]; exact hP9, hD9⟩, hS.F ht⟩) hS.2.2 dX6_tryToBoil_22
  · skip
    refine lv_if_eq (tgt := 22) hx hb dX6_tryToBoil_8 (by decide) (fun c10 => ?_) (fun c10 => absurd c10 (by decide))
    have hP9 := mx_subP (wc := [(wk, .inr (6, [.ref k, .int wl, .int wb, .int ww])), (k, .inr (0, [.ref ks, .ref kw, .ref kc, .int kwd, .int kbg, .int kme, .ref kq, .ref km, .ref kd, .int ksi, .ref ka, .ref kk])), (ks, .inl (cI, 5, .inl kfs)), (kq, .inl (cI, 6, .inl kfq)), (km, .inl (cI, 6, .inl kfm)), (kd, .inl (cI, 6, .inl kfd))]) hP [0, 5, 1, 2, 3, 4] rfl
    have hD9 := hD.sub (ws' := [(wk, .inr (6, [.ref k, .int wl, .int wb, .int ww])), (k, .inr (0, [.ref ks, .ref kw, .ref kc, .int kwd, .int kbg, .int kme, .ref kq, .ref km, .ref kd, .int ksi, .ref ka, .ref kk])), (ks, .inl (cI, 5, .inl kfs)), (kq, .inl (cI, 6, .inl kfq)), (km, .inl (cI, 6, .inl kfm)), (kd, .inl (cI, 6, .inl kfd))]) [0, 5, 1, 2, 3, 4] (by decide) rfl
    exact W.vret hx hb hr (fun t ht hW => ⟨⟨((fun u9 => ([] : List (Nat → Int32)).getD u9 (fun _ => 0)), (fun u9 => ([wl, wb, ww] : List Int32).getD u9 0), (fun u9 => ([] : List Int64).getD u9 0)), rfl, trivial, by rw [ht]; exact hP9, hD9⟩, hS.F ht⟩) hS.2.2 dX6_tryToBoil_22
set_option maxHeartbeats 4000000 in
set_option maxRecDepth 100000 in
theorem c_X6_live (l : Launch) (dC : Nat → ClassId) (dI : Nat → Nat → Nat) (cI cZ cK : ClassId) (tS : Nat) (aK aV : Nat → Nat) (wk : Nat) (i0 : Int32) (i1 : Int32) (k : Nat) (wl : Int32) (wb : Int32) (ww : Int32) (ks : Nat) (kw : Nat) (kc : Nat) (kwd : Int32) (kbg : Int32) (kme : Int32) (kq : Nat) (km : Nat) (kd : Nat) (ksi : Int32) (ka : Nat) (kk : Nat) (kfs : Nat → Int32) (kfq : Nat → Int32) (kfm : Nat → Int32) (kfd : Nat → Int32) (sz : Nat) (h_kfs_4 : 0 ≤ (kfs 4).toInt ∧ (kfs 4).toInt ≤ 13) (h_i1 : 1 ≤ i1.toInt ∧ i1.toInt ≤ 50) : Cv l yX6_live (wq yX6_live cX6_live 5 none) ({ frames := 3, cells := 0, slots := 0, locals := 71 }) dC dI cI cZ cK tS aK aV [.ref wk, .int i0, .int i1] sz [(wk, .inr (6, [.ref k, .int wl, .int wb, .int ww])), (k, .inr (0, [.ref ks, .ref kw, .ref kc, .int kwd, .int kbg, .int kme, .ref kq, .ref km, .ref kd, .int ksi, .ref ka, .ref kk])), (ks, .inl (cI, 5, .inl kfs)), (kq, .inl (cI, 6, .inl kfq)), (km, .inl (cI, 6, .inl kfm)), (kd, .inl (cI, 6, .inl kfd))] (fun (u : (Nat → Nat → Int32) × (Nat → Int32) × (Nat → Int64)) => True) (fun u => [(wk, .inr (6, [.ref k, .int (u.2.1 0), .int (u.2.1 1), .int (u.2.1 2)])), (k, .inr (0, [.ref ks, .ref kw, .ref kc, .int kwd, .int kbg, .int kme, .ref kq, .ref km, .ref kd, .int ksi, .ref ka, .ref kk])), (ks, .inl (cI, 5, .inl kfs)), (kq, .inl (cI, 6, .inl kfq)), (km, .inl (cI, 6, .inl kfm)), (kd, .inl (cI, 6, .inl kfd))]) := by
  refine Met.ofW (cc := cX6_live) (maxL := 5) (ret := none) (by decide) rfl ?_
  intro p e s m args below meth c s₁ B hml hv
  obtain ⟨rfl, hsz, hP, hKx, hD0⟩ := hv
  have hx := B.exec
  have hb := B.bytes
  have hr := B.returns
  have hts := atoms_spec (ws := wq yX6_live cX6_live 5 none) B.pre
  have hown : s.vm.findClass RX6 = some m.cls := findClass_of_methodNamed B.named
  have hlocks := B.notSynchronized
  subst hsz
  have hD := hD0.self (sz := s.heap.size)
  generalize hAe : va_A [(wk, .inr (6, [.ref k, .int wl, .int wb, .int ww])), (k, .inr (0, [.ref ks, .ref kw, .ref kc, .int kwd, .int kbg, .int kme, .ref kq, .ref km, .ref kd, .int ksi, .ref ka, .ref kk])), (ks, .inl (cI, 5, .inl kfs)), (kq, .inl (cI, 6, .inl kfq)), (km, .inl (cI, 6, .inl kfm)), (kd, .inl (cI, 6, .inl kfd))] s.heap.size = A at hD hKx ⊢
  have hA : ∀ q : Nat, s.heap.size ≤ q → A q := fun q h => by rw [← hAe]; exact Or.inr h
  have hS : va_S A s.heap s.heap [] := va_S.rf
  have hP : va_P (dC, dI) vwCl [(wk, .inr (6, [.ref k, .int wl, .int wb, .int ww])), (k, .inr (0, [.ref ks, .ref kw, .ref kc, .int kwd, .int kbg, .int kme, .ref kq, .ref km, .ref kd, .int ksi, .ref ka, .ref kk])), (ks, .inl (cI, 5, .inl kfs)), (kq, .inl (cI, 6, .inl kfq)), (km, .inl (cI, 6, .inl kfm)), (kd, .inl (cI, 6, .inl kfd))] s.heap := hP
  have hl := lv_entry ([.ref wk, .int i0, .int i1]) (n := 5) (Nat.le_of_ble_eq_true rfl)
  rw [lg_entry_eq]
  generalize (lg_sl ([.ref wk, .int i0, .int i1]) ++ List.replicate (5 - (lg_sl ([.ref wk, .int i0, .int i1])).length) Slot.unset).toArray = ls at hl ⊢
  have hl : lv_has ls 5 [(0, .ref wk), (1, .int i0), (2, .int i1)] := hl
  have hK := hKx.1
  have hin6 := fun w9 h9 => List.mem_cons_of_mem (Cond.code yX6_live cX6_live 5 none) (inlX6 w9 h9)
  have hin0 := fun w9 h9 => List.mem_cons_of_mem (Cond.code yX6_live cX6_live 5 none) (inlX0 w9 h9)
  have hw0 := hts (.fieldLink RX6 9 "OneCan$Week" "camp" "LOneCan$Camp;") (List.mem_cons_of_mem _ wm_107)
  have hw1 := hts (.fieldLink RX6 15 "OneCan$Camp" "settings" "[I") (List.mem_cons_of_mem _ wm_937)
  have hw2 := hts (.fieldLink RX6 21 "OneCan$Week" "left" "I") (List.mem_cons_of_mem _ wm_938)
  have hw3 := hts (.fieldLink RX6 25 "OneCan$Week" "boiled" "I") (List.mem_cons_of_mem _ wm_939)
  have hw4 := hts (.fieldLink RX6 28 "OneCan$Week" "wanting" "I") (List.mem_cons_of_mem _ wm_940)
  have hw5 := hts (.constant RX6 31 65537) (List.mem_cons_of_mem _ wm_941)
  refine lv_aload_n hx hb dX6_live_0 rfl (lv_at hl 0 rfl) ?_
  refine lv_aload_n hx hb dX6_live_1 rfl (lv_at hl 0 rfl) ?_
  refine va_get (D := (dC, dI)) (ci := 6) (v := .ref k) (C := RX6) (T := TX6) (N := 4) hx hb hts hin6 hown hK hP 0 rfl rfl 0 (by decide) hw0 (fun _ h9 => h9) rfl dX6_live_2 ?_
  refine va_get (D := (dC, dI)) (ci := 0) (v := .ref ks) (C := RX0) (T := TX0) (N := 12) hx hb hts hin0 hown hK hP 1 rfl rfl 0 (by decide) hw1 (fun _ h9 => h9) rfl dX6_live_5 ?_
  refine lv_iconst (v := 0) hx hb dX6_live_8 (by decide) ?_
  refine va_iald hx hb hK hP 2 0 rfl rfl (vin (by decide) (by decide)) dX6_live_9 ?_
  refine lv_topi (fun x1 e1 => ?_)
  refine va_put (D := (dC, dI)) (ci := 6) (v := .int x1) (ty := .int) (C := RX6) (T := TX6) (N := 4) hx hb hts hin6 tyX6 tyX6_ok nmX6 hown hK hP hD hS 0 rfl rfl 1 (by decide) hw2 (fun _ h9 => h9) rfl (by decide +kernel) rfl rfl (Nat.le_of_ble_eq_true rfl) dX6_live_10 (fun H locs hP hD hS => ?_)
  replace hP : va_P (dC, dI) vwCl [(wk, .inr (6, [.ref k, .int x1, .int wb, .int ww])), (k, .inr (0, [.ref ks, .ref kw, .ref kc, .int kwd, .int kbg, .int kme, .ref kq, .ref km, .ref kd, .int ksi, .ref ka, .ref kk])), (ks, .inl (cI, 5, .inl kfs)), (kq, .inl (cI, 6, .inl kfq)), (km, .inl (cI, 6, .inl kfm)), (kd, .inl (cI, 6, .inl kfd))] H := hP
  replace hD : va_D A [(wk, .inr (6, [.ref k, .int x1, .int wb, .int ww])), (k, .inr (0, [.ref ks, .ref kw, .ref kc, .int kwd, .int kbg, .int kme, .ref kq, .ref km, .ref kd, .int ksi, .ref ka, .ref kk])), (ks, .inl (cI, 5, .inl kfs)), (kq, .inl (cI, 6, .inl kfq)), (km, .inl (cI, 6, .inl kfm)), (kd, .inl (cI, 6, .inl kfd))] := hD
  refine lv_aload_n hx hb dX6_live_13 rfl (lv_at hl 0 rfl) ?_
  refine lv_iconst (v := 0) hx hb dX6_live_14 (by decide) ?_
  refine va_put (D := (dC, dI)) (ci := 6) (v := .int 0) (ty := .int) (C := RX6) (T := TX6) (N := 4) hx hb hts hin6 tyX6 tyX6_ok nmX6 hown hK hP hD hS 0 rfl rfl 2 (by decide) hw3 (fun _ h9 => h9) rfl (by decide +kernel) rfl rfl (Nat.le_of_ble_eq_true rfl) dX6_live_15 (fun H locs hP hD hS => ?_)
  replace hP : va_P (dC, dI) vwCl [(wk, .inr (6, [.ref k, .int x1, .int 0, .int ww])), (k, .inr (0, [.ref ks, .ref kw, .ref kc, .int kwd, .int kbg, .int kme, .ref kq, .ref km, .ref kd, .int ksi, .ref ka, .ref kk])), (ks, .inl (cI, 5, .inl kfs)), (kq, .inl (cI, 6, .inl kfq)), (km, .inl (cI, 6, .inl kfm)), (kd, .inl (cI, 6, .inl kfd))] H := hP
  replace hD : va_D A [(wk, .inr (6, [.ref k, .int x1, .int 0, .int ww])), (k, .inr (0, [.ref ks, .ref kw, .ref kc, .int kwd, .int kbg, .int kme, .ref kq, .ref km, .ref kd, .int ksi, .ref ka, .ref kk])), (ks, .inl (cI, 5, .inl kfs)), (kq, .inl (cI, 6, .inl kfq)), (km, .inl (cI, 6, .inl kfm)), (kd, .inl (cI, 6, .inl kfd))] := hD
  refine lv_aload_n hx hb dX6_live_18 rfl (lv_at hl 0 rfl) ?_
  refine lv_iconst (v := 0) hx hb dX6_live_19 (by decide) ?_
  refine va_put (D := (dC, dI)) (ci := 6) (v := .int 0) (ty := .int) (C := RX6) (T := TX6) (N := 4) hx hb hts hin6 tyX6 tyX6_ok nmX6 hown hK hP hD hS 0 rfl rfl 3 (by decide) hw4 (fun _ h9 => h9) rfl (by decide +kernel) rfl rfl (Nat.le_of_ble_eq_true rfl) dX6_live_20 (fun H locs hP hD hS => ?_)
  replace hP : va_P (dC, dI) vwCl [(wk, .inr (6, [.ref k, .int x1, .int 0, .int 0])), (k, .inr (0, [.ref ks, .ref kw, .ref kc, .int kwd, .int kbg, .int kme, .ref kq, .ref km, .ref kd, .int ksi, .ref ka, .ref kk])), (ks, .inl (cI, 5, .inl kfs)), (kq, .inl (cI, 6, .inl kfq)), (km, .inl (cI, 6, .inl kfm)), (kd, .inl (cI, 6, .inl kfd))] H := hP
  replace hD : va_D A [(wk, .inr (6, [.ref k, .int x1, .int 0, .int 0])), (k, .inr (0, [.ref ks, .ref kw, .ref kc, .int kwd, .int kbg, .int kme, .ref kq, .ref km, .ref kd, .int ksi, .ref ka, .ref kk])), (ks, .inl (cI, 5, .inl kfs)), (kq, .inl (cI, 6, .inl kfq)), (km, .inl (cI, 6, .inl kfm)), (kd, .inl (cI, 6, .inl kfd))] := hD
  refine lv_iload_n hx hb dX6_live_23 rfl (lv_at hl 1 rfl) ?_
  refine lv_istore_n (lv' := [(3, .int i0), (0, .ref wk), (1, .int i0), (2, .int i1)]) hx hb dX6_live_24 rfl hl (by decide) rfl (fun ls hl => ?_)
  refine lv_iconst (v := 0) hx hb dX6_live_25 (by decide) ?_
  refine lv_istore (lv' := [(4, .int 0), (3, .int i0), (0, .ref wk), (1, .int i0), (2, .int i1)]) hx hb dX6_live_26 hl (by decide) rfl (fun ls hl => ?_)
  have z3 : (0 : Int32).toInt = 0 := rfl
  have z4 : (0 : Int32).toInt = 0 := rfl
  have z5 : (0 : Int32).toInt = 0 := rfl
  have hl0 := hl
  clear hl
  have hP0 := hP
  clear hP
  have hD0 := hD
  clear hD
  obtain ⟨y3, y4, ywl, ywb, yww, ex, hl, hP, hD⟩ : ∃ (y3 y4 ywl ywb yww : Int32), (0 ≤ y4.toInt ∧ y4.toInt ≤ 2 * i1.toInt) ∧ lv_has ls 5 [(4, .int y4), (3, .int y3), (0, .ref wk), (1, .int i0), (2, .int i1)] ∧ va_P (dC, dI) vwCl [(wk, .inr (6, [.ref k, .int ywl, .int ywb, .int yww])), (k, .inr (0, [.ref ks, .ref kw, .ref kc, .int kwd, .int kbg, .int kme, .ref kq, .ref km, .ref kd, .int ksi, .ref ka, .ref kk])), (ks, .inl (cI, 5, .inl kfs)), (kq, .inl (cI, 6, .inl kfq)), (km, .inl (cI, 6, .inl kfm)), (kd, .inl (cI, 6, .inl kfd))] H ∧ va_D A [(wk, .inr (6, [.ref k, .int ywl, .int ywb, .int yww])), (k, .inr (0, [.ref ks, .ref kw, .ref kc, .int kwd, .int kbg, .int kme, .ref kq, .ref km, .ref kd, .int ksi, .ref ka, .ref kk])), (ks, .inl (cI, 5, .inl kfs)), (kq, .inl (cI, 6, .inl kfq)), (km, .inl (cI, 6, .inl kfm)), (kd, .inl (cI, 6, .inl kfd))] := ⟨i0, 0, x1, 0, 0, by omega, hl0, hP0, hD0⟩
  clear hl0 hP0 hD0
  obtain ⟨n2, hn⟩ : ∃ n : Nat, (n : Int) = 2 * i1.toInt - y4.toInt := ⟨(2 * i1.toInt - y4.toInt).toNat, by omega⟩
  induction n2 generalizing y3 y4 ywl ywb yww ls H locs with
  | zero =>
    skip
    refine lv_iload hx hb dX6_live_28 (lv_at hl 0 rfl) ?_
    refine lv_iconst (v := 2) hx hb dX6_live_30 (by decide) ?_
    refine lv_iload_n hx hb dX6_live_31 rfl (lv_at hl 4 rfl) ?_
    refine lv_imul hx hb dX6_live_32 ?_
    refine lv_topi (fun x6 e6 => ?_)
    have f6 : x6.toInt = (2 : Int) * i1.toInt := by rw [e6]; exact tmul (by have z8 : (2 : Int32).toInt = 2 := rfl; have t8 := tb i1; rw [z8]; omega) (by have z8 : (2 : Int32).toInt = 2 := rfl; have t8 := tb i1; rw [z8]; omega)
    refine lv_icmp_ge (tgt := 76) hx hb dX6_live_33 (by decide) (fun c7 => ?_) (fun c7 => by exfalso; have t7 : y4.toInt < x6.toInt := (tnle c7); omega)
    have hP9 := mx_subP (wc := [(wk, .inr (6, [.ref k, .int ywl, .int ywb, .int yww])), (k, .inr (0, [.ref ks, .ref kw, .ref kc, .int kwd, .int kbg, .int kme, .ref kq, .ref km, .ref kd, .int ksi, .ref ka, .ref kk])), (ks, .inl (cI, 5, .inl kfs)), (kq, .inl (cI, 6, .inl kfq)), (km, .inl (cI, 6, .inl kfm)), (kd, .inl (cI, 6, .inl kfd))]) hP [0, 1, 2, 3, 4, 5] rfl
    have hD9 := hD.sub (ws' := [(wk, .inr (6, [.ref k, .int ywl, .int ywb, .int yww])), (k, .inr (0, [.ref ks, .ref kw, .ref kc, .int kwd, .int kbg, .int kme, .ref kq, .ref km, .ref kd, .int ksi, .ref ka, .ref kk])), (ks, .inl (cI, 5, .inl kfs)), (kq, .inl (cI, 6, .inl kfq)), (km, .inl (cI, 6, .inl kfm)), (kd, .inl (cI, 6, .inl kfd))]) [0, 1, 2, 3, 4, 5] (by decide) rfl
    exact W.vret hx hb hr (fun t ht hW => ⟨⟨((fun u9 => ([] : List (Nat → Int32)).getD u9 (fun _ => 0)), (fun u9 => ([ywl, ywb, yww] : List Int32).getD u9 0), (fun u9 => ([] : List Int64).getD u9 0)), rfl, trivial, by rw [ht]; exact hP9, hD9⟩, hS.F ht⟩) hS.2.2 dX6_live_76
  | succ n2 ih =>
    skip
    refine lv_iload hx hb dX6_live_28 (lv_at hl 0 rfl) ?_
    refine lv_iconst (v := 2) hx hb dX6_live_30 (by decide) ?_
    refine lv_iload_n hx hb dX6_live_31 rfl (lv_at hl 4 rfl) ?_
    refine lv_imul hx hb dX6_live_32 ?_
    refine lv_topi (fun x8 e8 => ?_)
    have f8 : x8.toInt = (2 : Int) * i1.toInt := by rw [e8]; exact tmul (by have z8 : (2 : Int32).toInt = 2 := rfl; have t8 := tb i1; rw [z8]; omega) (by have z8 : (2 : Int32).toInt = 2 := rfl; have t8 := tb i1; rw [z8]; omega)
    refine lv_icmp_ge (tgt := 76) hx hb dX6_live_33 (by decide) (fun c9 => by exfalso; have t9 : x8.toInt ≤ y4.toInt := (tle c9); omega) (fun c9 => ?_)
    refine lv_bipush (v := 75) hx hb dX6_live_36 (by decide) ?_
    refine lv_iload_n hx hb dX6_live_38 rfl (lv_at hl 1 rfl) ?_
    refine lv_imul hx hb dX6_live_39 ?_
    refine lv_topi (fun x10 e10 => ?_)
    refine lv_bipush (v := 74) hx hb dX6_live_40 (by decide) ?_
    refine lv_iadd hx hb dX6_live_42 ?_
    refine lv_topi (fun x11 e11 => ?_)
    refine lv_ldc (v := 65537) hx hb hown hw5 dX6_live_43 ?_
    refine lv_irem hx hb dX6_live_45 (by decide) ?_
    refine lv_topi (fun x12 e12 => ?_)
    refine lv_istore_n (lv' := [(3, .int x12), (4, .int y4), (0, .ref wk), (1, .int i0), (2, .int i1)]) hx hb dX6_live_46 rfl hl (by decide) rfl (fun ls hl => ?_)
    refine lv_aload_n hx hb dX6_live_47 rfl (lv_at hl 2 rfl) ?_
    refine lv_iload_n hx hb dX6_live_48 rfl (lv_at hl 0 rfl) ?_
    refine lv_bipush (v := 6) hx hb dX6_live_49 (by decide) ?_
    refine lv_irem hx hb dX6_live_51 (by decide) ?_
    refine lv_topi (fun x13 e13 => ?_)
    refine lv_iload_n hx hb dX6_live_52 rfl (lv_at hl 0 rfl) ?_
    refine lv_bipush (v := 6) hx hb dX6_live_53 (by decide) ?_
    refine lv_idiv hx hb dX6_live_55 (by decide) ?_
    refine lv_topi (fun x14 e14 => ?_)
    refine lv_iconst (v := 2) hx hb dX6_live_56 (by decide) ?_
    refine lv_irem hx hb dX6_live_57 (by decide) ?_
    refine lv_topi (fun x15 e15 => ?_)
    refine lv_iconst (v := 1) hx hb dX6_live_58 (by decide) ?_
    refine lv_icmp_ne (tgt := 66) hx hb dX6_live_59 (by decide) (fun c16 => ?_) (fun c16 => ?_)
    · have t16 : x15.toInt ≠ (1 : Int) := (tne c16)
      refine lv_iconst (v := 0) hx hb dX6_live_66 (by decide) ?_
      refine mx_v (wr := []) (va_runV (As := [.int x13, .int 0]) (rest := []) ⟨hx, hb, hml, hown, hts⟩ (c_X6_tryToBoil l dC dI cI cZ cK tS aK aV wk x13 0 k ywl ywb yww ks kw kc kwd kbg kme kq km kd ksi ka kk kfs kfq kfm kfd H.size (by have z8 : (0 : Int32).toInt = 0 := rfl; first | omega | decide | assumption | trivial)) (cwV 2 hts (gw_v (fun _ h9 => List.mem_cons_of_mem _ h9) wm_942 wm_943 wm_944 wm_38 wm_945) rfl rfl rfl (by decide +kernel) ⟨Nat.le_of_ble_eq_true rfl, Nat.le_of_ble_eq_true rfl⟩) (mx_preV (C := RX6) (T := TX6) (N := 4) (ci := 6) hKx hP hD hS hA [0, 1, 2, 3, 4, 5] (by decide) rfl rfl rfl) rfl rfl hl.1 rfl (lv_room (Nat.le_of_ble_eq_true rfl)) dX6_live_67 ⟨Nat.le_of_ble_eq_true rfl, Nat.le_of_ble_eq_true rfl⟩) hP hD hS hA [0, 1, 2, 3, 4, 5] [] rfl rfl (by decide) (by decide) (fun u17 H locs hq17 hP hD hS => ?_)
      replace hP : va_P (dC, dI) vwCl [(wk, .inr (6, [.ref k, .int (u17.2.1 0), .int (u17.2.1 1), .int (u17.2.1 2)])), (k, .inr (0, [.ref ks, .ref kw, .ref kc, .int kwd, .int kbg, .int kme, .ref kq, .ref km, .ref kd, .int ksi, .ref ka, .ref kk])), (ks, .inl (cI, 5, .inl kfs)), (kq, .inl (cI, 6, .inl kfq)), (km, .inl (cI, 6, .inl kfm)), (kd, .inl (cI, 6, .inl kfd))] H := hP
      replace hD : va_D A [(wk, .inr (6, [.ref k, .int (u17.2.1 0), .int (u17.2.1 1), .int (u17.2.1 2)])), (k, .inr (0, [.ref ks, .ref kw, .ref kc, .int kwd, .int kbg, .int kme, .ref kq, .ref km, .ref kd, .int ksi, .ref ka, .ref kk])), (ks, .inl (cI, 5, .inl kfs)), (kq, .inl (cI, 6, .inl kfq)), (km, .inl (cI, 6, .inl kfm)), (kd, .inl (cI, 6, .inl kfd))] := hD
      obtain ⟨x18, e18⟩ : ∃ y : Int32, y = y4 + Int32.ofInt 1 := ⟨_, rfl⟩
      refine lv_iinc (v := x18) (lv' := [(4, .int x18), (3, .int x12), (0, .ref wk), (1, .int i0), (2, .int i1)]) hx hb dX6_live_70 hl (k := 1) rfl e18.symm (by decide) rfl (fun ls hl => ?_)
      have f18 : x18.toInt = y4.toInt + 1 := by rw [e18]; exact tinc (by decide) (by have t8 := tb y4; omega) (by have t8 := tb y4; omega)
      refine lv_goto (tgt := 28) hx hb dX6_live_73 (by decide) ?_
      exact ih (H := H) (locs := locs) (ls := ls) (y3 := x12) (y4 := x18) (ywl := (u17.2.1 0)) (ywb := (u17.2.1 1)) (yww := (u17.2.1 2)) hS (by omega)  (show lv_has ls 5 [(4, .int x18), (3, .int x12), (0, .ref wk), (1, .int i0), (2, .int i1)] from lv_sub hl [0, 1, 2, 3, 4] rfl) (mx_subP (wc := [(wk, .inr (6, [.ref k, .int (u17.2.1 0), .int (u17.2.1 1), .int (u17.2.1 2)])), (k, .inr (0, [.ref ks, .ref kw, .ref kc, .int kwd, .int kbg, .int kme, .ref kq, .ref km, .ref kd, .int ksi, .ref ka, .ref kk])), (ks, .inl (cI, 5, .inl kfs)), (kq, .inl (cI, 6, .inl kfq)), (km, .inl (cI, 6, .inl kfm)), (kd, .inl (cI, 6, .inl kfd))]) hP [0, 1, 2, 3, 4, 5] rfl) (hD.sub (ws' := [(wk, .inr (6, [.ref k, .int (u17.2.1 0), .int (u17.2.1 1), .int (u17.2.1 2)])), (k, .inr (0, [.ref ks, .ref kw, .ref kc, .int kwd, .int kbg, .int kme, .ref kq, .ref km, .ref kd, .int ksi, .ref ka, .ref kk])), (ks, .inl (cI, 5, .inl kfs)), (kq, .inl (cI, 6, .inl kfq)), (km, .inl (cI, 6, .inl kfm)), (kd, .inl (cI, 6, .inl kfd))]) [0, 1, 2, 3, 4, 5] (by decide) rfl) (by omega)
    · have t16 : x15.toInt = (1 : Int) := (teq c16)
      refine lv_iconst (v := 1) hx hb dX6_live_62 (by decide) ?_
      refine lv_goto (tgt := 67) hx hb dX6_live_63 (by decide) ?_
      refine mx_v (wr := []) (va_runV (As := [.int x13, .int 1]) (rest := []) ⟨hx, hb, hml, hown, hts⟩ (c_X6_tryToBoil l dC dI cI cZ cK tS aK aV wk x13 1 k ywl ywb yww ks kw kc kwd kbg kme kq km kd ksi ka kk kfs kfq kfm kfd H.size (by have z8 : (1 : Int32).toInt = 1 := rfl; first | omega | decide | assumption | trivial)) (cwV 2 hts (gw_v (fun _ h9 => List.mem_cons_of_mem _ h9) wm_942 wm_943 wm_944 wm_38 wm_945) rfl rfl rfl (by decide +kernel) ⟨Nat.le_of_ble_eq_true rfl, Nat.le_of_ble_eq_true rfl⟩) (mx_preV (C := RX6) (T := TX6) (N := 4) (ci := 6) hKx hP hD hS hA [0, 1, 2, 3, 4, 5] (by decide) rfl rfl rfl) rfl rfl hl.1 rfl (lv_room (Nat.le_of_ble_eq_true rfl)) dX6_live_67 ⟨Nat.le_of_ble_eq_true rfl, Nat.le_of_ble_eq_true rfl⟩) hP hD hS hA [0, 1, 2, 3, 4, 5] [] rfl rfl (by decide) (by decide) (fun u19 H locs hq19 hP hD hS => ?_)
      replace hP : va_P (dC, dI) vwCl [(wk, .inr (6, [.ref k, .int (u19.2.1 0), .int (u19.2.1 1), .int (u19.2.1 2)])), (k, .inr (0, [.ref ks, .ref kw, .ref kc, .int kwd, .int kbg, .int kme, .ref kq, .ref km, .ref kd, .int ksi, .ref ka, .ref kk])), (ks, .inl (cI, 5, .inl kfs)), (kq, .inl (cI, 6, .inl kfq)), (km, .inl (cI, 6, .inl kfm)), (kd, .inl (cI, 6, .inl kfd))] H := hP
      replace hD : va_D A [(wk, .inr (6, [.ref k, .int (u19.2.1 0), .int (u19.2.1 1), .int (u19.2.1 2)])), (k, .inr (0, [.ref ks, .ref kw, .ref kc, .int kwd, .int kbg, .int kme, .ref kq, .ref km, .ref kd, .int ksi, .ref ka, .ref kk])), (ks, .inl (cI, 5, .inl kfs)), (kq, .inl (cI, 6, .inl kfq)), (km, .inl (cI, 6, .inl kfm)), (kd, .inl (cI, 6, .inl kfd))] := hD
      obtain ⟨x20, e20⟩ : ∃ y : Int32, y = y4 + Int32.ofInt 1 := ⟨_, rfl⟩
      refine lv_iinc (v := x20) (lv' := [(4, .int x20), (3, .int x12), (0, .ref wk), (1, .int i0), (2, .int i1)]) hx hb dX6_live_70 hl (k := 1) rfl e20.symm (by decide) rfl (fun ls hl => ?_)
      have f20 : x20.toInt = y4.toInt + 1 := by rw [e20]; exact tinc (by decide) (by have t8 := tb y4; omega) (by have t8 := tb y4; omega)
      refine lv_goto (tgt := 28) hx hb dX6_live_73 (by decide) ?_
      exact ih (H := H) (locs := locs) (ls := ls) (y3 := x12) (y4 := x20) (ywl := (u19.2.1 0)) (ywb := (u19.2.1 1)) (yww := (u19.2.1 2)) hS (by omega)  (show lv_has ls 5 [(4, .int x20), (3, .int x12), (0, .ref wk), (1, .int i0), (2, .int i1)] from lv_sub hl [0, 1, 2, 3, 4] rfl) (mx_subP (wc := [(wk, .inr (6, [.ref k, .int (u19.2.1 0), .int (u19.2.1 1), .int (u19.2.1 2)])), (k, .inr (0, [.ref ks, .ref kw, .ref kc, .int kwd, .int kbg, .int kme, .ref kq, .ref km, .ref kd, .int ksi, .ref ka, .ref kk])), (ks, .inl (cI, 5, .inl kfs)), (kq, .inl (cI, 6, .inl kfq)), (km, .inl (cI, 6, .inl kfm)), (kd, .inl (cI, 6, .inl kfd))]) hP [0, 1, 2, 3, 4, 5] rfl) (hD.sub (ws' := [(wk, .inr (6, [.ref k, .int (u19.2.1 0), .int (u19.2.1 1), .int (u19.2.1 2)])), (k, .inr (0, [.ref ks, .ref kw, .ref kc, .int kwd, .int kbg, .int kme, .ref kq, .ref km, .ref kd, .int ksi, .ref ka, .ref kk])), (ks, .inl (cI, 5, .inl kfs)), (kq, .inl (cI, 6, .inl kfq)), (km, .inl (cI, 6, .inl kfm)), (kd, .inl (cI, 6, .inl kfd))]) [0, 1, 2, 3, 4, 5] (by decide) rfl) (by omega)
set_option maxHeartbeats 4000000 in
set_option maxRecDepth 100000 in
theorem c_X7_week (l : Launch) (dC : Nat → ClassId) (dI : Nat → Nat → Nat) (cI cZ cK : ClassId) (tS : Nat) (aK aV : Nat → Nat) (h : Nat) (i0 : Int32) (i1 : Int32) (i2 : Int32) (k : Nat) (d : Nat) (j : Nat) (o : Nat) (f : Nat) (g : Nat) (wk : Nat) (im : Nat) (kt : Nat) (dl : Nat) (wl : Int32) (wb : Int32) (ww : Int32) (ks : Nat) (kw : Nat) (kc : Nat) (kwd : Int32) (kbg : Int32) (kme : Int32) (kq : Nat) (km : Nat) (kd : Nat) (ksi : Int32) (ka : Nat) (kk : Nat) (kfs : Nat → Int32) (kfq : Nat → Int32) (kfm : Nat → Int32) (kfd : Nat → Int32) (sz : Nat) (h_kfs_4 : 0 ≤ (kfs 4).toInt ∧ (kfs 4).toInt ≤ 13) : Ci l yX7_week (wq yX7_week cX7_week 4 (some .int)) ({ frames := 4, cells := 0, slots := 0, locals := 95 }) dC dI cI cZ cK tS aK aV [.ref h, .int i0, .int i1, .int i2] sz [(h, .inr (7, [.ref k, .ref d, .ref j, .ref o, .ref f, .ref g, .ref wk, .ref im, .ref kt, .ref dl])), (wk, .inr (6, [.ref k, .int wl, .int wb, .int ww])), (k, .inr (0, [.ref ks, .ref kw, .ref kc, .int kwd, .int kbg, .int kme, .ref kq, .ref km, .ref kd, .int ksi, .ref ka, .ref kk])), (ks, .inl (cI, 5, .inl kfs)), (kq, .inl (cI, 6, .inl kfq)), (km, .inl (cI, 6, .inl kfm)), (kd, .inl (cI, 6, .inl kfd))] (fun (r : Int32) (u : (Nat → Nat → Int32) × (Nat → Int32) × (Nat → Int64)) => True) (fun u => [(h, .inr (7, [.ref k, .ref d, .ref j, .ref o, .ref f, .ref g, .ref wk, .ref im, .ref kt, .ref dl])), (wk, .inr (6, [.ref k, .int (u.2.1 0), .int (u.2.1 1), .int (u.2.1 2)])), (k, .inr (0, [.ref ks, .ref kw, .ref kc, .int kwd, .int kbg, .int kme, .ref kq, .ref km, .ref kd, .int ksi, .ref ka, .ref kk])), (ks, .inl (cI, 5, .inl kfs)), (kq, .inl (cI, 6, .inl kfq)), (km, .inl (cI, 6, .inl kfm)), (kd, .inl (cI, 6, .inl kfd))]) := by
  refine Met.ofW (cc := cX7_week) (maxL := 4) (ret := (some .int)) (by decide) rfl ?_
  intro p e s m args below meth c s₁ B hml hv
  obtain ⟨rfl, hsz, hP, hKx, hD0⟩ := hv
  have hx := B.exec
  have hb := B.bytes
  have hr := B.returns
  have hts := atoms_spec (ws := wq yX7_week cX7_week 4 (some .int)) B.pre
  have hown : s.vm.findClass RX7 = some m.cls := findClass_of_methodNamed B.named
  have hlocks := B.notSynchronized
  subst hsz
  have hD := hD0.self (sz := s.heap.size)
  generalize hAe : va_A [(h, .inr (7, [.ref k, .ref d, .ref j, .ref o, .ref f, .ref g, .ref wk, .ref im, .ref kt, .ref dl])), (wk, .inr (6, [.ref k, .int wl, .int wb, .int ww])), (k, .inr (0, [.ref ks, .ref kw, .ref kc, .int kwd, .int kbg, .int kme, .ref kq, .ref km, .ref kd, .int ksi, .ref ka, .ref kk])), (ks, .inl (cI, 5, .inl kfs)), (kq, .inl (cI, 6, .inl kfq)), (km, .inl (cI, 6, .inl kfm)), (kd, .inl (cI, 6, .inl kfd))] s.heap.size = A at hD hKx ⊢
  have hA : ∀ q : Nat, s.heap.size ≤ q → A q := fun q h => by rw [← hAe]; exact Or.inr h
  have hS : va_S A s.heap s.heap [] := va_S.rf
  have hP : va_P (dC, dI) vwCl [(h, .inr (7, [.ref k, .ref d, .ref j, .ref o, .ref f, .ref g, .ref wk, .ref im, .ref kt, .ref dl])), (wk, .inr (6, [.ref k, .int wl, .int wb, .int ww])), (k, .inr (0, [.ref ks, .ref kw, .ref kc, .int kwd, .int kbg, .int kme, .ref kq, .ref km, .ref kd, .int ksi, .ref ka, .ref kk])), (ks, .inl (cI, 5, .inl kfs)), (kq, .inl (cI, 6, .inl kfq)), (km, .inl (cI, 6, .inl kfm)), (kd, .inl (cI, 6, .inl kfd))] s.heap := hP
  have hl := lv_entry ([.ref h, .int i0, .int i1, .int i2]) (n := 4) (Nat.le_of_ble_eq_true rfl)
  rw [lg_entry_eq]
  generalize (lg_sl ([.ref h, .int i0, .int i1, .int i2]) ++ List.replicate (4 - (lg_sl ([.ref h, .int i0, .int i1, .int i2])).length) Slot.unset).toArray = ls at hl ⊢
  have hl : lv_has ls 4 [(0, .ref h), (1, .int i0), (2, .int i1), (3, .int i2)] := hl
  have hK := hKx.1
  have hin7 := fun w9 h9 => List.mem_cons_of_mem (Cond.code yX7_week cX7_week 4 (some .int)) (inlX7 w9 h9)
  have hin6 := fun w9 h9 => List.mem_cons_of_mem (Cond.code yX7_week cX7_week 4 (some .int)) (inlX6 w9 h9)
  have hw0 := hts (.fieldLink RX7 60 "OneCan" "weeks" "LOneCan$Week;") (List.mem_cons_of_mem _ wm_39)
  have hw1 := hts (.fieldLink RX7 266 "OneCan$Week" "wanting" "I") (List.mem_cons_of_mem _ wm_932)
  have hw2 := hts (.fieldLink RX7 265 "OneCan$Week" "boiled" "I") (List.mem_cons_of_mem _ wm_931)
  have hw3 := hts (.fieldLink RX7 264 "OneCan$Week" "left" "I") (List.mem_cons_of_mem _ wm_930)
  refine lv_iload_n hx hb dX7_week_0 rfl (lv_at hl 1 rfl) ?_
  refine lv_iconst (v := 0) hx hb dX7_week_1 (by decide) ?_
  refine lv_sipush (v := 9999) hx hb dX7_week_2 (by decide) ?_
  refine mx_i (wr := [(h, .inr (7, [.ref k, .ref d, .ref j, .ref o, .ref f, .ref g, .ref wk, .ref im, .ref kt, .ref dl])), (wk, .inr (6, [.ref k, .int wl, .int wb, .int ww])), (k, .inr (0, [.ref ks, .ref kw, .ref kc, .int kwd, .int kbg, .int kme, .ref kq, .ref km, .ref kd, .int ksi, .ref ka, .ref kk])), (ks, .inl (cI, 5, .inl kfs)), (kq, .inl (cI, 6, .inl kfq)), (km, .inl (cI, 6, .inl kfm)), (kd, .inl (cI, 6, .inl kfd))]) (va_runS (As := [.int i0, .int 0, .int 9999]) (rest := []) ⟨hx, hb, hml, hown, hts⟩ (c_X7_isIn l dC dI cI cZ cK tS aK aV i0 0 9999 s.heap.size) (va_cwS 3 hts (gw_s (fun _ h9 => List.mem_cons_of_mem _ h9) wm_141 wm_142 wm_2 wm_143) rfl rfl rfl (by decide +kernel) ⟨Nat.le_of_ble_eq_true rfl, Nat.le_of_ble_eq_true rfl⟩) (mx_preS hKx hP hD hS hA [] (by decide) rfl) rfl rfl hl.1 rfl (lv_room (Nat.le_of_ble_eq_true rfl)) dX7_week_5 ⟨Nat.le_of_ble_eq_true rfl, Nat.le_of_ble_eq_true rfl⟩) hP hD hS hA [] [0, 1, 2, 3, 4, 5, 6] rfl rfl (by decide) (by decide) (fun r1 u1 H locs hq1 hP hD hS => ?_)
  replace hP : va_P (dC, dI) vwCl [(h, .inr (7, [.ref k, .ref d, .ref j, .ref o, .ref f, .ref g, .ref wk, .ref im, .ref kt, .ref dl])), (wk, .inr (6, [.ref k, .int wl, .int wb, .int ww])), (k, .inr (0, [.ref ks, .ref kw, .ref kc, .int kwd, .int kbg, .int kme, .ref kq, .ref km, .ref kd, .int ksi, .ref ka, .ref kk])), (ks, .inl (cI, 5, .inl kfs)), (kq, .inl (cI, 6, .inl kfq)), (km, .inl (cI, 6, .inl kfm)), (kd, .inl (cI, 6, .inl kfd))] H := hP
  replace hD : va_D A [(h, .inr (7, [.ref k, .ref d, .ref j, .ref o, .ref f, .ref g, .ref wk, .ref im, .ref kt, .ref dl])), (wk, .inr (6, [.ref k, .int wl, .int wb, .int ww])), (k, .inr (0, [.ref ks, .ref kw, .ref kc, .int kwd, .int kbg, .int kme, .ref kq, .ref km, .ref kd, .int ksi, .ref ka, .ref kk])), (ks, .inl (cI, 5, .inl kfs)), (kq, .inl (cI, 6, .inl kfq)), (km, .inl (cI, 6, .inl kfm)), (kd, .inl (cI, 6, .inl kfd))] := hD
  rcases hq1 with ⟨rfl, hf1⟩ | ⟨rfl, hf1⟩
  · have hf1 : (0 : Int) ≤ i0.toInt ∧ i0.toInt ≤ (9999 : Int) := hf1
    refine lv_if_eq (tgt := 30) hx hb dX7_week_8 (by decide) (fun c2 => absurd c2 (by decide)) (fun c2 => ?_)
    refine lv_iload_n hx hb dX7_week_11 rfl (lv_at hl 2 rfl) ?_
    refine lv_iconst (v := 1) hx hb dX7_week_12 (by decide) ?_
    refine lv_bipush (v := 50) hx hb dX7_week_13 (by decide) ?_
    refine mx_i (wr := [(h, .inr (7, [.ref k, .ref d, .ref j, .ref o, .ref f, .ref g, .ref wk, .ref im, .ref kt, .ref dl])), (wk, .inr (6, [.ref k, .int wl, .int wb, .int ww])), (k, .inr (0, [.ref ks, .ref kw, .ref kc, .int kwd, .int kbg, .int kme, .ref kq, .ref km, .ref kd, .int ksi, .ref ka, .ref kk])), (ks, .inl (cI, 5, .inl kfs)), (kq, .inl (cI, 6, .inl kfq)), (km, .inl (cI, 6, .inl kfm)), (kd, .inl (cI, 6, .inl kfd))]) (va_runS (As := [.int i1, .int 1, .int 50]) (rest := []) ⟨hx, hb, hml, hown, hts⟩ (c_X7_isIn l dC dI cI cZ cK tS aK aV i1 1 50 H.size) (va_cwS 3 hts (gw_s (fun _ h9 => List.mem_cons_of_mem _ h9) wm_141 wm_142 wm_2 wm_143) rfl rfl rfl (by decide +kernel) ⟨Nat.le_of_ble_eq_true rfl, Nat.le_of_ble_eq_true rfl⟩) (mx_preS hKx hP hD hS hA [] (by decide) rfl) rfl rfl hl.1 rfl (lv_room (Nat.le_of_ble_eq_true rfl)) dX7_week_15 ⟨Nat.le_of_ble_eq_true rfl, Nat.le_of_ble_eq_true rfl⟩) hP hD hS hA [] [0, 1, 2, 3, 4, 5, 6] rfl rfl (by decide) (by decide) (fun r3 u3 H locs hq3 hP hD hS => ?_)
    replace hP : va_P (dC, dI) vwCl [(h, .inr (7, [.ref k, .ref d, .ref j, .ref o, .ref f, .ref g, .ref wk, .ref im, .ref kt, .ref dl])), (wk, .inr (6, [.ref k, .int wl, .int wb, .int ww])), (k, .inr (0, [.ref ks, .ref kw, .ref kc, .int kwd, .int kbg, .int kme, .ref kq, .ref km, .ref kd, .int ksi, .ref ka, .ref kk])), (ks, .inl (cI, 5, .inl kfs)), (kq, .inl (cI, 6, .inl kfq)), (km, .inl (cI, 6, .inl kfm)), (kd, .inl (cI, 6, .inl kfd))] H := hP
    replace hD : va_D A [(h, .inr (7, [.ref k, .ref d, .ref j, .ref o, .ref f, .ref g, .ref wk, .ref im, .ref kt, .ref dl])), (wk, .inr (6, [.ref k, .int wl, .int wb, .int ww])), (k, .inr (0, [.ref ks, .ref kw, .ref kc, .int kwd, .int kbg, .int kme, .ref kq, .ref km, .ref kd, .int ksi, .ref ka, .ref kk])), (ks, .inl (cI, 5, .inl kfs)), (kq, .inl (cI, 6, .inl kfq)), (km, .inl (cI, 6, .inl kfm)), (kd, .inl (cI, 6, .inl kfd))] := hD
    rcases hq3 with ⟨rfl, hf3⟩ | ⟨rfl, hf3⟩
    · have hf3 : (1 : Int) ≤ i1.toInt ∧ i1.toInt ≤ (50 : Int) := hf3
      refine lv_if_eq (tgt := 30) hx hb dX7_week_18 (by decide) (fun c4 => absurd c4 (by decide)) (fun c4 => ?_)
      refine lv_iload_n hx hb dX7_week_21 rfl (lv_at hl 3 rfl) ?_
      refine lv_iconst (v := 0) hx hb dX7_week_22 (by decide) ?_
      refine lv_iconst (v := 2) hx hb dX7_week_23 (by decide) ?_
      refine mx_i (wr := [(h, .inr (7, [.ref k, .ref d, .ref j, .ref o, .ref f, .ref g, .ref wk, .ref im, .ref kt, .ref dl])), (wk, .inr (6, [.ref k, .int wl, .int wb, .int ww])), (k, .inr (0, [.ref ks, .ref kw, .ref kc, .int kwd, .int kbg, .int kme, .ref kq, .ref km, .ref kd, .int ksi, .ref ka, .ref kk])), (ks, .inl (cI, 5, .inl kfs)), (kq, .inl (cI, 6, .inl kfq)), (km, .inl (cI, 6, .inl kfm)), (kd, .inl (cI, 6, .inl kfd))]) (va_runS (As := [.int i2, .int 0, .int 2]) (rest := []) ⟨hx, hb, hml, hown, hts⟩ (c_X7_isIn l dC dI cI cZ cK tS aK aV i2 0 2 H.size) (va_cwS 3 hts (gw_s (fun _ h9 => List.mem_cons_of_mem _ h9) wm_141 wm_142 wm_2 wm_143) rfl rfl rfl (by decide +kernel) ⟨Nat.le_of_ble_eq_true rfl, Nat.le_of_ble_eq_true rfl⟩) (mx_preS hKx hP hD hS hA [] (by decide) rfl) rfl rfl hl.1 rfl (lv_room (Nat.le_of_ble_eq_true rfl)) dX7_week_24 ⟨Nat.le_of_ble_eq_true rfl, Nat.le_of_ble_eq_true rfl⟩) hP hD hS hA [] [0, 1, 2, 3, 4, 5, 6] rfl rfl (by decide) (by decide) (fun r5 u5 H locs hq5 hP hD hS => ?_)
      replace hP : va_P (dC, dI) vwCl [(h, .inr (7, [.ref k, .ref d, .ref j, .ref o, .ref f, .ref g, .ref wk, .ref im, .ref kt, .ref dl])), (wk, .inr (6, [.ref k, .int wl, .int wb, .int ww])), (k, .inr (0, [.ref ks, .ref kw, .ref kc, .int kwd, .int kbg, .int kme, .ref kq, .ref km, .ref kd, .int ksi, .ref ka, .ref kk])), (ks, .inl (cI, 5, .inl kfs)), (kq, .inl (cI, 6, .inl kfq)), (km, .inl (cI, 6, .inl kfm)), (kd, .inl (cI, 6, .inl kfd))] H := hP
      replace hD : va_D A [(h, .inr (7, [.ref k, .ref d, .ref j, .ref o, .ref f, .ref g, .ref wk, .ref im, .ref kt, .ref dl])), (wk, .inr (6, [.ref k, .int wl, .int wb, .int ww])), (k, .inr (0, [.ref ks, .ref kw, .ref kc, .int kwd, .int kbg, .int kme, .ref kq, .ref km, .ref kd, .int ksi, .ref ka, .ref kk])), (ks, .inl (cI, 5, .inl kfs)), (kq, .inl (cI, 6, .inl kfq)), (km, .inl (cI, 6, .inl kfm)), (kd, .inl (cI, 6, .inl kfd))] := hD
      rcases hq5 with ⟨rfl, hf5⟩ | ⟨rfl, hf5⟩
      · have hf5 : (0 : Int) ≤ i2.toInt ∧ i2.toInt ≤ (2 : Int) := hf5
        refine lv_if_ne (tgt := 33) hx hb dX7_week_27 (by decide) (fun c6 => ?_) (fun c6 => absurd c6 (by decide))
        refine lv_aload_n hx hb dX7_week_33 rfl (lv_at hl 0 rfl) ?_
        refine va_get (D := (dC, dI)) (ci := 7) (v := .ref wk) (C := RX7) (T := TX7) (N := 10) hx hb hts hin7 hown hK hP 0 rfl rfl 6 (by decide) hw0 (fun _ h9 => h9) rfl dX7_week_34 ?_
        refine lv_iload_n hx hb dX7_week_37 rfl (lv_at hl 1 rfl) ?_
        refine lv_iload_n hx hb dX7_week_38 rfl (lv_at hl 2 rfl) ?_
        refine mx_v (wr := [(h, .inr (7, [.ref k, .ref d, .ref j, .ref o, .ref f, .ref g, .ref wk, .ref im, .ref kt, .ref dl]))]) (va_runV (As := [.int i0, .int i1]) (rest := []) ⟨hx, hb, hml, hown, hts⟩ (c_X6_live l dC dI cI cZ cK tS aK aV wk i0 i1 k wl wb ww ks kw kc kwd kbg kme kq km kd ksi ka kk kfs kfq kfm kfd H.size (by first | omega | decide | assumption | trivial) (by first | omega | decide | assumption | trivial)) (cwV 2 hts (gw_v (fun _ h9 => List.mem_cons_of_mem _ h9) wm_933 wm_934 wm_935 wm_38 wm_936) rfl rfl rfl (by decide +kernel) ⟨Nat.le_of_ble_eq_true rfl, Nat.le_of_ble_eq_true rfl⟩) (mx_preV (C := RX6) (T := TX6) (N := 4) (ci := 6) hKx hP hD hS hA [1, 2, 3, 4, 5, 6] (by decide) rfl rfl rfl) rfl rfl hl.1 rfl (lv_room (Nat.le_of_ble_eq_true rfl)) dX7_week_39 ⟨Nat.le_of_ble_eq_true rfl, Nat.le_of_ble_eq_true rfl⟩) hP hD hS hA [1, 2, 3, 4, 5, 6] [0] rfl rfl (by decide) (by decide) (fun u7 H locs hq7 hP hD hS => ?_)
        replace hP : va_P (dC, dI) vwCl [(h, .inr (7, [.ref k, .ref d, .ref j, .ref o, .ref f, .ref g, .ref wk, .ref im, .ref kt, .ref dl])), (wk, .inr (6, [.ref k, .int (u7.2.1 0), .int (u7.2.1 1), .int (u7.2.1 2)])), (k, .inr (0, [.ref ks, .ref kw, .ref kc, .int kwd, .int kbg, .int kme, .ref kq, .ref km, .ref kd, .int ksi, .ref ka, .ref kk])), (ks, .inl (cI, 5, .inl kfs)), (kq, .inl (cI, 6, .inl kfq)), (km, .inl (cI, 6, .inl kfm)), (kd, .inl (cI, 6, .inl kfd))] H := hP
        replace hD : va_D A [(h, .inr (7, [.ref k, .ref d, .ref j, .ref o, .ref f, .ref g, .ref wk, .ref im, .ref kt, .ref dl])), (wk, .inr (6, [.ref k, .int (u7.2.1 0), .int (u7.2.1 1), .int (u7.2.1 2)])), (k, .inr (0, [.ref ks, .ref kw, .ref kc, .int kwd, .int kbg, .int kme, .ref kq, .ref km, .ref kd, .int ksi, .ref ka, .ref kk])), (ks, .inl (cI, 5, .inl kfs)), (kq, .inl (cI, 6, .inl kfq)), (km, .inl (cI, 6, .inl kfm)), (kd, .inl (cI, 6, .inl kfd))] := hD
        refine lv_iload_n hx hb dX7_week_42 rfl (lv_at hl 3 rfl) ?_
        refine lv_if_ne (tgt := 54) hx hb dX7_week_43 (by decide) (fun c8 => ?_) (fun c8 => ?_)
        · have t8 : i2.toInt ≠ (0 : Int) := (tne c8)
          refine lv_iload_n hx hb dX7_week_54 rfl (lv_at hl 3 rfl) ?_
          refine lv_iconst (v := 1) hx hb dX7_week_55 (by decide) ?_
          refine lv_icmp_ne (tgt := 69) hx hb dX7_week_56 (by decide) (fun c9 => ?_) (fun c9 => ?_)
          · have t9 : i2.toInt ≠ (1 : Int) := (tne c9)
            refine lv_aload_n hx hb dX7_week_69 rfl (lv_at hl 0 rfl) ?_
            refine va_get (D := (dC, dI)) (ci := 7) (v := .ref wk) (C := RX7) (T := TX7) (N := 10) hx hb hts hin7 hown hK hP 0 rfl rfl 6 (by decide) hw0 (fun _ h9 => h9) rfl dX7_week_70 ?_
            refine va_get (D := (dC, dI)) (ci := 6) (v := .int (u7.2.1 2)) (C := RX6) (T := TX6) (N := 4) hx hb hts hin6 hown hK hP 1 rfl rfl 3 (by decide) hw1 (fun _ h9 => h9) rfl dX7_week_73 ?_
            have hP9 := mx_subP (wc := [(h, .inr (7, [.ref k, .ref d, .ref j, .ref o, .ref f, .ref g, .ref wk, .ref im, .ref kt, .ref dl])), (wk, .inr (6, [.ref k, .int (u7.2.1 0), .int (u7.2.1 1), .int (u7.2.1 2)])), (k, .inr (0, [.ref ks, .ref kw, .ref kc, .int kwd, .int kbg, .int kme, .ref kq, .ref km, .ref kd, .int ksi, .ref ka, .ref kk])), (ks, .inl (cI, 5, .inl kfs)), (kq, .inl (cI, 6, .inl kfq)), (km, .inl (cI, 6, .inl kfm)), (kd, .inl (cI, 6, .inl kfd))]) hP [0, 1, 2, 3, 4, 5, 6] rfl
            have hD9 := hD.sub (ws' := [(h, .inr (7, [.ref k, .ref d, .ref j, .ref o, .ref f, .ref g, .ref wk, .ref im, .ref kt, .ref dl])), (wk, .inr (6, [.ref k, .int (u7.2.1 0), .int (u7.2.1 1), .int (u7.2.1 2)])), (k, .inr (0, [.ref ks, .ref kw, .ref kc, .int kwd, .int kbg, .int kme, .ref kq, .ref km, .ref kd, .int ksi, .ref ka, .ref kk])), (ks, .inl (cI, 5, .inl kfs)), (kq, .inl (cI, 6, .inl kfq)), (km, .inl (cI, 6, .inl kfm)), (kd, .inl (cI, 6, .inl kfd))]) [0, 1, 2, 3, 4, 5, 6] (by decide) rfl
            exact W.iret (v := (u7.2.1 2)) hx hb hr (fun t ht hW => ⟨⟨(u7.2.1 2), ((fun u9 => ([] : List (Nat → Int32)).getD u9 (fun _ => 0)), (fun u9 => ([(u7.2.1 0), (u7.2.1 1), (u7.2.1 2)] : List Int32).getD u9 0), (fun u9 => ([] : List Int64).getD u9 0)), rfl, trivial, by rw [ht]; exact hP9, hD9⟩, hS.F ht⟩) hS.2.2 dX7_week_76
          · have t9 : i2.toInt = (1 : Int) := (teq c9)
            refine lv_aload_n hx hb dX7_week_59 rfl (lv_at hl 0 rfl) ?_
            refine va_get (D := (dC, dI)) (ci := 7) (v := .ref wk) (C := RX7) (T := TX7) (N := 10) hx hb hts hin7 hown hK hP 0 rfl rfl 6 (by decide) hw0 (fun _ h9 => h9) rfl dX7_week_60 ?_
            refine va_get (D := (dC, dI)) (ci := 6) (v := .int (u7.2.1 1)) (C := RX6) (T := TX6) (N := 4) hx hb hts hin6 hown hK hP 1 rfl rfl 2 (by decide) hw2 (fun _ h9 => h9) rfl dX7_week_63 ?_
            refine lv_goto (tgt := 76) hx hb dX7_week_66 (by decide) ?_
            have hP9 := mx_subP (wc := [(h, .inr (7, [.ref k, .ref d, .ref j, .ref o, .ref f, .ref g, .ref wk, .ref im, .ref kt, .ref dl])), (wk, .inr (6, [.ref k, .int (u7.2.1 0), .int (u7.2.1 1), .int (u7.2.1 2)])), (k, .inr (0, [.ref ks, .ref kw, .ref kc, .int kwd, .int kbg, .int kme, .ref kq, .ref km, .ref kd, .int ksi, .ref ka, .ref kk])), (ks, .inl (cI, 5, .inl kfs)), (kq, .inl (cI, 6, .inl kfq)), (km, .inl (cI, 6, .inl kfm)), (kd, .inl (cI, 6, .inl kfd))]) hP [0, 1, 2, 3, 4, 5, 6] rfl
            have hD9 := hD.sub (ws' := [(h, .inr (7, [.ref k, .ref d, .ref j, .ref o, .ref f, .ref g, .ref wk, .ref im, .ref kt, .ref dl])), (wk, .inr (6, [.ref k, .int (u7.2.1 0), .int (u7.2.1 1), .int (u7.2.1 2)])), (k, .inr (0, [.ref ks, .ref kw, .ref kc, .int kwd, .int kbg, .int kme, .ref kq, .ref km, .ref kd, .int ksi, .ref ka, .ref kk])), (ks, .inl (cI, 5, .inl kfs)), (kq, .inl (cI, 6, .inl kfq)), (km, .inl (cI, 6, .inl kfm)), (kd, .inl (cI, 6, .inl kfd))]) [0, 1, 2, 3, 4, 5, 6] (by decide) rfl
            exact W.iret (v := (u7.2.1 1)) hx hb hr (fun t ht hW => ⟨⟨(u7.2.1 1), ((fun u9 => ([] : List (Nat → Int32)).getD u9 (fun _ => 0)), (fun u9 => ([(u7.2.1 0), (u7.2.1 1), (u7.2.1 2)] : List Int32).getD u9 0), (fun u9 => ([] : List Int64).getD u9 0)), rfl, trivial, by rw [ht]; exact hP9, hD9⟩, hS.F ht⟩) hS.2.2 dX7_week_76
        · have t8 : i2.toInt = (0 : Int) := (teq c8)
          refine lv_aload_n hx hb dX7_week_46 rfl (lv_at hl 0 rfl) ?_
          refine va_get (D := (dC, dI)) (ci := 7) (v := .ref wk) (C := RX7) (T := TX7) (N := 10) hx hb hts hin7 hown hK hP 0 rfl rfl 6 (by decide) hw0 (fun _ h9 => h9) rfl dX7_week_47 ?_
          refine va_get (D := (dC, dI)) (ci := 6) (v := .int (u7.2.1 0)) (C := RX6) (T := TX6) (N := 4) hx hb hts hin6 hown hK hP 1 rfl rfl 1 (by decide) hw3 (fun _ h9 => h9) rfl dX7_week_50 ?_
          have hP9 := mx_subP (wc := [(h, .inr (7, [.ref k, .ref d, .ref j, .ref o, .ref f, .ref g, .ref wk, .ref im, .ref kt, .ref dl])), (wk, .inr (6, [.ref k, .int (u7.2.1 0), .int (u7.2.1 1), .int (u7.2.1 2)])), (k, .inr (0, [.ref ks, .ref kw, .ref kc, .int kwd, .int kbg, .int kme, .ref kq, .ref km, .ref kd, .int ksi, .ref ka, .ref kk])), (ks, .inl (cI, 5, .inl kfs)), (kq, .inl (cI, 6, .inl kfq)), (km, .inl (cI, 6, .inl kfm)), (kd, .inl (cI, 6, .inl kfd))]) hP [0, 1, 2, 3, 4, 5, 6] rfl
          have hD9 := hD.sub (ws' := [(h, .inr (7, [.ref k, .ref d, .ref j, .ref o, .ref f, .ref g, .ref wk, .ref im, .ref kt, .ref dl])), (wk, .inr (6, [.ref k, .int (u7.2.1 0), .int (u7.2.1 1), .int (u7.2.1 2)])), (k, .inr (0, [.ref ks, .ref kw, .ref kc, .int kwd, .int kbg, .int kme, .ref kq, .ref km, .ref kd, .int ksi, .ref ka, .ref kk])), (ks, .inl (cI, 5, .inl kfs)), (kq, .inl (cI, 6, .inl kfq)), (km, .inl (cI, 6, .inl kfm)), (kd, .inl (cI, 6, .inl kfd))]) [0, 1, 2, 3, 4, 5, 6] (by decide) rfl
          exact W.iret (v := (u7.2.1 0)) hx hb hr (fun t ht hW => ⟨⟨(u7.2.1 0), ((fun u9 => ([] : List (Nat → Int32)).getD u9 (fun _ => 0)), (fun u9 => ([(u7.2.1 0), (u7.2.1 1), (u7.2.1 2)] : List Int32).getD u9 0), (fun u9 => ([] : List Int64).getD u9 0)), rfl, trivial, by rw [ht]; exact hP9, hD9⟩, hS.F ht⟩) hS.2.2 dX7_week_53
      · have hf5 : i2.toInt < (0 : Int) ∨ (2 : Int) < i2.toInt := hf5
        refine lv_if_ne (tgt := 33) hx hb dX7_week_27 (by decide) (fun c10 => absurd c10 (by decide)) (fun c10 => ?_)
        refine lv_bipush (v := (-2)) hx hb dX7_week_30 (by decide) ?_
        have hP9 := mx_subP (wc := [(h, .inr (7, [.ref k, .ref d, .ref j, .ref o, .ref f, .ref g, .ref wk, .ref im, .ref kt, .ref dl])), (wk, .inr (6, [.ref k, .int wl, .int wb, .int ww])), (k, .inr (0, [.ref ks, .ref kw, .ref kc, .int kwd, .int kbg, .int kme, .ref kq, .ref km, .ref kd, .int ksi, .ref ka, .ref kk])), (ks, .inl (cI, 5, .inl kfs)), (kq, .inl (cI, 6, .inl kfq)), (km, .inl (cI, 6, .inl kfm)), (kd, .inl (cI, 6, .inl kfd))]) hP [0, 1, 2, 3, 4, 5, 6] rfl
        have hD9 := hD.sub (ws' := [(h, .inr (7, [.ref k, .ref d, .ref j, .ref o, .ref f, .ref g, .ref wk, .ref im, .ref kt, .ref dl])), (wk, .inr (6, [.ref k, .int wl, .int wb, .int ww])), (k, .inr (0, [.ref ks, .ref kw, .ref kc, .int kwd, .int kbg, .int kme, .ref kq, .ref km, .ref kd, .int ksi, .ref ka, .ref kk])), (ks, .inl (cI, 5, .inl kfs)), (kq, .inl (cI, 6, .inl kfq)), (km, .inl (cI, 6, .inl kfm)), (kd, .inl (cI, 6, .inl kfd))]) [0, 1, 2, 3, 4, 5, 6] (by decide) rfl
        exact W.iret (v := (-2)) hx hb hr (fun t ht hW => ⟨⟨(-2), ((fun u9 => ([] : List (Nat → Int32)).getD u9 (fun _ => 0)), (fun u9 => ([wl, wb, ww] : List Int32).getD u9 0), (fun u9 => ([] : List Int64).getD u9 0)), rfl, trivial, by rw [ht]; exact hP9, hD9⟩, hS.F ht⟩) hS.2.2 dX7_week_32
    · have hf3 : i1.toInt < (1 : Int) ∨ (50 : Int) < i1.toInt := hf3
      refine lv_if_eq (tgt := 30) hx hb dX7_week_18 (by decide) (fun c11 => ?_) (fun c11 => absurd c11 (by decide))
      refine lv_bipush (v := (-2)) hx hb dX7_week_30 (by decide) ?_
      have hP9 := mx_subP (wc := [(h, .inr (7, [.ref k, .ref d, .ref j, .ref o, .ref f, .ref g, .ref wk, .ref im, .ref kt, .ref dl])), (wk, .inr (6, [.ref k, .int wl, .int wb, .int ww])), (k, .inr (0, [.ref ks, .ref kw, .ref kc, .int kwd, .int kbg, .int kme, .ref kq, .ref km, .ref kd, .int ksi, .ref ka, .ref kk])), (ks, .inl (cI, 5, .inl kfs)), (kq, .inl (cI, 6, .inl kfq)), (km, .inl (cI, 6, .inl kfm)), (kd, .inl (cI, 6, .inl kfd))]) hP [0, 1, 2, 3, 4, 5, 6] rfl
      have hD9 := hD.sub (ws' := [(h, .inr (7, [.ref k, .ref d, .ref j, .ref o, .ref f, .ref g, .ref wk, .ref im, .ref kt, .ref dl])), (wk, .inr (6, [.ref k, .int wl, .int wb, .int ww])), (k, .inr (0, [.ref ks, .ref kw, .ref kc, .int kwd, .int kbg, .int kme, .ref kq, .ref km, .ref kd, .int ksi, .ref ka, .ref kk])), (ks, .inl (cI, 5, .inl kfs)), (kq, .inl (cI, 6, .inl kfq)), (km, .inl (cI, 6, .inl kfm)), (kd, .inl (cI, 6, .inl kfd))]) [0, 1, 2, 3, 4, 5, 6] (by decide) rfl
      exact W.iret (v := (-2)) hx hb hr (fun t ht hW => ⟨⟨(-2), ((fun u9 => ([] : List (Nat → Int32)).getD u9 (fun _ => 0)), (fun u9 => ([wl, wb, ww] : List Int32).getD u9 0), (fun u9 => ([] : List Int64).getD u9 0)), rfl, trivial, by rw [ht]; exact hP9, hD9⟩, hS.F ht⟩) hS.2.2 dX7_week_32
  · have hf1 : i0.toInt < (0 : Int) ∨ (9999 : Int) < i0.toInt := hf1
    refine lv_if_eq (tgt := 30) hx hb dX7_week_8 (by decide) (fun c12 => ?_) (fun c12 => absurd c12 (by decide))
    refine lv_bipush (v := (-2)) hx hb dX7_week_30 (by decide) ?_
    have hP9 := mx_subP (wc := [(h, .inr (7, [.ref k, .ref d, .ref j, .ref o, .ref f, .ref g, .ref wk, .ref im, .ref kt, .ref dl])), (wk, .inr (6, [.ref k, .int wl, .int wb, .int ww])), (k, .inr (0, [.ref ks, .ref kw, .ref kc, .int kwd, .int kbg, .int kme, .ref kq, .ref km, .ref kd, .int ksi, .ref ka, .ref kk])), (ks, .inl (cI, 5, .inl kfs)), (kq, .inl (cI, 6, .inl kfq)), (km, .inl (cI, 6, .inl kfm)), (kd, .inl (cI, 6, .inl kfd))]) hP [0, 1, 2, 3, 4, 5, 6] rfl
    have hD9 := hD.sub (ws' := [(h, .inr (7, [.ref k, .ref d, .ref j, .ref o, .ref f, .ref g, .ref wk, .ref im, .ref kt, .ref dl])), (wk, .inr (6, [.ref k, .int wl, .int wb, .int ww])), (k, .inr (0, [.ref ks, .ref kw, .ref kc, .int kwd, .int kbg, .int kme, .ref kq, .ref km, .ref kd, .int ksi, .ref ka, .ref kk])), (ks, .inl (cI, 5, .inl kfs)), (kq, .inl (cI, 6, .inl kfq)), (km, .inl (cI, 6, .inl kfm)), (kd, .inl (cI, 6, .inl kfd))]) [0, 1, 2, 3, 4, 5, 6] (by decide) rfl
    exact W.iret (v := (-2)) hx hb hr (fun t ht hW => ⟨⟨(-2), ((fun u9 => ([] : List (Nat → Int32)).getD u9 (fun _ => 0)), (fun u9 => ([wl, wb, ww] : List Int32).getD u9 0), (fun u9 => ([] : List Int64).getD u9 0)), rfl, trivial, by rw [ht]; exact hP9, hD9⟩, hS.F ht⟩) hS.2.2 dX7_week_32
