set_option maxHeartbeats 4000000 in
set_option maxRecDepth 100000 in
theorem c_X7_seen (l : Launch) (dC : Nat → ClassId) (dI : Nat → Nat → Nat) (cI cZ cK : ClassId) (tS : Nat) (aK aV : Nat → Nat) (h : Nat) (i0 : Int32) (i1 : Int32) (k : Nat) (d : Nat) (j : Nat) (o : Nat) (f : Nat) (g : Nat) (wk : Nat) (im : Nat) (kt : Nat) (dl : Nat) (ks : Nat) (kw : Nat) (kc : Nat) (kwd : Int32) (kbg : Int32) (kme : Int32) (kq : Nat) (km : Nat) (kd : Nat) (ksi : Int32) (ka : Nat) (kk : Nat) (kfa : Nat → Int32) (kfk : Nat → Int32) (sz : Nat) (h_kfa : rg kfa 8 0 60) (h_ksi : 0 ≤ ksi.toInt ∧ ksi.toInt ≤ 8) : Ci l yX7_seen (wq yX7_seen cX7_seen 3 (some .int)) ({ frames := 1, cells := 0, slots := 0, locals := 22 }) dC dI cI cZ cK tS aK aV [.ref h, .int i0, .int i1] sz [(h, .inr (7, [.ref k, .ref d, .ref j, .ref o, .ref f, .ref g, .ref wk, .ref im, .ref kt, .ref dl])), (k, .inr (0, [.ref ks, .ref kw, .ref kc, .int kwd, .int kbg, .int kme, .ref kq, .ref km, .ref kd, .int ksi, .ref ka, .ref kk])), (ka, .inl (cI, 8, .inl kfa)), (kk, .inl (cI, 8, .inl kfk))] (fun (r : Int32) (u : (Nat → Nat → Int32) × (Nat → Int32) × (Nat → Int64)) => (0 ≤ (u.2.1 0).toInt ∧ (u.2.1 0).toInt ≤ 8) ∧ rg (u.1 0) 8 0 60 ∧ ((0 ≤ i0.toInt ∧ i0.toInt ≤ 60 ∧ 0 ≤ i1.toInt ∧ i1.toInt ≤ 20 ∧ ksi.toInt < 8 ∧ r.toInt = ksi.toInt + 1 ∧ (u.2.1 0).toInt = ksi.toInt + 1) ∨ ((i0.toInt < 0 ∨ 60 < i0.toInt ∨ i1.toInt < 0 ∨ 20 < i1.toInt) ∧ r.toInt = -2 ∧ (u.2.1 0).toInt = ksi.toInt) ∨ (0 ≤ i0.toInt ∧ i0.toInt ≤ 60 ∧ 0 ≤ i1.toInt ∧ i1.toInt ≤ 20 ∧ ksi.toInt = 8 ∧ r.toInt = -4 ∧ (u.2.1 0).toInt = ksi.toInt))) (fun u => [(h, .inr (7, [.ref k, .ref d, .ref j, .ref o, .ref f, .ref g, .ref wk, .ref im, .ref kt, .ref dl])), (k, .inr (0, [.ref ks, .ref kw, .ref kc, .int kwd, .int kbg, .int kme, .ref kq, .ref km, .ref kd, .int (u.2.1 0), .ref ka, .ref kk])), (ka, .inl (cI, 8, .inl (u.1 0))), (kk, .inl (cI, 8, .inl (u.1 1)))]) := by
  refine Met.ofW (cc := cX7_seen) (maxL := 3) (ret := (some .int)) (by decide) rfl ?_
  intro p e s m args below meth c s₁ B hml hv
  obtain ⟨rfl, hsz, hP, hKx, hD0⟩ := hv
  have hx := B.exec
  have hb := B.bytes
  have hr := B.returns
  have hts := atoms_spec (ws := wq yX7_seen cX7_seen 3 (some .int)) B.pre
  have hown : s.vm.findClass RX7 = some m.cls := findClass_of_methodNamed B.named
  have hlocks := B.notSynchronized
  subst hsz
  have hD := hD0.self (sz := s.heap.size)
  generalize hAe : va_A [(h, .inr (7, [.ref k, .ref d, .ref j, .ref o, .ref f, .ref g, .ref wk, .ref im, .ref kt, .ref dl])), (k, .inr (0, [.ref ks, .ref kw, .ref kc, .int kwd, .int kbg, .int kme, .ref kq, .ref km, .ref kd, .int ksi, .ref ka, .ref kk])), (ka, .inl (cI, 8, .inl kfa)), (kk, .inl (cI, 8, .inl kfk))] s.heap.size = A at hD hKx ⊢
  have hA : ∀ q : Nat, s.heap.size ≤ q → A q := fun q h => by rw [← hAe]; exact Or.inr h
  have hS : va_S A s.heap s.heap [] := va_S.rf
  have hP : va_P (dC, dI) vwCl [(h, .inr (7, [.ref k, .ref d, .ref j, .ref o, .ref f, .ref g, .ref wk, .ref im, .ref kt, .ref dl])), (k, .inr (0, [.ref ks, .ref kw, .ref kc, .int kwd, .int kbg, .int kme, .ref kq, .ref km, .ref kd, .int ksi, .ref ka, .ref kk])), (ka, .inl (cI, 8, .inl kfa)), (kk, .inl (cI, 8, .inl kfk))] s.heap := hP
  have hl := lv_entry ([.ref h, .int i0, .int i1]) (n := 3) (Nat.le_of_ble_eq_true rfl)
  rw [lg_entry_eq]
  generalize (lg_sl ([.ref h, .int i0, .int i1]) ++ List.replicate (3 - (lg_sl ([.ref h, .int i0, .int i1])).length) Slot.unset).toArray = ls at hl ⊢
  have hl : lv_has ls 3 [(0, .ref h), (1, .int i0), (2, .int i1)] := hl
  have hK := hKx.1
  have hin7 := fun w9 h9 => List.mem_cons_of_mem (Cond.code yX7_seen cX7_seen 3 (some .int)) (inlX7 w9 h9)
  have hin0 := fun w9 h9 => List.mem_cons_of_mem (Cond.code yX7_seen cX7_seen 3 (some .int)) (inlX0 w9 h9)
  have hw0 := hts (.fieldLink RX7 12 "OneCan" "camp" "LOneCan$Camp;") (List.mem_cons_of_mem _ wm_15)
  have hw1 := hts (.fieldLink RX7 206 "OneCan$Camp" "sights" "I") (List.mem_cons_of_mem _ wm_707)
  have hw2 := hts (.fieldLink RX7 209 "OneCan$Camp" "sightActs" "[I") (List.mem_cons_of_mem _ wm_708)
  have hw3 := hts (.fieldLink RX7 212 "OneCan$Camp" "sightMarks" "[I") (List.mem_cons_of_mem _ wm_709)
  refine lv_iload_n hx hb dX7_seen_0 rfl (lv_at hl 1 rfl) ?_
  refine lv_iconst (v := 0) hx hb dX7_seen_1 (by decide) ?_
  refine lv_bipush (v := 60) hx hb dX7_seen_2 (by decide) ?_
  refine mx_i (wr := [(h, .inr (7, [.ref k, .ref d, .ref j, .ref o, .ref f, .ref g, .ref wk, .ref im, .ref kt, .ref dl])), (k, .inr (0, [.ref ks, .ref kw, .ref kc, .int kwd, .int kbg, .int kme, .ref kq, .ref km, .ref kd, .int ksi, .ref ka, .ref kk])), (ka, .inl (cI, 8, .inl kfa)), (kk, .inl (cI, 8, .inl kfk))]) (va_runS (As := [.int i0, .int 0, .int 60]) (rest := []) ⟨hx, hb, hml, hown, hts⟩ (c_X7_isIn l dC dI cI cZ cK tS aK aV i0 0 60 s.heap.size) (va_cwS 3 hts (gw_s (fun _ h9 => List.mem_cons_of_mem _ h9) wm_141 wm_142 wm_2 wm_143) rfl rfl rfl (by decide +kernel) ⟨Nat.le_of_ble_eq_true rfl, Nat.le_of_ble_eq_true rfl⟩) (mx_preS hKx hP hD hS hA [] (by decide) rfl) rfl rfl hl.1 rfl (lv_room (Nat.le_of_ble_eq_true rfl)) dX7_seen_4 ⟨Nat.le_of_ble_eq_true rfl, Nat.le_of_ble_eq_true rfl⟩) hP hD hS hA [] [0, 1, 2, 3] rfl rfl (by decide) (by decide) (fun r1 u1 H locs hq1 hP hD hS => ?_)
  replace hP : va_P (dC, dI) vwCl [(h, .inr (7, [.ref k, .ref d, .ref j, .ref o, .ref f, .ref g, .ref wk, .ref im, .ref kt, .ref dl])), (k, .inr (0, [.ref ks, .ref kw, .ref kc, .int kwd, .int kbg, .int kme, .ref kq, .ref km, .ref kd, .int ksi, .ref ka, .ref kk])), (ka, .inl (cI, 8, .inl kfa)), (kk, .inl (cI, 8, .inl kfk))] H := hP
  replace hD : va_D A [(h, .inr (7, [.ref k, .ref d, .ref j, .ref o, .ref f, .ref g, .ref wk, .ref im, .ref kt, .ref dl])), (k, .inr (0, [.ref ks, .ref kw, .ref kc, .int kwd, .int kbg, .int kme, .ref kq, .ref km, .ref kd, .int ksi, .ref ka, .ref kk])), (ka, .inl (cI, 8, .inl kfa)), (kk, .inl (cI, 8, .inl kfk))] := hD
  rcases hq1 with ⟨rfl, hf1⟩ | ⟨rfl, hf1⟩
  · have hf1 : (0 : Int) ≤ i0.toInt ∧ i0.toInt ≤ (60 : Int) := hf1
    refine lv_if_eq (tgt := 20) hx hb dX7_seen_7 (by decide) (fun c2 => absurd c2 (by decide)) (fun c2 => ?_)
    refine lv_iload_n hx hb dX7_seen_10 rfl (lv_at hl 2 rfl) ?_
    refine lv_iconst (v := 0) hx hb dX7_seen_11 (by decide) ?_
    refine lv_bipush (v := 20) hx hb dX7_seen_12 (by decide) ?_
    refine mx_i (wr := [(h, .inr (7, [.ref k, .ref d, .ref j, .ref o, .ref f, .ref g, .ref wk, .ref im, .ref kt, .ref dl])), (k, .inr (0, [.ref ks, .ref kw, .ref kc, .int kwd, .int kbg, .int kme, .ref kq, .ref km, .ref kd, .int ksi, .ref ka, .ref kk])), (ka, .inl (cI, 8, .inl kfa)), (kk, .inl (cI, 8, .inl kfk))]) (va_runS (As := [.int i1, .int 0, .int 20]) (rest := []) ⟨hx, hb, hml, hown, hts⟩ (c_X7_isIn l dC dI cI cZ cK tS aK aV i1 0 20 H.size) (va_cwS 3 hts (gw_s (fun _ h9 => List.mem_cons_of_mem _ h9) wm_141 wm_142 wm_2 wm_143) rfl rfl rfl (by decide +kernel) ⟨Nat.le_of_ble_eq_true rfl, Nat.le_of_ble_eq_true rfl⟩) (mx_preS hKx hP hD hS hA [] (by decide) rfl) rfl rfl hl.1 rfl (lv_room (Nat.le_of_ble_eq_true rfl)) dX7_seen_14 ⟨Nat.le_of_ble_eq_true rfl, Nat.le_of_ble_eq_true rfl⟩) hP hD hS hA [] [0, 1, 2, 3] rfl rfl (by decide) (by decide) (fun r3 u3 H locs hq3 hP hD hS => ?_)
    replace hP : va_P (dC, dI) vwCl [(h, .inr (7, [.ref k, .ref d, .ref j, .ref o, .ref f, .ref g, .ref wk, .ref im, .ref kt, .ref dl])), (k, .inr (0, [.ref ks, .ref kw, .ref kc, .int kwd, .int kbg, .int kme, .ref kq, .ref km, .ref kd, .int ksi, .ref ka, .ref kk])), (ka, .inl (cI, 8, .inl kfa)), (kk, .inl (cI, 8, .inl kfk))] H := hP
    replace hD : va_D A [(h, .inr (7, [.ref k, .ref d, .ref j, .ref o, .ref f, .ref g, .ref wk, .ref im, .ref kt, .ref dl])), (k, .inr (0, [.ref ks, .ref kw, .ref kc, .int kwd, .int kbg, .int kme, .ref kq, .ref km, .ref kd, .int ksi, .ref ka, .ref kk])), (ka, .inl (cI, 8, .inl kfa)), (kk, .inl (cI, 8, .inl kfk))] := hD
    rcases hq3 with ⟨rfl, hf3⟩ | ⟨rfl, hf3⟩
    · have hf3 : (0 : Int) ≤ i1.toInt ∧ i1.toInt ≤ (20 : Int) := hf3
      refine lv_if_ne (tgt := 23) hx hb dX7_seen_17 (by decide) (fun c4 => ?_) (fun c4 => absurd c4 (by decide))
      refine lv_aload_n hx hb dX7_seen_23 rfl (lv_at hl 0 rfl) ?_
      refine va_get (D := (dC, dI)) (ci := 7) (v := .ref k) (C := RX7) (T := TX7) (N := 10) hx hb hts hin7 hown hK hP 0 rfl rfl 0 (by decide) hw0 (fun _ h9 => h9) rfl dX7_seen_24 ?_
      refine va_get (D := (dC, dI)) (ci := 0) (v := .int ksi) (C := RX0) (T := TX0) (N := 12) hx hb hts hin0 hown hK hP 1 rfl rfl 9 (by decide) hw1 (fun _ h9 => h9) rfl dX7_seen_27 ?_
      refine lv_bipush (v := 8) hx hb dX7_seen_30 (by decide) ?_
      refine lv_icmp_lt (tgt := 38) hx hb dX7_seen_32 (by decide) (fun c5 => ?_) (fun c5 => ?_)
      · have t5 : ksi.toInt < (8 : Int) := (tlt c5)
        refine lv_aload_n hx hb dX7_seen_38 rfl (lv_at hl 0 rfl) ?_
        refine va_get (D := (dC, dI)) (ci := 7) (v := .ref k) (C := RX7) (T := TX7) (N := 10) hx hb hts hin7 hown hK hP 0 rfl rfl 0 (by decide) hw0 (fun _ h9 => h9) rfl dX7_seen_39 ?_
        refine va_get (D := (dC, dI)) (ci := 0) (v := .ref ka) (C := RX0) (T := TX0) (N := 12) hx hb hts hin0 hown hK hP 1 rfl rfl 10 (by decide) hw2 (fun _ h9 => h9) rfl dX7_seen_42 ?_
        refine lv_aload_n hx hb dX7_seen_45 rfl (lv_at hl 0 rfl) ?_
        refine va_get (D := (dC, dI)) (ci := 7) (v := .ref k) (C := RX7) (T := TX7) (N := 10) hx hb hts hin7 hown hK hP 0 rfl rfl 0 (by decide) hw0 (fun _ h9 => h9) rfl dX7_seen_46 ?_
        refine va_get (D := (dC, dI)) (ci := 0) (v := .int ksi) (C := RX0) (T := TX0) (N := 12) hx hb hts hin0 hown hK hP 1 rfl rfl 9 (by decide) hw1 (fun _ h9 => h9) rfl dX7_seen_49 ?_
        refine lv_iload_n hx hb dX7_seen_52 rfl (lv_at hl 1 rfl) ?_
        refine va_iast hx hb hK hP hD hS 2 0 rfl rfl (vin (by omega) (by omega)) dX7_seen_53 (fun H locs hP hD hS => ?_)
        replace hP : va_P (dC, dI) vwCl [(h, .inr (7, [.ref k, .ref d, .ref j, .ref o, .ref f, .ref g, .ref wk, .ref im, .ref kt, .ref dl])), (k, .inr (0, [.ref ks, .ref kw, .ref kc, .int kwd, .int kbg, .int kme, .ref kq, .ref km, .ref kd, .int ksi, .ref ka, .ref kk])), (ka, .inl (cI, 8, .inl (upd kfa ksi.toNatClampNeg i0))), (kk, .inl (cI, 8, .inl kfk))] H := hP
        replace hD : va_D A [(h, .inr (7, [.ref k, .ref d, .ref j, .ref o, .ref f, .ref g, .ref wk, .ref im, .ref kt, .ref dl])), (k, .inr (0, [.ref ks, .ref kw, .ref kc, .int kwd, .int kbg, .int kme, .ref kq, .ref km, .ref kd, .int ksi, .ref ka, .ref kk])), (ka, .inl (cI, 8, .inl (upd kfa ksi.toNatClampNeg i0))), (kk, .inl (cI, 8, .inl kfk))] := hD
        refine lv_aload_n hx hb dX7_seen_54 rfl (lv_at hl 0 rfl) ?_
        refine va_get (D := (dC, dI)) (ci := 7) (v := .ref k) (C := RX7) (T := TX7) (N := 10) hx hb hts hin7 hown hK hP 0 rfl rfl 0 (by decide) hw0 (fun _ h9 => h9) rfl dX7_seen_55 ?_
        refine va_get (D := (dC, dI)) (ci := 0) (v := .ref kk) (C := RX0) (T := TX0) (N := 12) hx hb hts hin0 hown hK hP 1 rfl rfl 11 (by decide) hw3 (fun _ h9 => h9) rfl dX7_seen_58 ?_
        refine lv_aload_n hx hb dX7_seen_61 rfl (lv_at hl 0 rfl) ?_
        refine va_get (D := (dC, dI)) (ci := 7) (v := .ref k) (C := RX7) (T := TX7) (N := 10) hx hb hts hin7 hown hK hP 0 rfl rfl 0 (by decide) hw0 (fun _ h9 => h9) rfl dX7_seen_62 ?_
        refine va_get (D := (dC, dI)) (ci := 0) (v := .int ksi) (C := RX0) (T := TX0) (N := 12) hx hb hts hin0 hown hK hP 1 rfl rfl 9 (by decide) hw1 (fun _ h9 => h9) rfl dX7_seen_65 ?_
        refine lv_iload_n hx hb dX7_seen_68 rfl (lv_at hl 2 rfl) ?_
        refine va_iast hx hb hK hP hD hS 3 0 rfl rfl (vin (by omega) (by omega)) dX7_seen_69 (fun H locs hP hD hS => ?_)
        replace hP : va_P (dC, dI) vwCl [(h, .inr (7, [.ref k, .ref d, .ref j, .ref o, .ref f, .ref g, .ref wk, .ref im, .ref kt, .ref dl])), (k, .inr (0, [.ref ks, .ref kw, .ref kc, .int kwd, .int kbg, .int kme, .ref kq, .ref km, .ref kd, .int ksi, .ref ka, .ref kk])), (ka, .inl (cI, 8, .inl (upd kfa ksi.toNatClampNeg i0))), (kk, .inl (cI, 8, .inl (upd kfk ksi.toNatClampNeg i1)))] H := hP
        replace hD : va_D A [(h, .inr (7, [.ref k, .ref d, .ref j, .ref o, .ref f, .ref g, .ref wk, .ref im, .ref kt, .ref dl])), (k, .inr (0, [.ref ks, .ref kw, .ref kc, .int kwd, .int kbg, .int kme, .ref kq, .ref km, .ref kd, .int ksi, .ref ka, .ref kk])), (ka, .inl (cI, 8, .inl (upd kfa ksi.toNatClampNeg i0))), (kk, .inl (cI, 8, .inl (upd kfk ksi.toNatClampNeg i1)))] := hD
        refine lv_aload_n hx hb dX7_seen_70 rfl (lv_at hl 0 rfl) ?_
        refine va_get (D := (dC, dI)) (ci := 7) (v := .ref k) (C := RX7) (T := TX7) (N := 10) hx hb hts hin7 hown hK hP 0 rfl rfl 0 (by decide) hw0 (fun _ h9 => h9) rfl dX7_seen_71 ?_
        refine lv_dup hx hb dX7_seen_74 rfl ?_
        refine va_get (D := (dC, dI)) (ci := 0) (v := .int ksi) (C := RX0) (T := TX0) (N := 12) hx hb hts hin0 hown hK hP 1 rfl rfl 9 (by decide) hw1 (fun _ h9 => h9) rfl dX7_seen_75 ?_
        refine lv_iconst (v := 1) hx hb dX7_seen_78 (by decide) ?_
        refine lv_iadd hx hb dX7_seen_79 ?_
        refine lv_topi (fun x6 e6 => ?_)
        have f6 : x6.toInt = ksi.toInt + (1 : Int) := by rw [e6]; exact tadd (by have t8 := tb ksi; have z8 : (1 : Int32).toInt = 1 := rfl; omega) (by have t8 := tb ksi; have z8 : (1 : Int32).toInt = 1 := rfl; omega)
        refine va_put (D := (dC, dI)) (ci := 0) (v := .int x6) (ty := .int) (C := RX0) (T := TX0) (N := 12) hx hb hts hin0 tyX0 tyX0_ok nmX0 hown hK hP hD hS 1 rfl rfl 9 (by decide) hw1 (fun _ h9 => h9) rfl (by decide +kernel) rfl rfl (Nat.le_of_ble_eq_true rfl) dX7_seen_80 (fun H locs hP hD hS => ?_)
        replace hP : va_P (dC, dI) vwCl [(h, .inr (7, [.ref k, .ref d, .ref j, .ref o, .ref f, .ref g, .ref wk, .ref im, .ref kt, .ref dl])), (k, .inr (0, [.ref ks, .ref kw, .ref kc, .int kwd, .int kbg, .int kme, .ref kq, .ref km, .ref kd, .int x6, .ref ka, .ref kk])), (ka, .inl (cI, 8, .inl (upd kfa ksi.toNatClampNeg i0))), (kk, .inl (cI, 8, .inl (upd kfk ksi.toNatClampNeg i1)))] H := hP
        replace hD : va_D A [(h, .inr (7, [.ref k, .ref d, .ref j, .ref o, .ref f, .ref g, .ref wk, .ref im, .ref kt, .ref dl])), (k, .inr (0, [.ref ks, .ref kw, .ref kc, .int kwd, .int kbg, .int kme, .ref kq, .ref km, .ref kd, .int x6, .ref ka, .ref kk])), (ka, .inl (cI, 8, .inl (upd kfa ksi.toNatClampNeg i0))), (kk, .inl (cI, 8, .inl (upd kfk ksi.toNatClampNeg i1)))] := hD
        refine lv_aload_n hx hb dX7_seen_83 rfl (lv_at hl 0 rfl) ?_
        refine va_get (D := (dC, dI)) (ci := 7) (v := .ref k) (C := RX7) (T := TX7) (N := 10) hx hb hts hin7 hown hK hP 0 rfl rfl 0 (by decide) hw0 (fun _ h9 => h9) rfl dX7_seen_84 ?_
        refine va_get (D := (dC, dI)) (ci := 0) (v := .int x6) (C := RX0) (T := TX0) (N := 12) hx hb hts hin0 hown hK hP 1 rfl rfl 9 (by decide) hw1 (fun _ h9 => h9) rfl dX7_seen_87 ?_
        have hP9 := mx_subP (wc := [(h, .inr (7, [.ref k, .ref d, .ref j, .ref o, .ref f, .ref g, .ref wk, .ref im, .ref kt, .ref dl])), (k, .inr (0, [.ref ks, .ref kw, .ref kc, .int kwd, .int kbg, .int kme, .ref kq, .ref km, .ref kd, .int x6, .ref ka, .ref kk])), (ka, .inl (cI, 8, .inl (upd kfa ksi.toNatClampNeg i0))), (kk, .inl (cI, 8, .inl (upd kfk ksi.toNatClampNeg i1)))]) hP [0, 1, 2, 3] rfl
        have hD9 := hD.sub (ws' := [(h, .inr (7, [.ref k, .ref d, .ref j, .ref o, .ref f, .ref g, .ref wk, .ref im, .ref kt, .ref dl])), (k, .inr (0, [.ref ks, .ref kw, .ref kc, .int kwd, .int kbg, .int kme, .ref kq, .ref km, .ref kd, .int x6, .ref ka, .ref kk])), (ka, .inl (cI, 8, .inl (upd kfa ksi.toNatClampNeg i0))), (kk, .inl (cI, 8, .inl (upd kfk ksi.toNatClampNeg i1)))]) [0, 1, 2, 3] (by decide) rfl
        exact W.iret (v := x6) hx hb hr (fun t ht hW => ⟨⟨x6, ((fun u9 => ([(upd kfa ksi.toNatClampNeg i0), (upd kfk ksi.toNatClampNeg i1)] : List (Nat → Int32)).getD u9 (fun _ => 0)), (fun u9 => ([x6] : List Int32).getD u9 0), (fun u9 => ([] : List Int64).getD u9 0)), rfl, ⟨(show 0 ≤ (x6).toInt ∧ (x6).toInt ≤ 8 from (by omega)), (rg_upd h_kfa (by omega) (by omega)), (show (0 ≤ i0.toInt ∧ i0.toInt ≤ 60 ∧ 0 ≤ i1.toInt ∧ i1.toInt ≤ 20 ∧ ksi.toInt < 8 ∧ x6.toInt = ksi.toInt + 1 ∧ x6.toInt = ksi.toInt + 1) ∨ ((i0.toInt < 0 ∨ 60 < i0.toInt ∨ i1.toInt < 0 ∨ 20 < i1.toInt) ∧ x6.toInt = -2 ∧ x6.toInt = ksi.toInt) ∨ (0 ≤ i0.toInt ∧ i0.toInt ≤ 60 ∧ 0 ≤ i1.toInt ∧ i1.toInt ≤ 20 ∧ ksi.toInt = 8 ∧ x6.toInt = -4 ∧ x6.toInt = ksi.toInt) from (by omega))⟩, by rw [ht]; exact hP9, hD9⟩, hS.F ht⟩) hS.2.2 dX7_seen_90
      · have t5 : (8 : Int) ≤ ksi.toInt := (tnlt c5)
        refine lv_bipush (v := (-4)) hx hb dX7_seen_35 (by decide) ?_
        have hP9 := mx_subP (wc := [(h, .inr (7, [.ref k, .ref d, .ref j, .ref o, .ref f, .ref g, .ref wk, .ref im, .ref kt, .ref dl])), (k, .inr (0, [.ref ks, .ref kw, .ref kc, .int kwd, .int kbg, .int kme, .ref kq, .ref km, .ref kd, .int ksi, .ref ka, .ref kk])), (ka, .inl (cI, 8, .inl kfa)), (kk, .inl (cI, 8, .inl kfk))]) hP [0, 1, 2, 3] rfl
        have hD9 := hD.sub (ws' := [(h, .inr (7, [.ref k, .ref d, .ref j, .ref o, .ref f, .ref g, .ref wk, .ref im, .ref kt, .ref dl])), (k, .inr (0, [.ref ks, .ref kw, .ref kc, .int kwd, .int kbg, .int kme, .ref kq, .ref km, .ref kd, .int ksi, .ref ka, .ref kk])), (ka, .inl (cI, 8, .inl kfa)), (kk, .inl (cI, 8, .inl kfk))]) [0, 1, 2, 3] (by decide) rfl
        exact W.iret (v := (-4)) hx hb hr (fun t ht hW => ⟨⟨(-4), ((fun u9 => ([kfa, kfk] : List (Nat → Int32)).getD u9 (fun _ => 0)), (fun u9 => ([ksi] : List Int32).getD u9 0), (fun u9 => ([] : List Int64).getD u9 0)), rfl, ⟨(show 0 ≤ (ksi).toInt ∧ (ksi).toInt ≤ 8 from (by omega)), h_kfa, (show (0 ≤ i0.toInt ∧ i0.toInt ≤ 60 ∧ 0 ≤ i1.toInt ∧ i1.toInt ≤ 20 ∧ ksi.toInt < 8 ∧ ((-4) : Int32).toInt = ksi.toInt + 1 ∧ ksi.toInt = ksi.toInt + 1) ∨ ((i0.toInt < 0 ∨ 60 < i0.toInt ∨ i1.toInt < 0 ∨ 20 < i1.toInt) ∧ ((-4) : Int32).toInt = -2 ∧ ksi.toInt = ksi.toInt) ∨ (0 ≤ i0.toInt ∧ i0.toInt ≤ 60 ∧ 0 ≤ i1.toInt ∧ i1.toInt ≤ 20 ∧ ksi.toInt = 8 ∧ ((-4) : Int32).toInt = -4 ∧ ksi.toInt = ksi.toInt) from (by have z8 : (-4 : Int32).toInt = -4 := rfl; omega))⟩, by rw [ht]; exact hP9, hD9⟩, hS.F ht⟩) hS.2.2 dX7_seen_37
    · have hf3 : i1.toInt < (0 : Int) ∨ (20 : Int) < i1.toInt := hf3
      refine lv_if_ne (tgt := 23) hx hb dX7_seen_17 (by decide) (fun c7 => absurd c7 (by decide)) (fun c7 => ?_)
      refine lv_bipush (v := (-2)) hx hb dX7_seen_20 (by decide) ?_
      have hP9 := mx_subP (wc := [(h, .inr (7, [.ref k, .ref d, .ref j, .ref o, .ref f, .ref g, .ref wk, .ref im, .ref kt, .ref dl])), (k, .inr (0, [.ref ks, .ref kw, .ref kc, .int kwd, .int kbg, .int kme, .ref kq, .ref km, .ref kd, .int ksi, .ref ka, .ref kk])), (ka, .inl (cI, 8, .inl kfa)), (kk, .inl (cI, 8, .inl kfk))]) hP [0, 1, 2, 3] rfl
      have hD9 := hD.sub (ws' := [(h, .inr (7, [.ref k, .ref d, .ref j, .ref o, .ref f, .ref g, .ref wk, .ref im, .ref kt, .ref dl])), (k, .inr (0, [.ref ks, .ref kw, .ref kc, .int kwd, .int kbg, .int kme, .ref kq, .ref km, .ref kd, .int ksi, .ref ka, .ref kk])), (ka, .inl (cI, 8, .inl kfa)), (kk, .inl (cI, 8, .inl kfk))]) [0, 1, 2, 3] (by decide) rfl
      exact W.iret (v := (-2)) hx hb hr (fun t ht hW => ⟨⟨(-2), ((fun u9 => ([kfa, kfk] : List (Nat → Int32)).getD u9 (fun _ => 0)), (fun u9 => ([ksi] : List Int32).getD u9 0), (fun u9 => ([] : List Int64).getD u9 0)), rfl, ⟨(show 0 ≤ (ksi).toInt ∧ (ksi).toInt ≤ 8 from (by omega)), h_kfa, (show (0 ≤ i0.toInt ∧ i0.toInt ≤ 60 ∧ 0 ≤ i1.toInt ∧ i1.toInt ≤ 20 ∧ ksi.toInt < 8 ∧ ((-2) : Int32).toInt = ksi.toInt + 1 ∧ ksi.toInt = ksi.toInt + 1) ∨ ((i0.toInt < 0 ∨ 60 < i0.toInt ∨ i1.toInt < 0 ∨ 20 < i1.toInt) ∧ ((-2) : Int32).toInt = -2 ∧ ksi.toInt = ksi.toInt) ∨ (0 ≤ i0.toInt ∧ i0.toInt ≤ 60 ∧ 0 ≤ i1.toInt ∧ i1.toInt ≤ 20 ∧ ksi.toInt = 8 ∧ ((-2) : Int32).toInt = -4 ∧ ksi.toInt = ksi.toInt) from (by have z8 : (-2 : Int32).toInt = -2 := rfl; omega))⟩, by rw [ht]; exact hP9, hD9⟩, hS.F ht⟩) hS.2.2 dX7_seen_22
  · have hf1 : i0.toInt < (0 : Int) ∨ (60 : Int) < i0.toInt := hf1
    refine lv_if_eq (tgt := 20) hx hb dX7_seen_7 (by decide) (fun c8 => ?_) (fun c8 => absurd c8 (by decide))
    refine lv_bipush (v := (-2)) hx hb dX7_seen_20 (by decide) ?_
    have hP9 := mx_subP (wc := [(h, .inr (7, [.ref k, .ref d, .ref j, .ref o, .ref f, .ref g, .ref wk, .ref im, .ref kt, .ref dl])), (k, .inr (0, [.ref ks, .ref kw, .ref kc, .int kwd, .int kbg, .int kme, .ref kq, .ref km, .ref kd, .int ksi, .ref ka, .ref kk])), (ka, .inl (cI, 8, .inl kfa)), (kk, .inl (cI, 8, .inl kfk))]) hP [0, 1, 2, 3] rfl
    have hD9 := hD.sub (ws' := [(h, .inr (7, [.ref k, .ref d, .ref j, .ref o, .ref f, .ref g, .ref wk, .ref im, .ref kt, .ref dl])), (k, .inr (0, [.ref ks, .ref kw, .ref kc, .int kwd, .int kbg, .int kme, .ref kq, .ref km, .ref kd, .int ksi, .ref ka, .ref kk])), (ka, .inl (cI, 8, .inl kfa)), (kk, .inl (cI, 8, .inl kfk))]) [0, 1, 2, 3] (by decide) rfl
    exact W.iret (v := (-2)) hx hb hr (fun t ht hW => ⟨⟨(-2), ((fun u9 => ([kfa, kfk] : List (Nat → Int32)).getD u9 (fun _ => 0)), (fun u9 => ([ksi] : List Int32).getD u9 0), (fun u9 => ([] : List Int64).getD u9 0)), rfl, ⟨(show 0 ≤ (ksi).toInt ∧ (ksi).toInt ≤ 8 from (by omega)), h_kfa, (show (0 ≤ i0.toInt ∧ i0.toInt ≤ 60 ∧ 0 ≤ i1.toInt ∧ i1.toInt ≤ 20 ∧ ksi.toInt < 8 ∧ ((-2) : Int32).toInt = ksi.toInt + 1 ∧ ksi.toInt = ksi.toInt + 1) ∨ ((i0.toInt < 0 ∨ 60 < i0.toInt ∨ i1.toInt < 0 ∨ 20 < i1.toInt) ∧ ((-2) : Int32).toInt = -2 ∧ ksi.toInt = ksi.toInt) ∨ (0 ≤ i0.toInt ∧ i0.toInt ≤ 60 ∧ 0 ≤ i1.toInt ∧ i1.toInt ≤ 20 ∧ ksi.toInt = 8 ∧ ((-2) : Int32).toInt = -4 ∧ ksi.toInt = ksi.toInt) from (by have z8 : (-2 : Int32).toInt = -2 := rfl; omega))⟩, by rw [ht]; exact hP9, hD9⟩, hS.F ht⟩) hS.2.2 dX7_seen_22
set_option maxHeartbeats 4000000 in
set_option maxRecDepth 100000 in
theorem c_X7_day (l : Launch) (dC : Nat → ClassId) (dI : Nat → Nat → Nat) (cI cZ cK : ClassId) (tS : Nat) (aK aV : Nat → Nat) (h : Nat) (i0 : Int32) (i1 : Int32) (i2 : Int32) (k : Nat) (d : Nat) (j : Nat) (o : Nat) (f : Nat) (g : Nat) (wk : Nat) (im : Nat) (kt : Nat) (dl : Nat) (ks : Nat) (kw : Nat) (kc : Nat) (kwd : Int32) (kbg : Int32) (kme : Int32) (kq : Nat) (km : Nat) (kd : Nat) (ksi : Int32) (ka : Nat) (kk : Nat) (kfw : Nat → Int32) (kfc : Nat → Int32) (sz : Nat) (h_kfw : rg kfw 14 0 4) : Ci l yX7_day (wq yX7_day cX7_day 5 (some .int)) ({ frames := 2, cells := 0, slots := 0, locals := 42 }) dC dI cI cZ cK tS aK aV [.ref h, .int i0, .int i1, .int i2] sz [(h, .inr (7, [.ref k, .ref d, .ref j, .ref o, .ref f, .ref g, .ref wk, .ref im, .ref kt, .ref dl])), (k, .inr (0, [.ref ks, .ref kw, .ref kc, .int kwd, .int kbg, .int kme, .ref kq, .ref km, .ref kd, .int ksi, .ref ka, .ref kk])), (kw, .inl (cI, 14, .inl kfw)), (kc, .inl (cZ, 14, .inl kfc))] (fun (r : Int32) (u : (Nat → Nat → Int32) × (Nat → Int32) × (Nat → Int64)) => rg (u.1 1) 14 0 4 ∧ (dayP i0 i1 r kfw (u.1 1))) (fun u => [(h, .inr (7, [.ref k, .ref d, .ref j, .ref o, .ref f, .ref g, .ref wk, .ref im, .ref kt, .ref dl])), (k, .inr (0, [.ref ks, .ref kw, .ref kc, .int kwd, .int kbg, .int kme, .ref kq, .ref km, .ref kd, .int ksi, .ref ka, .ref kk])), (kw, .inl (cI, 14, .inl (u.1 1))), (kc, .inl (cZ, 14, .inl (u.1 0)))]) := by
  refine Met.ofW (cc := cX7_day) (maxL := 5) (ret := (some .int)) (by decide) rfl ?_
  intro p e s m args below meth c s₁ B hml hv
  obtain ⟨rfl, hsz, hP, hKx, hD0⟩ := hv
  have hx := B.exec
  have hb := B.bytes
  have hr := B.returns
  have hts := atoms_spec (ws := wq yX7_day cX7_day 5 (some .int)) B.pre
  have hown : s.vm.findClass RX7 = some m.cls := findClass_of_methodNamed B.named
  have hlocks := B.notSynchronized
  subst hsz
  have hD := hD0.self (sz := s.heap.size)
  generalize hAe : va_A [(h, .inr (7, [.ref k, .ref d, .ref j, .ref o, .ref f, .ref g, .ref wk, .ref im, .ref kt, .ref dl])), (k, .inr (0, [.ref ks, .ref kw, .ref kc, .int kwd, .int kbg, .int kme, .ref kq, .ref km, .ref kd, .int ksi, .ref ka, .ref kk])), (kw, .inl (cI, 14, .inl kfw)), (kc, .inl (cZ, 14, .inl kfc))] s.heap.size = A at hD hKx ⊢
  have hA : ∀ q : Nat, s.heap.size ≤ q → A q := fun q h => by rw [← hAe]; exact Or.inr h
  have hS : va_S A s.heap s.heap [] := va_S.rf
  have hP : va_P (dC, dI) vwCl [(h, .inr (7, [.ref k, .ref d, .ref j, .ref o, .ref f, .ref g, .ref wk, .ref im, .ref kt, .ref dl])), (k, .inr (0, [.ref ks, .ref kw, .ref kc, .int kwd, .int kbg, .int kme, .ref kq, .ref km, .ref kd, .int ksi, .ref ka, .ref kk])), (kw, .inl (cI, 14, .inl kfw)), (kc, .inl (cZ, 14, .inl kfc))] s.heap := hP
  have hl := lv_entry ([.ref h, .int i0, .int i1, .int i2]) (n := 5) (Nat.le_of_ble_eq_true rfl)
  rw [lg_entry_eq]
  generalize (lg_sl ([.ref h, .int i0, .int i1, .int i2]) ++ List.replicate (5 - (lg_sl ([.ref h, .int i0, .int i1, .int i2])).length) Slot.unset).toArray = ls at hl ⊢
  have hl : lv_has ls 5 [(0, .ref h), (1, .int i0), (2, .int i1), (3, .int i2)] := hl
  have hK := hKx.1
  have hin7 := fun w9 h9 => List.mem_cons_of_mem (Cond.code yX7_day cX7_day 5 (some .int)) (inlX7 w9 h9)
  have hin0 := fun w9 h9 => List.mem_cons_of_mem (Cond.code yX7_day cX7_day 5 (some .int)) (inlX0 w9 h9)
  have hw0 := hts (.fieldLink RX7 12 "OneCan" "camp" "LOneCan$Camp;") (List.mem_cons_of_mem _ wm_15)
  have hw1 := hts (.fieldLink RX7 90 "OneCan$Camp" "winds" "[I") (List.mem_cons_of_mem _ wm_169)
  have hw2 := hts (.fieldLink RX7 93 "OneCan$Camp" "colds" "[Z") (List.mem_cons_of_mem _ wm_170)
  refine lv_iload_n hx hb dX7_day_0 rfl (lv_at hl 1 rfl) ?_
  refine mx_i (wr := [(h, .inr (7, [.ref k, .ref d, .ref j, .ref o, .ref f, .ref g, .ref wk, .ref im, .ref kt, .ref dl])), (k, .inr (0, [.ref ks, .ref kw, .ref kc, .int kwd, .int kbg, .int kme, .ref kq, .ref km, .ref kd, .int ksi, .ref ka, .ref kk])), (kw, .inl (cI, 14, .inl kfw)), (kc, .inl (cZ, 14, .inl kfc))]) (va_runS (As := [.int i0]) (rest := []) ⟨hx, hb, hml, hown, hts⟩ (c_X7_isDay l dC dI cI cZ cK tS aK aV i0 s.heap.size) (va_cwS 1 hts (gw_s (fun _ h9 => List.mem_cons_of_mem _ h9) wm_171 wm_172 wm_2 wm_173) rfl rfl rfl (by decide +kernel) ⟨Nat.le_of_ble_eq_true rfl, Nat.le_of_ble_eq_true rfl⟩) (mx_preS hKx hP hD hS hA [] (by decide) rfl) rfl rfl hl.1 rfl (lv_room (Nat.le_of_ble_eq_true rfl)) dX7_day_1 ⟨Nat.le_of_ble_eq_true rfl, Nat.le_of_ble_eq_true rfl⟩) hP hD hS hA [] [0, 1, 2, 3] rfl rfl (by decide) (by decide) (fun r1 u1 H locs hq1 hP hD hS => ?_)
  replace hP : va_P (dC, dI) vwCl [(h, .inr (7, [.ref k, .ref d, .ref j, .ref o, .ref f, .ref g, .ref wk, .ref im, .ref kt, .ref dl])), (k, .inr (0, [.ref ks, .ref kw, .ref kc, .int kwd, .int kbg, .int kme, .ref kq, .ref km, .ref kd, .int ksi, .ref ka, .ref kk])), (kw, .inl (cI, 14, .inl kfw)), (kc, .inl (cZ, 14, .inl kfc))] H := hP
  replace hD : va_D A [(h, .inr (7, [.ref k, .ref d, .ref j, .ref o, .ref f, .ref g, .ref wk, .ref im, .ref kt, .ref dl])), (k, .inr (0, [.ref ks, .ref kw, .ref kc, .int kwd, .int kbg, .int kme, .ref kq, .ref km, .ref kd, .int ksi, .ref ka, .ref kk])), (kw, .inl (cI, 14, .inl kfw)), (kc, .inl (cZ, 14, .inl kfc))] := hD
  rcases hq1 with ⟨rfl, hf1⟩ | ⟨rfl, hf1⟩
  · have hf1 : 0 ≤ i0.toInt ∧ i0.toInt ≤ 13 := hf1
    refine lv_if_ne (tgt := 9) hx hb dX7_day_4 (by decide) (fun c2 => ?_) (fun c2 => absurd c2 (by decide))
    refine lv_iload_n hx hb dX7_day_9 rfl (lv_at hl 2 rfl) ?_
    refine lv_iconst (v := 0) hx hb dX7_day_10 (by decide) ?_
    refine lv_iconst (v := 4) hx hb dX7_day_11 (by decide) ?_
    refine mx_i (wr := [(h, .inr (7, [.ref k, .ref d, .ref j, .ref o, .ref f, .ref g, .ref wk, .ref im, .ref kt, .ref dl])), (k, .inr (0, [.ref ks, .ref kw, .ref kc, .int kwd, .int kbg, .int kme, .ref kq, .ref km, .ref kd, .int ksi, .ref ka, .ref kk])), (kw, .inl (cI, 14, .inl kfw)), (kc, .inl (cZ, 14, .inl kfc))]) (va_runS (As := [.int i1, .int 0, .int 4]) (rest := []) ⟨hx, hb, hml, hown, hts⟩ (c_X7_isIn l dC dI cI cZ cK tS aK aV i1 0 4 H.size) (va_cwS 3 hts (gw_s (fun _ h9 => List.mem_cons_of_mem _ h9) wm_141 wm_142 wm_2 wm_143) rfl rfl rfl (by decide +kernel) ⟨Nat.le_of_ble_eq_true rfl, Nat.le_of_ble_eq_true rfl⟩) (mx_preS hKx hP hD hS hA [] (by decide) rfl) rfl rfl hl.1 rfl (lv_room (Nat.le_of_ble_eq_true rfl)) dX7_day_12 ⟨Nat.le_of_ble_eq_true rfl, Nat.le_of_ble_eq_true rfl⟩) hP hD hS hA [] [0, 1, 2, 3] rfl rfl (by decide) (by decide) (fun r3 u3 H locs hq3 hP hD hS => ?_)
    replace hP : va_P (dC, dI) vwCl [(h, .inr (7, [.ref k, .ref d, .ref j, .ref o, .ref f, .ref g, .ref wk, .ref im, .ref kt, .ref dl])), (k, .inr (0, [.ref ks, .ref kw, .ref kc, .int kwd, .int kbg, .int kme, .ref kq, .ref km, .ref kd, .int ksi, .ref ka, .ref kk])), (kw, .inl (cI, 14, .inl kfw)), (kc, .inl (cZ, 14, .inl kfc))] H := hP
    replace hD : va_D A [(h, .inr (7, [.ref k, .ref d, .ref j, .ref o, .ref f, .ref g, .ref wk, .ref im, .ref kt, .ref dl])), (k, .inr (0, [.ref ks, .ref kw, .ref kc, .int kwd, .int kbg, .int kme, .ref kq, .ref km, .ref kd, .int ksi, .ref ka, .ref kk])), (kw, .inl (cI, 14, .inl kfw)), (kc, .inl (cZ, 14, .inl kfc))] := hD
    rcases hq3 with ⟨rfl, hf3⟩ | ⟨rfl, hf3⟩
    · have hf3 : (0 : Int) ≤ i1.toInt ∧ i1.toInt ≤ (4 : Int) := hf3
      refine lv_if_ne (tgt := 21) hx hb dX7_day_15 (by decide) (fun c4 => ?_) (fun c4 => absurd c4 (by decide))
      refine lv_aload_n hx hb dX7_day_21 rfl (lv_at hl 0 rfl) ?_
      refine va_get (D := (dC, dI)) (ci := 7) (v := .ref k) (C := RX7) (T := TX7) (N := 10) hx hb hts hin7 hown hK hP 0 rfl rfl 0 (by decide) hw0 (fun _ h9 => h9) rfl dX7_day_22 ?_
      refine va_get (D := (dC, dI)) (ci := 0) (v := .ref kw) (C := RX0) (T := TX0) (N := 12) hx hb hts hin0 hown hK hP 1 rfl rfl 1 (by decide) hw1 (fun _ h9 => h9) rfl dX7_day_25 ?_
      refine lv_iload_n hx hb dX7_day_28 rfl (lv_at hl 1 rfl) ?_
      refine va_iald hx hb hK hP 2 0 rfl rfl (vin (by omega) (by omega)) dX7_day_29 ?_
      refine lv_topi (fun x5 e5 => ?_)
      have g5 : 0 ≤ x5.toInt ∧ x5.toInt ≤ 4 := by rw [e5]; exact rgI h_kfw (by omega) (by omega)
      refine lv_istore (lv' := [(4, .int x5), (0, .ref h), (1, .int i0), (2, .int i1), (3, .int i2)]) hx hb dX7_day_30 hl (by decide) rfl (fun ls hl => ?_)
      refine lv_aload_n hx hb dX7_day_32 rfl (lv_at hl 1 rfl) ?_
      refine va_get (D := (dC, dI)) (ci := 7) (v := .ref k) (C := RX7) (T := TX7) (N := 10) hx hb hts hin7 hown hK hP 0 rfl rfl 0 (by decide) hw0 (fun _ h9 => h9) rfl dX7_day_33 ?_
      refine va_get (D := (dC, dI)) (ci := 0) (v := .ref kw) (C := RX0) (T := TX0) (N := 12) hx hb hts hin0 hown hK hP 1 rfl rfl 1 (by decide) hw1 (fun _ h9 => h9) rfl dX7_day_36 ?_
      refine lv_iload_n hx hb dX7_day_39 rfl (lv_at hl 2 rfl) ?_
      refine lv_iload_n hx hb dX7_day_40 rfl (lv_at hl 3 rfl) ?_
      refine va_iast hx hb hK hP hD hS 2 0 rfl rfl (vin (by omega) (by omega)) dX7_day_41 (fun H locs hP hD hS => ?_)
      replace hP : va_P (dC, dI) vwCl [(h, .inr (7, [.ref k, .ref d, .ref j, .ref o, .ref f, .ref g, .ref wk, .ref im, .ref kt, .ref dl])), (k, .inr (0, [.ref ks, .ref kw, .ref kc, .int kwd, .int kbg, .int kme, .ref kq, .ref km, .ref kd, .int ksi, .ref ka, .ref kk])), (kw, .inl (cI, 14, .inl (upd kfw i0.toNatClampNeg i1))), (kc, .inl (cZ, 14, .inl kfc))] H := hP
      replace hD : va_D A [(h, .inr (7, [.ref k, .ref d, .ref j, .ref o, .ref f, .ref g, .ref wk, .ref im, .ref kt, .ref dl])), (k, .inr (0, [.ref ks, .ref kw, .ref kc, .int kwd, .int kbg, .int kme, .ref kq, .ref km, .ref kd, .int ksi, .ref ka, .ref kk])), (kw, .inl (cI, 14, .inl (upd kfw i0.toNatClampNeg i1))), (kc, .inl (cZ, 14, .inl kfc))] := hD
      refine lv_aload_n hx hb dX7_day_42 rfl (lv_at hl 1 rfl) ?_
      refine va_get (D := (dC, dI)) (ci := 7) (v := .ref k) (C := RX7) (T := TX7) (N := 10) hx hb hts hin7 hown hK hP 0 rfl rfl 0 (by decide) hw0 (fun _ h9 => h9) rfl dX7_day_43 ?_
      refine va_get (D := (dC, dI)) (ci := 0) (v := .ref kc) (C := RX0) (T := TX0) (N := 12) hx hb hts hin0 hown hK hP 1 rfl rfl 2 (by decide) hw2 (fun _ h9 => h9) rfl dX7_day_46 ?_
      refine lv_iload_n hx hb dX7_day_49 rfl (lv_at hl 2 rfl) ?_
      refine lv_iload_n hx hb dX7_day_50 rfl (lv_at hl 4 rfl) ?_
      refine va_zast hx hb hK hP hD hS 3 1 rfl rfl (vin (by omega) (by omega)) dX7_day_51 (fun H locs hP hD hS => ?_)
      replace hP : va_P (dC, dI) vwCl [(h, .inr (7, [.ref k, .ref d, .ref j, .ref o, .ref f, .ref g, .ref wk, .ref im, .ref kt, .ref dl])), (k, .inr (0, [.ref ks, .ref kw, .ref kc, .int kwd, .int kbg, .int kme, .ref kq, .ref km, .ref kd, .int ksi, .ref ka, .ref kk])), (kw, .inl (cI, 14, .inl (upd kfw i0.toNatClampNeg i1))), (kc, .inl (cZ, 14, .inl (upd kfc i0.toNatClampNeg (vp_nar .boolean i2))))] H := hP
      replace hD : va_D A [(h, .inr (7, [.ref k, .ref d, .ref j, .ref o, .ref f, .ref g, .ref wk, .ref im, .ref kt, .ref dl])), (k, .inr (0, [.ref ks, .ref kw, .ref kc, .int kwd, .int kbg, .int kme, .ref kq, .ref km, .ref kd, .int ksi, .ref ka, .ref kk])), (kw, .inl (cI, 14, .inl (upd kfw i0.toNatClampNeg i1))), (kc, .inl (cZ, 14, .inl (upd kfc i0.toNatClampNeg (vp_nar .boolean i2))))] := hD
      refine lv_iload hx hb dX7_day_52 (lv_at hl 0 rfl) ?_
      have hP9 := mx_subP (wc := [(h, .inr (7, [.ref k, .ref d, .ref j, .ref o, .ref f, .ref g, .ref wk, .ref im, .ref kt, .ref dl])), (k, .inr (0, [.ref ks, .ref kw, .ref kc, .int kwd, .int kbg, .int kme, .ref kq, .ref km, .ref kd, .int ksi, .ref ka, .ref kk])), (kw, .inl (cI, 14, .inl (upd kfw i0.toNatClampNeg i1))), (kc, .inl (cZ, 14, .inl (upd kfc i0.toNatClampNeg (vp_nar .boolean i2))))]) hP [0, 1, 2, 3] rfl
      have hD9 := hD.sub (ws' := [(h, .inr (7, [.ref k, .ref d, .ref j, .ref o, .ref f, .ref g, .ref wk, .ref im, .ref kt, .ref dl])), (k, .inr (0, [.ref ks, .ref kw, .ref kc, .int kwd, .int kbg, .int kme, .ref kq, .ref km, .ref kd, .int ksi, .ref ka, .ref kk])), (kw, .inl (cI, 14, .inl (upd kfw i0.toNatClampNeg i1))), (kc, .inl (cZ, 14, .inl (upd kfc i0.toNatClampNeg (vp_nar .boolean i2))))]) [0, 1, 2, 3] (by decide) rfl
      exact W.iret (v := x5) hx hb hr (fun t ht hW => ⟨⟨x5, ((fun u9 => ([(upd kfc i0.toNatClampNeg (vp_nar .boolean i2)), (upd kfw i0.toNatClampNeg i1)] : List (Nat → Int32)).getD u9 (fun _ => 0)), (fun u9 => ([] : List Int32).getD u9 0), (fun u9 => ([] : List Int64).getD u9 0)), rfl, ⟨(rg_upd h_kfw (by omega) (by omega)), (show dayP i0 i1 x5 kfw (upd kfw i0.toNatClampNeg i1) from (Or.inl ⟨by omega, by omega, by omega, by omega, e5, rfl⟩))⟩, by rw [ht]; exact hP9, hD9⟩, hS.F ht⟩) hS.2.2 dX7_day_54
    · have hf3 : i1.toInt < (0 : Int) ∨ (4 : Int) < i1.toInt := hf3
      refine lv_if_ne (tgt := 21) hx hb dX7_day_15 (by decide) (fun c6 => absurd c6 (by decide)) (fun c6 => ?_)
      refine lv_bipush (v := (-2)) hx hb dX7_day_18 (by decide) ?_
      have hP9 := mx_subP (wc := [(h, .inr (7, [.ref k, .ref d, .ref j, .ref o, .ref f, .ref g, .ref wk, .ref im, .ref kt, .ref dl])), (k, .inr (0, [.ref ks, .ref kw, .ref kc, .int kwd, .int kbg, .int kme, .ref kq, .ref km, .ref kd, .int ksi, .ref ka, .ref kk])), (kw, .inl (cI, 14, .inl kfw)), (kc, .inl (cZ, 14, .inl kfc))]) hP [0, 1, 2, 3] rfl
      have hD9 := hD.sub (ws' := [(h, .inr (7, [.ref k, .ref d, .ref j, .ref o, .ref f, .ref g, .ref wk, .ref im, .ref kt, .ref dl])), (k, .inr (0, [.ref ks, .ref kw, .ref kc, .int kwd, .int kbg, .int kme, .ref kq, .ref km, .ref kd, .int ksi, .ref ka, .ref kk])), (kw, .inl (cI, 14, .inl kfw)), (kc, .inl (cZ, 14, .inl kfc))]) [0, 1, 2, 3] (by decide) rfl
      exact W.iret (v := (-2)) hx hb hr (fun t ht hW => ⟨⟨(-2), ((fun u9 => ([kfc, kfw] : List (Nat → Int32)).getD u9 (fun _ => 0)), (fun u9 => ([] : List Int32).getD u9 0), (fun u9 => ([] : List Int64).getD u9 0)), rfl, ⟨h_kfw, (show dayP i0 i1 ((-2) : Int32) kfw kfw from (Or.inr (Or.inr ⟨by omega, by omega, by omega, rfl, rfl⟩)))⟩, by rw [ht]; exact hP9, hD9⟩, hS.F ht⟩) hS.2.2 dX7_day_20
  · have hf1 : i0.toInt < 0 ∨ 13 < i0.toInt := hf1
    refine lv_if_ne (tgt := 9) hx hb dX7_day_4 (by decide) (fun c7 => absurd c7 (by decide)) (fun c7 => ?_)
    refine lv_iconst (v := (-1)) hx hb dX7_day_7 (by decide) ?_
    have hP9 := mx_subP (wc := [(h, .inr (7, [.ref k, .ref d, .ref j, .ref o, .ref f, .ref g, .ref wk, .ref im, .ref kt, .ref dl])), (k, .inr (0, [.ref ks, .ref kw, .ref kc, .int kwd, .int kbg, .int kme, .ref kq, .ref km, .ref kd, .int ksi, .ref ka, .ref kk])), (kw, .inl (cI, 14, .inl kfw)), (kc, .inl (cZ, 14, .inl kfc))]) hP [0, 1, 2, 3] rfl
    have hD9 := hD.sub (ws' := [(h, .inr (7, [.ref k, .ref d, .ref j, .ref o, .ref f, .ref g, .ref wk, .ref im, .ref kt, .ref dl])), (k, .inr (0, [.ref ks, .ref kw, .ref kc, .int kwd, .int kbg, .int kme, .ref kq, .ref km, .ref kd, .int ksi, .ref ka, .ref kk])), (kw, .inl (cI, 14, .inl kfw)), (kc, .inl (cZ, 14, .inl kfc))]) [0, 1, 2, 3] (by decide) rfl
    exact W.iret (v := (-1)) hx hb hr (fun t ht hW => ⟨⟨(-1), ((fun u9 => ([kfc, kfw] : List (Nat → Int32)).getD u9 (fun _ => 0)), (fun u9 => ([] : List Int32).getD u9 0), (fun u9 => ([] : List Int64).getD u9 0)), rfl, ⟨h_kfw, (show dayP i0 i1 ((-1) : Int32) kfw kfw from (Or.inr (Or.inl ⟨by omega, rfl, rfl⟩)))⟩, by rw [ht]; exact hP9, hD9⟩, hS.F ht⟩) hS.2.2 dX7_day_8
set_option maxHeartbeats 4000000 in
set_option maxRecDepth 100000 in
theorem c_X3_read (l : Launch) (dC : Nat → ClassId) (dI : Nat → Nat → Nat) (cI cZ cK : ClassId) (tS : Nat) (aK aV : Nat → Nat) (o : Nat) (i0 : Int32) (k : Nat) (op : Nat) (oto : Int32) (oq : Nat) (ov : Nat) (os : Nat) (ofp : Nat → Int32) (sz : Nat) (h_ofp : rg ofp 6 0 9) (h_i0 : 0 ≤ i0.toInt ∧ i0.toInt ≤ 999999) : Cv l yX3_read (wq yX3_read cX3_read 4 none) ({ frames := 0, cells := 0, slots := 0, locals := 0 }) dC dI cI cZ cK tS aK aV [.ref o, .int i0] sz [(o, .inr (3, [.ref k, .ref op, .int oto, .ref oq, .ref ov, .ref os])), (op, .inl (cI, 6, .inl ofp))] (fun (u : (Nat → Nat → Int32) × (Nat → Int32) × (Nat → Int64)) => rg (u.1 0) 6 0 9 ∧ (dgP i0.toInt (u.1 0))) (fun u => [(o, .inr (3, [.ref k, .ref op, .int (u.2.1 0), .ref oq, .ref ov, .ref os])), (op, .inl (cI, 6, .inl (u.1 0)))]) := by
  refine Met.ofW (cc := cX3_read) (maxL := 4) (ret := none) (by decide) rfl ?_
  intro p e s m args below meth c s₁ B hml hv
  obtain ⟨rfl, hsz, hP, hKx, hD0⟩ := hv
  have hx := B.exec
  have hb := B.bytes
  have hr := B.returns
  have hts := atoms_spec (ws := wq yX3_read cX3_read 4 none) B.pre
  have hown : s.vm.findClass RX3 = some m.cls := findClass_of_methodNamed B.named
  have hlocks := B.notSynchronized
  subst hsz
  have hD := hD0.self (sz := s.heap.size)
  generalize hAe : va_A [(o, .inr (3, [.ref k, .ref op, .int oto, .ref oq, .ref ov, .ref os])), (op, .inl (cI, 6, .inl ofp))] s.heap.size = A at hD hKx ⊢
  have hA : ∀ q : Nat, s.heap.size ≤ q → A q := fun q h => by rw [← hAe]; exact Or.inr h
  have hS : va_S A s.heap s.heap [] := va_S.rf
  have hP : va_P (dC, dI) vwCl [(o, .inr (3, [.ref k, .ref op, .int oto, .ref oq, .ref ov, .ref os])), (op, .inl (cI, 6, .inl ofp))] s.heap := hP
  have hl := lv_entry ([.ref o, .int i0]) (n := 4) (Nat.le_of_ble_eq_true rfl)
  rw [lg_entry_eq]
  generalize (lg_sl ([.ref o, .int i0]) ++ List.replicate (4 - (lg_sl ([.ref o, .int i0])).length) Slot.unset).toArray = ls at hl ⊢
  have hl : lv_has ls 4 [(0, .ref o), (1, .int i0)] := hl
  have hK := hKx.1
  have hin3 := fun w9 h9 => List.mem_cons_of_mem (Cond.code yX3_read cX3_read 4 none) (inlX3 w9 h9)
  have hw0 := hts (.fieldLink RX3 28 "OneCan$Order" "total" "I") (List.mem_cons_of_mem _ wm_576)
  have hw1 := hts (.fieldLink RX3 9 "OneCan$Order" "portions" "[I") (List.mem_cons_of_mem _ wm_78)
  refine lv_iload_n hx hb dX3_read_0 rfl (lv_at hl 1 rfl) ?_
  refine lv_istore_n (lv' := [(2, .int i0), (0, .ref o), (1, .int i0)]) hx hb dX3_read_1 rfl hl (by decide) rfl (fun ls hl => ?_)
  refine lv_aload_n hx hb dX3_read_2 rfl (lv_at hl 1 rfl) ?_
  refine lv_iconst (v := 0) hx hb dX3_read_3 (by decide) ?_
  refine va_put (D := (dC, dI)) (ci := 3) (v := .int 0) (ty := .int) (C := RX3) (T := TX3) (N := 6) hx hb hts hin3 tyX3 tyX3_ok nmX3 hown hK hP hD hS 0 rfl rfl 2 (by decide) hw0 (fun _ h9 => h9) rfl (by decide +kernel) rfl rfl (Nat.le_of_ble_eq_true rfl) dX3_read_4 (fun H locs hP hD hS => ?_)
  replace hP : va_P (dC, dI) vwCl [(o, .inr (3, [.ref k, .ref op, .int 0, .ref oq, .ref ov, .ref os])), (op, .inl (cI, 6, .inl ofp))] H := hP
  replace hD : va_D A [(o, .inr (3, [.ref k, .ref op, .int 0, .ref oq, .ref ov, .ref os])), (op, .inl (cI, 6, .inl ofp))] := hD
  refine lv_iconst (v := 5) hx hb dX3_read_7 (by decide) ?_
  refine lv_istore_n (lv' := [(3, .int 5), (2, .int i0), (0, .ref o), (1, .int i0)]) hx hb dX3_read_8 rfl hl (by decide) rfl (fun ls hl => ?_)
  refine lv_iload_n hx hb dX3_read_9 rfl (lv_at hl 0 rfl) ?_
  refine lv_if_lt (tgt := 49) hx hb dX3_read_10 (by decide) (fun c1 => absurd c1 (by decide)) (fun c1 => ?_)
  refine lv_aload_n hx hb dX3_read_13 rfl (lv_at hl 2 rfl) ?_
  refine va_get (D := (dC, dI)) (ci := 3) (v := .ref op) (C := RX3) (T := TX3) (N := 6) hx hb hts hin3 hown hK hP 0 rfl rfl 1 (by decide) hw1 (fun _ h9 => h9) rfl dX3_read_14 ?_
  refine lv_iload_n hx hb dX3_read_17 rfl (lv_at hl 0 rfl) ?_
  refine lv_iload_n hx hb dX3_read_18 rfl (lv_at hl 1 rfl) ?_
  refine lv_bipush (v := 10) hx hb dX3_read_19 (by decide) ?_
  refine lv_irem hx hb dX3_read_21 (by decide) ?_
  refine lv_topi (fun x2 e2 => ?_)
  have f2 : x2.toInt = i0.toInt % 10 := by rw [e2]; exact tremc (by omega) (by decide)
  refine va_iast hx hb hK hP hD hS 1 0 rfl rfl (vin (by decide) (by decide)) dX3_read_22 (fun H locs hP hD hS => ?_)
  replace hP : va_P (dC, dI) vwCl [(o, .inr (3, [.ref k, .ref op, .int 0, .ref oq, .ref ov, .ref os])), (op, .inl (cI, 6, .inl (upd ofp 5 x2)))] H := hP
  replace hD : va_D A [(o, .inr (3, [.ref k, .ref op, .int 0, .ref oq, .ref ov, .ref os])), (op, .inl (cI, 6, .inl (upd ofp 5 x2)))] := hD
  refine lv_aload_n hx hb dX3_read_23 rfl (lv_at hl 2 rfl) ?_
  refine lv_dup hx hb dX3_read_24 rfl ?_
  refine va_get (D := (dC, dI)) (ci := 3) (v := .int 0) (C := RX3) (T := TX3) (N := 6) hx hb hts hin3 hown hK hP 0 rfl rfl 2 (by decide) hw0 (fun _ h9 => h9) rfl dX3_read_25 ?_
  refine lv_aload_n hx hb dX3_read_28 rfl (lv_at hl 2 rfl) ?_
  refine va_get (D := (dC, dI)) (ci := 3) (v := .ref op) (C := RX3) (T := TX3) (N := 6) hx hb hts hin3 hown hK hP 0 rfl rfl 1 (by decide) hw1 (fun _ h9 => h9) rfl dX3_read_29 ?_
  refine lv_iload_n hx hb dX3_read_32 rfl (lv_at hl 0 rfl) ?_
  refine va_iald hx hb hK hP 1 0 rfl rfl (vin (by decide) (by decide)) dX3_read_33 ?_
  refine lv_topi (fun x3 e3 => ?_)
  have g3 : 0 ≤ x3.toInt ∧ x3.toInt ≤ 9 := by rw [e3]; exact (rg_upd h_ofp (by omega) (by omega)) _ (by decide)
  refine lv_iadd hx hb dX3_read_34 ?_
  refine lv_topi (fun y4 e4 => ?_)
  obtain rfl : x3 = y4 := (e4.trans (by simp)).symm
  refine va_put (D := (dC, dI)) (ci := 3) (v := .int x3) (ty := .int) (C := RX3) (T := TX3) (N := 6) hx hb hts hin3 tyX3 tyX3_ok nmX3 hown hK hP hD hS 0 rfl rfl 2 (by decide) hw0 (fun _ h9 => h9) rfl (by decide +kernel) rfl rfl (Nat.le_of_ble_eq_true rfl) dX3_read_35 (fun H locs hP hD hS => ?_)
  replace hP : va_P (dC, dI) vwCl [(o, .inr (3, [.ref k, .ref op, .int x3, .ref oq, .ref ov, .ref os])), (op, .inl (cI, 6, .inl (upd ofp 5 x2)))] H := hP
  replace hD : va_D A [(o, .inr (3, [.ref k, .ref op, .int x3, .ref oq, .ref ov, .ref os])), (op, .inl (cI, 6, .inl (upd ofp 5 x2)))] := hD
  refine lv_iload_n hx hb dX3_read_38 rfl (lv_at hl 1 rfl) ?_
  refine lv_bipush (v := 10) hx hb dX3_read_39 (by decide) ?_
  refine lv_idiv hx hb dX3_read_41 (by decide) ?_
  refine lv_topi (fun x5 e5 => ?_)
  have f5 : x5.toInt = i0.toInt / 10 := by rw [e5]; exact tdivc (by omega) (by decide)
  refine lv_istore_n (lv' := [(2, .int x5), (3, .int 5), (0, .ref o), (1, .int i0)]) hx hb dX3_read_42 rfl hl (by decide) rfl (fun ls hl => ?_)
  refine lv_iinc (v := 4) (lv' := [(3, .int 4), (2, .int x5), (0, .ref o), (1, .int i0)]) hx hb dX3_read_43 hl (k := 1) rfl (by decide) (by decide) rfl (fun ls hl => ?_)
  refine lv_goto (tgt := 9) hx hb dX3_read_46 (by decide) ?_
  refine lv_iload_n hx hb dX3_read_9 rfl (lv_at hl 0 rfl) ?_
  refine lv_if_lt (tgt := 49) hx hb dX3_read_10 (by decide) (fun c6 => absurd c6 (by decide)) (fun c6 => ?_)
  refine lv_aload_n hx hb dX3_read_13 rfl (lv_at hl 2 rfl) ?_
  refine va_get (D := (dC, dI)) (ci := 3) (v := .ref op) (C := RX3) (T := TX3) (N := 6) hx hb hts hin3 hown hK hP 0 rfl rfl 1 (by decide) hw1 (fun _ h9 => h9) rfl dX3_read_14 ?_
  refine lv_iload_n hx hb dX3_read_17 rfl (lv_at hl 0 rfl) ?_
  refine lv_iload_n hx hb dX3_read_18 rfl (lv_at hl 1 rfl) ?_
  refine lv_bipush (v := 10) hx hb dX3_read_19 (by decide) ?_
  refine lv_irem hx hb dX3_read_21 (by decide) ?_
  refine lv_topi (fun x7 e7 => ?_)
  have f7 : x7.toInt = x5.toInt % 10 := by rw [e7]; exact tremc (by omega) (by decide)
  refine va_iast hx hb hK hP hD hS 1 0 rfl rfl (vin (by decide) (by decide)) dX3_read_22 (fun H locs hP hD hS => ?_)
  replace hP : va_P (dC, dI) vwCl [(o, .inr (3, [.ref k, .ref op, .int x3, .ref oq, .ref ov, .ref os])), (op, .inl (cI, 6, .inl (upd (upd ofp 5 x2) 4 x7)))] H := hP
  replace hD : va_D A [(o, .inr (3, [.ref k, .ref op, .int x3, .ref oq, .ref ov, .ref os])), (op, .inl (cI, 6, .inl (upd (upd ofp 5 x2) 4 x7)))] := hD
  refine lv_aload_n hx hb dX3_read_23 rfl (lv_at hl 2 rfl) ?_
  refine lv_dup hx hb dX3_read_24 rfl ?_
  refine va_get (D := (dC, dI)) (ci := 3) (v := .int x3) (C := RX3) (T := TX3) (N := 6) hx hb hts hin3 hown hK hP 0 rfl rfl 2 (by decide) hw0 (fun _ h9 => h9) rfl dX3_read_25 ?_
  refine lv_aload_n hx hb dX3_read_28 rfl (lv_at hl 2 rfl) ?_
  refine va_get (D := (dC, dI)) (ci := 3) (v := .ref op) (C := RX3) (T := TX3) (N := 6) hx hb hts hin3 hown hK hP 0 rfl rfl 1 (by decide) hw1 (fun _ h9 => h9) rfl dX3_read_29 ?_
  refine lv_iload_n hx hb dX3_read_32 rfl (lv_at hl 0 rfl) ?_
  refine va_iald hx hb hK hP 1 0 rfl rfl (vin (by decide) (by decide)) dX3_read_33 ?_
  refine lv_topi (fun x8 e8 => ?_)
  have g8 : 0 ≤ x8.toInt ∧ x8.toInt ≤ 9 := by rw [e8]; exact (rg_upd (rg_upd h_ofp (by omega) (by omega)) (by omega) (by omega)) _ (by decide)
  refine lv_iadd hx hb dX3_read_34 ?_
  refine lv_topi (fun x9 e9 => ?_)
  have f9 : x9.toInt = x3.toInt + x8.toInt := by rw [e9]; exact tadd (by have t8 := tb x3; have t8 := tb x8; omega) (by have t8 := tb x3; have t8 := tb x8; omega)
  refine va_put (D := (dC, dI)) (ci := 3) (v := .int x9) (ty := .int) (C := RX3) (T := TX3) (N := 6) hx hb hts hin3 tyX3 tyX3_ok nmX3 hown hK hP hD hS 0 rfl rfl 2 (by decide) hw0 (fun _ h9 => h9) rfl (by decide +kernel) rfl rfl (Nat.le_of_ble_eq_true rfl) dX3_read_35 (fun H locs hP hD hS => ?_)
  replace hP : va_P (dC, dI) vwCl [(o, .inr (3, [.ref k, .ref op, .int x9, .ref oq, .ref ov, .ref os])), (op, .inl (cI, 6, .inl (upd (upd ofp 5 x2) 4 x7)))] H := hP
  replace hD : va_D A [(o, .inr (3, [.ref k, .ref op, .int x9, .ref oq, .ref ov, .ref os])), (op, .inl (cI, 6, .inl (upd (upd ofp 5 x2) 4 x7)))] := hD
  refine lv_iload_n hx hb dX3_read_38 rfl (lv_at hl 1 rfl) ?_
  refine lv_bipush (v := 10) hx hb dX3_read_39 (by decide) ?_
  refine lv_idiv hx hb dX3_read_41 (by decide) ?_
  refine lv_topi (fun x10 e10 => ?_)
  have f10 : x10.toInt = x5.toInt / 10 := by rw [e10]; exact tdivc (by omega) (by decide)
  refine lv_istore_n (lv' := [(2, .int x10), (3, .int 4), (0, .ref o), (1, .int i0)]) hx hb dX3_read_42 rfl hl (by decide) rfl (fun ls hl => ?_)
  refine lv_iinc (v := 3) (lv' := [(3, .int 3), (2, .int x10), (0, .ref o), (1, .int i0)]) hx hb dX3_read_43 hl (k := 1) rfl (by decide) (by decide) rfl (fun ls hl => ?_)
  refine lv_goto (tgt := 9) hx hb dX3_read_46 (by decide) ?_
  refine lv_iload_n hx hb dX3_read_9 rfl (lv_at hl 0 rfl) ?_
  refine lv_if_lt (tgt := 49) hx hb dX3_read_10 (by decide) (fun c11 => absurd c11 (by decide)) (fun c11 => ?_)
  refine lv_aload_n hx hb dX3_read_13 rfl (lv_at hl 2 rfl) ?_
  refine va_get (D := (dC, dI)) (ci := 3) (v := .ref op) (C := RX3) (T := TX3) (N := 6) hx hb hts hin3 hown hK hP 0 rfl rfl 1 (by decide) hw1 (fun _ h9 => h9) rfl dX3_read_14 ?_
  refine lv_iload_n hx hb dX3_read_17 rfl (lv_at hl 0 rfl) ?_
  refine lv_iload_n hx hb dX3_read_18 rfl (lv_at hl 1 rfl) ?_
  refine lv_bipush (v := 10) hx hb dX3_read_19 (by decide) ?_
  refine lv_irem hx hb dX3_read_21 (by decide) ?_
  refine lv_topi (fun x12 e12 => ?_)
  have f12 : x12.toInt = x10.toInt % 10 := by rw [e12]; exact tremc (by omega) (by decide)
  refine va_iast hx hb hK hP hD hS 1 0 rfl rfl (vin (by decide) (by decide)) dX3_read_22 (fun H locs hP hD hS => ?_)
  replace hP : va_P (dC, dI) vwCl [(o, .inr (3, [.ref k, .ref op, .int x9, .ref oq, .ref ov, .ref os])), (op, .inl (cI, 6, .inl (upd (upd (upd ofp 5 x2) 4 x7) 3 x12)))] H := hP
  replace hD : va_D A [(o, .inr (3, [.ref k, .ref op, .int x9, .ref oq, .ref ov, .ref os])), (op, .inl (cI, 6, .inl (upd (upd (upd ofp 5 x2) 4 x7) 3 x12)))] := hD
  refine lv_aload_n hx hb dX3_read_23 rfl (lv_at hl 2 rfl) ?_
  refine lv_dup hx hb dX3_read_24 rfl ?_
  refine va_get (D := (dC, dI)) (ci := 3) (v := .int x9) (C := RX3) (T := TX3) (N := 6) hx hb hts hin3 hown hK hP 0 rfl rfl 2 (by decide) hw0 (fun _ h9 => h9) rfl dX3_read_25 ?_
  refine lv_aload_n hx hb dX3_read_28 rfl (lv_at hl 2 rfl) ?_
  refine va_get (D := (dC, dI)) (ci := 3) (v := .ref op) (C := RX3) (T := TX3) (N := 6) hx hb hts hin3 hown hK hP 0 rfl rfl 1 (by decide) hw1 (fun _ h9 => h9) rfl dX3_read_29 ?_
  refine lv_iload_n hx hb dX3_read_32 rfl (lv_at hl 0 rfl) ?_
  refine va_iald hx hb hK hP 1 0 rfl rfl (vin (by decide) (by decide)) dX3_read_33 ?_
  refine lv_topi (fun x13 e13 => ?_)
  have g13 : 0 ≤ x13.toInt ∧ x13.toInt ≤ 9 := by rw [e13]; exact (rg_upd (rg_upd (rg_upd h_ofp (by omega) (by omega)) (by omega) (by omega)) (by omega) (by omega)) _ (by decide)
  refine lv_iadd hx hb dX3_read_34 ?_
  refine lv_topi (fun x14 e14 => ?_)
  have f14 : x14.toInt = x9.toInt + x13.toInt := by rw [e14]; exact tadd (by have t8 := tb x9; have t8 := tb x13; omega) (by have t8 := tb x9; have t8 := tb x13; omega)
  refine va_put (D := (dC, dI)) (ci := 3) (v := .int x14) (ty := .int) (C := RX3) (T := TX3) (N := 6) hx hb hts hin3 tyX3 tyX3_ok nmX3 hown hK hP hD hS 0 rfl rfl 2 (by decide) hw0 (fun _ h9 => h9) rfl (by decide +kernel) rfl rfl (Nat.le_of_ble_eq_true rfl) dX3_read_35 (fun H locs hP hD hS => ?_)
  replace hP : va_P (dC, dI) vwCl [(o, .inr (3, [.ref k, .ref op, .int x14, .ref oq, .ref ov, .ref os])), (op, .inl (cI, 6, .inl (upd (upd (upd ofp 5 x2) 4 x7) 3 x12)))] H := hP
  replace hD : va_D A [(o, .inr (3, [.ref k, .ref op, .int x14, .ref oq, .ref ov, .ref os])), (op, .inl (cI, 6, .inl (upd (upd (upd ofp 5 x2) 4 x7) 3 x12)))] := hD
  refine lv_iload_n hx hb dX3_read_38 rfl (lv_at hl 1 rfl) ?_
  refine lv_bipush (v := 10) hx hb dX3_read_39 (by decide) ?_
  refine lv_idiv hx hb dX3_read_41 (by decide) ?_
  refine lv_topi (fun x15 e15 => ?_)
  have f15 : x15.toInt = x10.toInt / 10 := by rw [e15]; exact tdivc (by omega) (by decide)
  refine lv_istore_n (lv' := [(2, .int x15), (3, .int 3), (0, .ref o), (1, .int i0)]) hx hb dX3_read_42 rfl hl (by decide) rfl (fun ls hl => ?_)
  refine lv_iinc (v := 2) (lv' := [(3, .int 2), (2, .int x15), (0, .ref o), (1, .int i0)]) hx hb dX3_read_43 hl (k := 1) rfl (by decide) (by decide) rfl (fun ls hl => ?_)
  refine lv_goto (tgt := 9) hx hb dX3_read_46 (by decide) ?_
  refine lv_iload_n hx hb dX3_read_9 rfl (lv_at hl 0 rfl) ?_
  refine lv_if_lt (tgt := 49) hx hb dX3_read_10 (by decide) (fun c16 => absurd c16 (by decide)) (fun c16 => ?_)
  refine lv_aload_n hx hb dX3_read_13 rfl (lv_at hl 2 rfl) ?_
  refine va_get (D := (dC, dI)) (ci := 3) (v := .ref op) (C := RX3) (T := TX3) (N := 6) hx hb hts hin3 hown hK hP 0 rfl rfl 1 (by decide) hw1 (fun _ h9 => h9) rfl dX3_read_14 ?_
  refine lv_iload_n hx hb dX3_read_17 rfl (lv_at hl 0 rfl) ?_
  refine lv_iload_n hx hb dX3_read_18 rfl (lv_at hl 1 rfl) ?_
  refine lv_bipush (v := 10) hx hb dX3_read_19 (by decide) ?_
  refine lv_irem hx hb dX3_read_21 (by decide) ?_
  refine lv_topi (fun x17 e17 => ?_)
  have f17 : x17.toInt = x15.toInt % 10 := by rw [e17]; exact tremc (by omega) (by decide)
  refine va_iast hx hb hK hP hD hS 1 0 rfl rfl (vin (by decide) (by decide)) dX3_read_22 (fun H locs hP hD hS => ?_)
  replace hP : va_P (dC, dI) vwCl [(o, .inr (3, [.ref k, .ref op, .int x14, .ref oq, .ref ov, .ref os])), (op, .inl (cI, 6, .inl (upd (upd (upd (upd ofp 5 x2) 4 x7) 3 x12) 2 x17)))] H := hP
  replace hD : va_D A [(o, .inr (3, [.ref k, .ref op, .int x14, .ref oq, .ref ov, .ref os])), (op, .inl (cI, 6, .inl (upd (upd (upd (upd ofp 5 x2) 4 x7) 3 x12) 2 x17)))] := hD
  refine lv_aload_n hx hb dX3_read_23 rfl (lv_at hl 2 rfl) ?_
  refine lv_dup hx hb dX3_read_24 rfl ?_
  refine va_get (D := (dC, dI)) (ci := 3) (v := .int x14) (C := RX3) (T := TX3) (N := 6) hx hb hts hin3 hown hK hP 0 rfl rfl 2 (by decide) hw0 (fun _ h9 => h9) rfl dX3_read_25 ?_
  refine lv_aload_n hx hb dX3_read_28 rfl (lv_at hl 2 rfl) ?_
  refine va_get (D := (dC, dI)) (ci := 3) (v := .ref op) (C := RX3) (T := TX3) (N := 6) hx hb hts hin3 hown hK hP 0 rfl rfl 1 (by decide) hw1 (fun _ h9 => h9) rfl dX3_read_29 ?_
  refine lv_iload_n hx hb dX3_read_32 rfl (lv_at hl 0 rfl) ?_
  refine va_iald hx hb hK hP 1 0 rfl rfl (vin (by decide) (by decide)) dX3_read_33 ?_
  refine lv_topi (fun x18 e18 => ?_)
  have g18 : 0 ≤ x18.toInt ∧ x18.toInt ≤ 9 := by rw [e18]; exact (rg_upd (rg_upd (rg_upd (rg_upd h_ofp (by omega) (by omega)) (by omega) (by omega)) (by omega) (by omega)) (by omega) (by omega)) _ (by decide)
  refine lv_iadd hx hb dX3_read_34 ?_
  refine lv_topi (fun x19 e19 => ?_)
  have f19 : x19.toInt = x14.toInt + x18.toInt := by rw [e19]; exact tadd (by have t8 := tb x14; have t8 := tb x18; omega) (by have t8 := tb x14; have t8 := tb x18; omega)
  refine va_put (D := (dC, dI)) (ci := 3) (v := .int x19) (ty := .int) (C := RX3) (T := TX3) (N := 6) hx hb hts hin3 tyX3 tyX3_ok nmX3 hown hK hP hD hS 0 rfl rfl 2 (by decide) hw0 (fun _ h9 => h9) rfl (by decide +kernel) rfl rfl (Nat.le_of_ble_eq_true rfl) dX3_read_35 (fun H locs hP hD hS => ?_)
  replace hP : va_P (dC, dI) vwCl [(o, .inr (3, [.ref k, .ref op, .int x19, .ref oq, .ref ov, .ref os])), (op, .inl (cI, 6, .inl (upd (upd (upd (upd ofp 5 x2) 4 x7) 3 x12) 2 x17)))] H := hP
  replace hD : va_D A [(o, .inr (3, [.ref k, .ref op, .int x19, .ref oq, .ref ov, .ref os])), (op, .inl (cI, 6, .inl (upd (upd (upd (upd ofp 5 x2) 4 x7) 3 x12) 2 x17)))] := hD
  refine lv_iload_n hx hb dX3_read_38 rfl (lv_at hl 1 rfl) ?_
  refine lv_bipush (v := 10) hx hb dX3_read_39 (by decide) ?_
  refine lv_idiv hx hb dX3_read_41 (by decide) ?_
  refine lv_topi (fun x20 e20 => ?_)
  have f20 : x20.toInt = x15.toInt / 10 := by rw [e20]; exact tdivc (by omega) (by decide)
  refine lv_istore_n (lv' := [(2, .int x20), (3, .int 2), (0, .ref o), (1, .int i0)]) hx hb dX3_read_42 rfl hl (by decide) rfl (fun ls hl => ?_)
  refine lv_iinc (v := 1) (lv' := [(3, .int 1), (2, .int x20), (0, .ref o), (1, .int i0)]) hx hb dX3_read_43 hl (k := 1) rfl (by decide) (by decide) rfl (fun ls hl => ?_)
  refine lv_goto (tgt := 9) hx hb dX3_read_46 (by decide) ?_
  refine lv_iload_n hx hb dX3_read_9 rfl (lv_at hl 0 rfl) ?_
  refine lv_if_lt (tgt := 49) hx hb dX3_read_10 (by decide) (fun c21 => absurd c21 (by decide)) (fun c21 => ?_)
  refine lv_aload_n hx hb dX3_read_13 rfl (lv_at hl 2 rfl) ?_
  refine va_get (D := (dC, dI)) (ci := 3) (v := .ref op) (C := RX3) (T := TX3) (N := 6) hx hb hts hin3 hown hK hP 0 rfl rfl 1 (by decide) hw1 (fun _ h9 => h9) rfl dX3_read_14 ?_
  refine lv_iload_n hx hb dX3_read_17 rfl (lv_at hl 0 rfl) ?_
  refine lv_iload_n hx hb dX3_read_18 rfl (lv_at hl 1 rfl) ?_
  refine lv_bipush (v := 10) hx hb dX3_read_19 (by decide) ?_
  refine lv_irem hx hb dX3_read_21 (by decide) ?_
  refine lv_topi (fun x22 e22 => ?_)
  have f22 : x22.toInt = x20.toInt % 10 := by rw [e22]; exact tremc (by omega) (by decide)
  refine va_iast hx hb hK hP hD hS 1 0 rfl rfl (vin (by decide) (by decide)) dX3_read_22 (fun H locs hP hD hS => ?_)
  replace hP : va_P (dC, dI) vwCl [(o, .inr (3, [.ref k, .ref op, .int x19, .ref oq, .ref ov, .ref os])), (op, .inl (cI, 6, .inl (upd (upd (upd (upd (upd ofp 5 x2) 4 x7) 3 x12) 2 x17) 1 x22)))] H := hP
  replace hD : va_D A [(o, .inr (3, [.ref k, .ref op, .int x19, .ref oq, .ref ov, .ref os])), (op, .inl (cI, 6, .inl (upd (upd (upd (upd (upd ofp 5 x2) 4 x7) 3 x12) 2 x17) 1 x22)))] := hD
  refine lv_aload_n hx hb dX3_read_23 rfl (lv_at hl 2 rfl) ?_
  refine lv_dup hx hb dX3_read_24 rfl ?_
  refine va_get (D := (dC, dI)) (ci := 3) (v := .int x19) (C := RX3) (T := TX3) (N := 6) hx hb hts hin3 hown hK hP 0 rfl rfl 2 (by decide) hw0 (fun _ h9 => h9) rfl dX3_read_25 ?_
  refine lv_aload_n hx hb dX3_read_28 rfl (lv_at hl 2 rfl) ?_
  refine va_get (D := (dC, dI)) (ci := 3) (v := .ref op) (C := RX3) (T := TX3) (N := 6) hx hb hts hin3 hown hK hP 0 rfl rfl 1 (by decide) hw1 (fun _ h9 => h9) rfl dX3_read_29 ?_
  refine lv_iload_n hx hb dX3_read_32 rfl (lv_at hl 0 rfl) ?_
  refine va_iald hx hb hK hP 1 0 rfl rfl (vin (by decide) (by decide)) dX3_read_33 ?_
  refine lv_topi (fun x23 e23 => ?_)
  have g23 : 0 ≤ x23.toInt ∧ x23.toInt ≤ 9 := by rw [e23]; exact (rg_upd (rg_upd (rg_upd (rg_upd (rg_upd h_ofp (by omega) (by omega)) (by omega) (by omega)) (by omega) (by omega)) (by omega) (by omega)) (by omega) (by omega)) _ (by decide)
  refine lv_iadd hx hb dX3_read_34 ?_
  refine lv_topi (fun x24 e24 => ?_)
  have f24 : x24.toInt = x19.toInt + x23.toInt := by rw [e24]; exact tadd (by have t8 := tb x19; have t8 := tb x23; omega) (by have t8 := tb x19; have t8 := tb x23; omega)
  refine va_put (D := (dC, dI)) (ci := 3) (v := .int x24) (ty := .int) (C := RX3) (T := TX3) (N := 6) hx hb hts hin3 tyX3 tyX3_ok nmX3 hown hK hP hD hS 0 rfl rfl 2 (by decide) hw0 (fun _ h9 => h9) rfl (by decide +kernel) rfl rfl (Nat.le_of_ble_eq_true rfl) dX3_read_35 (fun H locs hP hD hS => ?_)
  replace hP : va_P (dC, dI) vwCl [(o, .inr (3, [.ref k, .ref op, .int x24, .ref oq, .ref ov, .ref os])), (op, .inl (cI, 6, .inl (upd (upd (upd (upd (upd ofp 5 x2) 4 x7) 3 x12) 2 x17) 1 x22)))] H := hP
  replace hD : va_D A [(o, .inr (3, [.ref k, .ref op, .int x24, .ref oq, .ref ov, .ref os])), (op, .inl (cI, 6, .inl (upd (upd (upd (upd (upd ofp 5 x2) 4 x7) 3 x12) 2 x17) 1 x22)))] := hD
  refine lv_iload_n hx hb dX3_read_38 rfl (lv_at hl 1 rfl) ?_
  refine lv_bipush (v := 10) hx hb dX3_read_39 (by decide) ?_
  refine lv_idiv hx hb dX3_read_41 (by decide) ?_
  refine lv_topi (fun x25 e25 => ?_)
  have f25 : x25.toInt = x20.toInt / 10 := by rw [e25]; exact tdivc (by omega) (by decide)
  refine lv_istore_n (lv' := [(2, .int x25), (3, .int 1), (0, .ref o), (1, .int i0)]) hx hb dX3_read_42 rfl hl (by decide) rfl (fun ls hl => ?_)
  refine lv_iinc (v := 0) (lv' := [(3, .int 0), (2, .int x25), (0, .ref o), (1, .int i0)]) hx hb dX3_read_43 hl (k := 1) rfl (by decide) (by decide) rfl (fun ls hl => ?_)
  refine lv_goto (tgt := 9) hx hb dX3_read_46 (by decide) ?_
  refine lv_iload_n hx hb dX3_read_9 rfl (lv_at hl 0 rfl) ?_
  refine lv_if_lt (tgt := 49) hx hb dX3_read_10 (by decide) (fun c26 => absurd c26 (by decide)) (fun c26 => ?_)
  refine lv_aload_n hx hb dX3_read_13 rfl (lv_at hl 2 rfl) ?_
  refine va_get (D := (dC, dI)) (ci := 3) (v := .ref op) (C := RX3) (T := TX3) (N := 6) hx hb hts hin3 hown hK hP 0 rfl rfl 1 (by decide) hw1 (fun _ h9 => h9) rfl dX3_read_14 ?_
  refine lv_iload_n hx hb dX3_read_17 rfl (lv_at hl 0 rfl) ?_
  refine lv_iload_n hx hb dX3_read_18 rfl (lv_at hl 1 rfl) ?_
  refine lv_bipush (v := 10) hx hb dX3_read_19 (by decide) ?_
  refine lv_irem hx hb dX3_read_21 (by decide) ?_
  refine lv_topi (fun x27 e27 => ?_)
  have f27 : x27.toInt = x25.toInt % 10 := by rw [e27]; exact tremc (by omega) (by decide)
  refine va_iast hx hb hK hP hD hS 1 0 rfl rfl (vin (by decide) (by decide)) dX3_read_22 (fun H locs hP hD hS => ?_)
  replace hP : va_P (dC, dI) vwCl [(o, .inr (3, [.ref k, .ref op, .int x24, .ref oq, .ref ov, .ref os])), (op, .inl (cI, 6, .inl (upd (upd (upd (upd (upd (upd ofp 5 x2) 4 x7) 3 x12) 2 x17) 1 x22) 0 x27)))] H := hP
  replace hD : va_D A [(o, .inr (3, [.ref k, .ref op, .int x24, .ref oq, .ref ov, .ref os])), (op, .inl (cI, 6, .inl (upd (upd (upd (upd (upd (upd ofp 5 x2) 4 x7) 3 x12) 2 x17) 1 x22) 0 x27)))] := hD
  refine lv_aload_n hx hb dX3_read_23 rfl (lv_at hl 2 rfl) ?_
  refine lv_dup hx hb dX3_read_24 rfl ?_
  refine va_get (D := (dC, dI)) (ci := 3) (v := .int x24) (C := RX3) (T := TX3) (N := 6) hx hb hts hin3 hown hK hP 0 rfl rfl 2 (by decide) hw0 (fun _ h9 => h9) rfl dX3_read_25 ?_
  refine lv_aload_n hx hb dX3_read_28 rfl (lv_at hl 2 rfl) ?_
  refine va_get (D := (dC, dI)) (ci := 3) (v := .ref op) (C := RX3) (T := TX3) (N := 6) hx hb hts hin3 hown hK hP 0 rfl rfl 1 (by decide) hw1 (fun _ h9 => h9) rfl dX3_read_29 ?_
  refine lv_iload_n hx hb dX3_read_32 rfl (lv_at hl 0 rfl) ?_
  refine va_iald hx hb hK hP 1 0 rfl rfl (vin (by decide) (by decide)) dX3_read_33 ?_
  refine lv_topi (fun x28 e28 => ?_)
  have g28 : 0 ≤ x28.toInt ∧ x28.toInt ≤ 9 := by rw [e28]; exact (rg_upd (rg_upd (rg_upd (rg_upd (rg_upd (rg_upd h_ofp (by omega) (by omega)) (by omega) (by omega)) (by omega) (by omega)) (by omega) (by omega)) (by omega) (by omega)) (by omega) (by omega)) _ (by decide)
  refine lv_iadd hx hb dX3_read_34 ?_
  refine lv_topi (fun x29 e29 => ?_)
  have f29 : x29.toInt = x24.toInt + x28.toInt := by rw [e29]; exact tadd (by have t8 := tb x24; have t8 := tb x28; omega) (by have t8 := tb x24; have t8 := tb x28; omega)
  refine va_put (D := (dC, dI)) (ci := 3) (v := .int x29) (ty := .int) (C := RX3) (T := TX3) (N := 6) hx hb hts hin3 tyX3 tyX3_ok nmX3 hown hK hP hD hS 0 rfl rfl 2 (by decide) hw0 (fun _ h9 => h9) rfl (by decide +kernel) rfl rfl (Nat.le_of_ble_eq_true rfl) dX3_read_35 (fun H locs hP hD hS => ?_)
  replace hP : va_P (dC, dI) vwCl [(o, .inr (3, [.ref k, .ref op, .int x29, .ref oq, .ref ov, .ref os])), (op, .inl (cI, 6, .inl (upd (upd (upd (upd (upd (upd ofp 5 x2) 4 x7) 3 x12) 2 x17) 1 x22) 0 x27)))] H := hP
  replace hD : va_D A [(o, .inr (3, [.ref k, .ref op, .int x29, .ref oq, .ref ov, .ref os])), (op, .inl (cI, 6, .inl (upd (upd (upd (upd (upd (upd ofp 5 x2) 4 x7) 3 x12) 2 x17) 1 x22) 0 x27)))] := hD
  refine lv_iload_n hx hb dX3_read_38 rfl (lv_at hl 1 rfl) ?_
  refine lv_bipush (v := 10) hx hb dX3_read_39 (by decide) ?_
  refine lv_idiv hx hb dX3_read_41 (by decide) ?_
  refine lv_topi (fun x30 e30 => ?_)
  have f30 : x30.toInt = x25.toInt / 10 := by rw [e30]; exact tdivc (by omega) (by decide)
  refine lv_istore_n (lv' := [(2, .int x30), (3, .int 0), (0, .ref o), (1, .int i0)]) hx hb dX3_read_42 rfl hl (by decide) rfl (fun ls hl => ?_)
  refine lv_iinc (v := (-1)) (lv' := [(3, .int (-1)), (2, .int x30), (0, .ref o), (1, .int i0)]) hx hb dX3_read_43 hl (k := 1) rfl (by decide) (by decide) rfl (fun ls hl => ?_)
  refine lv_goto (tgt := 9) hx hb dX3_read_46 (by decide) ?_
  refine lv_iload_n hx hb dX3_read_9 rfl (lv_at hl 0 rfl) ?_
  refine lv_if_lt (tgt := 49) hx hb dX3_read_10 (by decide) (fun c31 => ?_) (fun c31 => absurd c31 (by decide))
  have hP9 := mx_subP (wc := [(o, .inr (3, [.ref k, .ref op, .int x29, .ref oq, .ref ov, .ref os])), (op, .inl (cI, 6, .inl (upd (upd (upd (upd (upd (upd ofp 5 x2) 4 x7) 3 x12) 2 x17) 1 x22) 0 x27)))]) hP [0, 1] rfl
  have hD9 := hD.sub (ws' := [(o, .inr (3, [.ref k, .ref op, .int x29, .ref oq, .ref ov, .ref os])), (op, .inl (cI, 6, .inl (upd (upd (upd (upd (upd (upd ofp 5 x2) 4 x7) 3 x12) 2 x17) 1 x22) 0 x27)))]) [0, 1] (by decide) rfl
  exact W.vret hx hb hr (fun t ht hW => ⟨⟨((fun u9 => ([(upd (upd (upd (upd (upd (upd ofp 5 x2) 4 x7) 3 x12) 2 x17) 1 x22) 0 x27)] : List (Nat → Int32)).getD u9 (fun _ => 0)), (fun u9 => ([x29] : List Int32).getD u9 0), (fun u9 => ([] : List Int64).getD u9 0)), rfl, ⟨(rg_upd (rg_upd (rg_upd (rg_upd (rg_upd (rg_upd h_ofp (by omega) (by omega)) (by omega) (by omega)) (by omega) (by omega)) (by omega) (by omega)) (by omega) (by omega)) (by omega) (by omega)), (show dgP i0.toInt (upd (upd (upd (upd (upd (upd ofp 5 x2) 4 x7) 3 x12) 2 x17) 1 x22) 0 x27) from (dg_mk (show (x27).toInt = i0.toInt / 10 / 10 / 10 / 10 / 10 % 10 from by omega) (show (x22).toInt = i0.toInt / 10 / 10 / 10 / 10 % 10 from by omega) (show (x17).toInt = i0.toInt / 10 / 10 / 10 % 10 from by omega) (show (x12).toInt = i0.toInt / 10 / 10 % 10 from by omega) (show (x7).toInt = i0.toInt / 10 % 10 from by omega) (show (x2).toInt = i0.toInt % 10 from by omega)))⟩, by rw [ht]; exact hP9, hD9⟩, hS.F ht⟩) hS.2.2 dX3_read_49
set_option maxHeartbeats 4000000 in
set_option maxRecDepth 100000 in
theorem c_X3_isOfMealsThatAre (l : Launch) (dC : Nat → ClassId) (dI : Nat → Nat → Nat) (cI cZ cK : ClassId) (tS : Nat) (aK aV : Nat → Nat) (o : Nat) (k : Nat) (op : Nat) (oto : Int32) (oq : Nat) (ov : Nat) (os : Nat) (ofp : Nat → Int32) (ks : Nat) (kw : Nat) (kc : Nat) (kwd : Int32) (kbg : Int32) (kme : Int32) (kq : Nat) (km : Nat) (kd : Nat) (ksi : Int32) (ka : Nat) (kk : Nat) (sz : Nat) (h_ofp : rg ofp 6 0 9) : Ci l yX3_isOfMealsThatAre (wq yX3_isOfMealsThatAre cX3_isOfMealsThatAre 2 (some .boolean)) ({ frames := 2, cells := 0, slots := 0, locals := 43 }) dC dI cI cZ cK tS aK aV [.ref o] sz [(o, .inr (3, [.ref k, .ref op, .int oto, .ref oq, .ref ov, .ref os])), (op, .inl (cI, 6, .inl ofp)), (k, .inr (0, [.ref ks, .ref kw, .ref kc, .int kwd, .int kbg, .int kme, .ref kq, .ref km, .ref kd, .int ksi, .ref ka, .ref kk]))] (fun (r : Int32) (u : Unit) => ((r.toInt = 1 ∧ alP kme ofp) ∨ (r.toInt = 0 ∧ ¬ alP kme ofp)) ∧ ((r = 1 ∧ (True)) ∨ (r = 0 ∧ (True)))) (fun _ => [(o, .inr (3, [.ref k, .ref op, .int oto, .ref oq, .ref ov, .ref os])), (op, .inl (cI, 6, .inl ofp)), (k, .inr (0, [.ref ks, .ref kw, .ref kc, .int kwd, .int kbg, .int kme, .ref kq, .ref km, .ref kd, .int ksi, .ref ka, .ref kk]))]) := by
  refine Met.ofW (cc := cX3_isOfMealsThatAre) (maxL := 2) (ret := (some .boolean)) (by decide) rfl ?_
  intro p e s m args below meth c s₁ B hml hv
  obtain ⟨rfl, hsz, hP, hKx, hD0⟩ := hv
  have hx := B.exec
  have hb := B.bytes
  have hr := B.returns
  have hts := atoms_spec (ws := wq yX3_isOfMealsThatAre cX3_isOfMealsThatAre 2 (some .boolean)) B.pre
  have hown : s.vm.findClass RX3 = some m.cls := findClass_of_methodNamed B.named
  have hlocks := B.notSynchronized
  subst hsz
  have hD := hD0.self (sz := s.heap.size)
  generalize hAe : va_A [(o, .inr (3, [.ref k, .ref op, .int oto, .ref oq, .ref ov, .ref os])), (op, .inl (cI, 6, .inl ofp)), (k, .inr (0, [.ref ks, .ref kw, .ref kc, .int kwd, .int kbg, .int kme, .ref kq, .ref km, .ref kd, .int ksi, .ref ka, .ref kk]))] s.heap.size = A at hD hKx ⊢
  have hA : ∀ q : Nat, s.heap.size ≤ q → A q := fun q h => by rw [← hAe]; exact Or.inr h
  have hS : va_S A s.heap s.heap [] := va_S.rf
  have hP : va_P (dC, dI) vwCl [(o, .inr (3, [.ref k, .ref op, .int oto, .ref oq, .ref ov, .ref os])), (op, .inl (cI, 6, .inl ofp)), (k, .inr (0, [.ref ks, .ref kw, .ref kc, .int kwd, .int kbg, .int kme, .ref kq, .ref km, .ref kd, .int ksi, .ref ka, .ref kk]))] s.heap := hP
  have hl := lv_entry ([.ref o]) (n := 2) (Nat.le_of_ble_eq_true rfl)
  rw [lg_entry_eq]
  generalize (lg_sl ([.ref o]) ++ List.replicate (2 - (lg_sl ([.ref o])).length) Slot.unset).toArray = ls at hl ⊢
  have hl : lv_has ls 2 [(0, .ref o)] := hl
  have hK := hKx.1
  have hin3 := fun w9 h9 => List.mem_cons_of_mem (Cond.code yX3_isOfMealsThatAre cX3_isOfMealsThatAre 2 (some .boolean)) (inlX3 w9 h9)
  have hw0 := hts (.fieldLink RX3 9 "OneCan$Order" "portions" "[I") (List.mem_cons_of_mem _ wm_78)
  have hw1 := hts (.fieldLink RX3 24 "OneCan$Order" "camp" "LOneCan$Camp;") (List.mem_cons_of_mem _ wm_82)
  refine lv_iconst (v := 0) hx hb dX3_isOfMealsThatAre_0 (by decide) ?_
  refine lv_istore_n (lv' := [(1, .int 0), (0, .ref o)]) hx hb dX3_isOfMealsThatAre_1 rfl hl (by decide) rfl (fun ls hl => ?_)
  have z2 : (0 : Int32).toInt = 0 := rfl
  have hl0 := hl
  clear hl
  obtain ⟨H, hHe⟩ : ∃ H : Heap, H = s.heap := ⟨_, rfl⟩
  obtain ⟨locs, hlo⟩ : ∃ l : List Loc, l = [] := ⟨_, rfl⟩
  replace hP : va_P (dC, dI) vwCl [(o, .inr (3, [.ref k, .ref op, .int oto, .ref oq, .ref ov, .ref os])), (op, .inl (cI, 6, .inl ofp)), (k, .inr (0, [.ref ks, .ref kw, .ref kc, .int kwd, .int kbg, .int kme, .ref kq, .ref km, .ref kd, .int ksi, .ref ka, .ref kk]))] H := by rw [hHe]; exact hP
  replace hS : va_S A s.heap H locs := by rw [hHe, hlo]; exact hS
  rw [← hHe, ← hlo]
  clear hHe hlo
  have hP0 := hP
  clear hP
  have hD0 := hD
  clear hD
  obtain ⟨y1, ex, hal, hl, hP, hD⟩ : ∃ (y1 : Int32), (0 ≤ y1.toInt ∧ y1.toInt ≤ 6) ∧ (alR kme ofp y1) ∧ lv_has ls 2 [(1, .int y1), (0, .ref o)] ∧ va_P (dC, dI) vwCl [(o, .inr (3, [.ref k, .ref op, .int oto, .ref oq, .ref ov, .ref os])), (op, .inl (cI, 6, .inl ofp)), (k, .inr (0, [.ref ks, .ref kw, .ref kc, .int kwd, .int kbg, .int kme, .ref kq, .ref km, .ref kd, .int ksi, .ref ka, .ref kk]))] H ∧ va_D A [(o, .inr (3, [.ref k, .ref op, .int oto, .ref oq, .ref ov, .ref os])), (op, .inl (cI, 6, .inl ofp)), (k, .inr (0, [.ref ks, .ref kw, .ref kc, .int kwd, .int kbg, .int kme, .ref kq, .ref km, .ref kd, .int ksi, .ref ka, .ref kk]))] := ⟨0, by omega, (alR_0 (by omega)), hl0, hP0, hD0⟩
  clear hl0 hP0 hD0
  obtain ⟨n1, hn⟩ : ∃ n : Nat, (n : Int) = 6 - y1.toInt := ⟨(6 - y1.toInt).toNat, by omega⟩
  induction n1 generalizing y1 ls H locs with
  | zero =>
    skip
    refine lv_iload_n hx hb dX3_isOfMealsThatAre_2 rfl (lv_at hl 0 rfl) ?_
    refine lv_bipush (v := 6) hx hb dX3_isOfMealsThatAre_3 (by decide) ?_
    refine lv_icmp_ge (tgt := 36) hx hb dX3_isOfMealsThatAre_5 (by decide) (fun c3 => ?_) (fun c3 => by exfalso; have t3 : y1.toInt < (6 : Int) := (tnle c3); omega)
    refine lv_iconst (v := 1) hx hb dX3_isOfMealsThatAre_36 (by decide) ?_
    have hP9 := mx_subP (wc := [(o, .inr (3, [.ref k, .ref op, .int oto, .ref oq, .ref ov, .ref os])), (op, .inl (cI, 6, .inl ofp)), (k, .inr (0, [.ref ks, .ref kw, .ref kc, .int kwd, .int kbg, .int kme, .ref kq, .ref km, .ref kd, .int ksi, .ref ka, .ref kk]))]) hP [0, 1, 2] rfl
    have hD9 := hD.sub (ws' := [(o, .inr (3, [.ref k, .ref op, .int oto, .ref oq, .ref ov, .ref os])), (op, .inl (cI, 6, .inl ofp)), (k, .inr (0, [.ref ks, .ref kw, .ref kc, .int kwd, .int kbg, .int kme, .ref kq, .ref km, .ref kd, .int ksi, .ref ka, .ref kk]))]) [0, 1, 2] (by decide) rfl
    exact W.zret (v := 1) hx hb hr rfl (fun t ht hW => ⟨⟨1, (), rfl, ⟨(show ((1 : Int32).toInt = 1 ∧ alP kme ofp) ∨ ((1 : Int32).toInt = 0 ∧ ¬ alP kme ofp) from (Or.inl ⟨rfl, alR_e hal (by omega)⟩)), (by first | exact Or.inl (⟨rfl, trivial⟩) | exact Or.inr (⟨rfl, trivial⟩))⟩, by rw [ht]; exact hP9, hD9⟩, hS.F ht⟩) hS.2.2 dX3_isOfMealsThatAre_37
  | succ n1 ih =>
    skip
    refine lv_iload_n hx hb dX3_isOfMealsThatAre_2 rfl (lv_at hl 0 rfl) ?_
    refine lv_bipush (v := 6) hx hb dX3_isOfMealsThatAre_3 (by decide) ?_
    refine lv_icmp_ge (tgt := 36) hx hb dX3_isOfMealsThatAre_5 (by decide) (fun c4 => by exfalso; have t4 : (6 : Int) ≤ y1.toInt := (tle c4); omega) (fun c4 => ?_)
    refine lv_aload_n hx hb dX3_isOfMealsThatAre_8 rfl (lv_at hl 1 rfl) ?_
    refine va_get (D := (dC, dI)) (ci := 3) (v := .ref op) (C := RX3) (T := TX3) (N := 6) hx hb hts hin3 hown hK hP 0 rfl rfl 1 (by decide) hw0 (fun _ h9 => h9) rfl dX3_isOfMealsThatAre_9 ?_
    refine lv_iload_n hx hb dX3_isOfMealsThatAre_12 rfl (lv_at hl 0 rfl) ?_
    refine va_iald hx hb hK hP 1 0 rfl rfl (vin (by omega) (by omega)) dX3_isOfMealsThatAre_13 ?_
    refine lv_topi (fun y5 e5 => ?_)
    obtain rfl : ofp y1.toNatClampNeg = y5 := e5.symm
    have g5 : 0 ≤ (ofp y1.toNatClampNeg).toInt ∧ (ofp y1.toNatClampNeg).toInt ≤ 9 := rgI h_ofp (by omega) (by omega)
    refine lv_if_le (tgt := 30) hx hb dX3_isOfMealsThatAre_14 (by decide) (fun c6 => ?_) (fun c6 => ?_)
    · have t6 : (ofp y1.toNatClampNeg).toInt ≤ (0 : Int) := (tle c6)
      obtain ⟨x7, e7⟩ : ∃ y : Int32, y = y1 + Int32.ofInt 1 := ⟨_, rfl⟩
      refine lv_iinc (v := x7) (lv' := [(1, .int x7), (0, .ref o)]) hx hb dX3_isOfMealsThatAre_30 hl (k := 0) rfl e7.symm (by decide) rfl (fun ls hl => ?_)
      have f7 : x7.toInt = y1.toInt + 1 := by rw [e7]; exact tinc (by decide) (by have t8 := tb y1; omega) (by have t8 := tb y1; omega)
      refine lv_goto (tgt := 2) hx hb dX3_isOfMealsThatAre_33 (by decide) ?_
      exact ih (H := H) (locs := locs) (ls := ls) (y1 := x7) hS (by omega) (alR_s hal (by omega) (Or.inl (by omega))) (show lv_has ls 2 [(1, .int x7), (0, .ref o)] from lv_sub hl [0, 1] rfl) (mx_subP (wc := [(o, .inr (3, [.ref k, .ref op, .int oto, .ref oq, .ref ov, .ref os])), (op, .inl (cI, 6, .inl ofp)), (k, .inr (0, [.ref ks, .ref kw, .ref kc, .int kwd, .int kbg, .int kme, .ref kq, .ref km, .ref kd, .int ksi, .ref ka, .ref kk]))]) hP [0, 1, 2] rfl) (by omega)
    · have t6 : (0 : Int) < (ofp y1.toNatClampNeg).toInt := (tnle c6)
      refine lv_aload_n hx hb dX3_isOfMealsThatAre_17 rfl (lv_at hl 1 rfl) ?_
      refine va_get (D := (dC, dI)) (ci := 3) (v := .ref k) (C := RX3) (T := TX3) (N := 6) hx hb hts hin3 hown hK hP 0 rfl rfl 0 (by decide) hw1 (fun _ h9 => h9) rfl dX3_isOfMealsThatAre_18 ?_
      refine lv_iload_n hx hb dX3_isOfMealsThatAre_21 rfl (lv_at hl 0 rfl) ?_
      refine mx_i (wr := [(o, .inr (3, [.ref k, .ref op, .int oto, .ref oq, .ref ov, .ref os])), (op, .inl (cI, 6, .inl ofp))]) (va_runV (As := [.int y1]) (rest := []) ⟨hx, hb, hml, hown, hts⟩ (c_X0_has l dC dI cI cZ cK tS aK aV k y1 ks kw kc kwd kbg kme kq km kd ksi ka kk H.size) (cwV 1 hts (gw_v (fun _ h9 => List.mem_cons_of_mem _ h9) wm_581 wm_379 wm_380 wm_14 wm_381) rfl rfl rfl (by decide +kernel) ⟨Nat.le_of_ble_eq_true rfl, Nat.le_of_ble_eq_true rfl⟩) (mx_preV (C := RX0) (T := TX0) (N := 12) (ci := 0) hKx hP hD hS hA [2] (by decide) rfl rfl rfl) rfl rfl hl.1 rfl (lv_room (Nat.le_of_ble_eq_true rfl)) dX3_isOfMealsThatAre_22 ⟨Nat.le_of_ble_eq_true rfl, Nat.le_of_ble_eq_true rfl⟩) hP hD hS hA [2] [0, 1] rfl rfl (by decide) (by decide) (fun r8 u8 H locs hq8 hP hD hS => ?_)
      replace hP : va_P (dC, dI) vwCl [(o, .inr (3, [.ref k, .ref op, .int oto, .ref oq, .ref ov, .ref os])), (op, .inl (cI, 6, .inl ofp)), (k, .inr (0, [.ref ks, .ref kw, .ref kc, .int kwd, .int kbg, .int kme, .ref kq, .ref km, .ref kd, .int ksi, .ref ka, .ref kk]))] H := hP
      replace hD : va_D A [(o, .inr (3, [.ref k, .ref op, .int oto, .ref oq, .ref ov, .ref os])), (op, .inl (cI, 6, .inl ofp)), (k, .inr (0, [.ref ks, .ref kw, .ref kc, .int kwd, .int kbg, .int kme, .ref kq, .ref km, .ref kd, .int ksi, .ref ka, .ref kk]))] := hD
      obtain ⟨hx8_0, hr8⟩ := hq8
      replace hx8_0 : r8 = hsF kme y1 := hx8_0
      rcases hr8 with ⟨rfl, hf8⟩ | ⟨rfl, hf8⟩
      · have hf8 : 0 ≤ y1.toInt ∧ y1.toInt ≤ 5 := hf8
        refine lv_if_ne (tgt := 30) hx hb dX3_isOfMealsThatAre_25 (by decide) (fun c9 => ?_) (fun c9 => absurd c9 (by decide))
        obtain ⟨x10, e10⟩ : ∃ y : Int32, y = y1 + Int32.ofInt 1 := ⟨_, rfl⟩
        refine lv_iinc (v := x10) (lv' := [(1, .int x10), (0, .ref o)]) hx hb dX3_isOfMealsThatAre_30 hl (k := 0) rfl e10.symm (by decide) rfl (fun ls hl => ?_)
        have f10 : x10.toInt = y1.toInt + 1 := by rw [e10]; exact tinc (by decide) (by have t8 := tb y1; omega) (by have t8 := tb y1; omega)
        refine lv_goto (tgt := 2) hx hb dX3_isOfMealsThatAre_33 (by decide) ?_
        exact ih (H := H) (locs := locs) (ls := ls) (y1 := x10) hS (by omega) (alR_s hal (by omega) (by first | exact Or.inl (by omega) | exact Or.inr hx8_0.symm)) (show lv_has ls 2 [(1, .int x10), (0, .ref o)] from lv_sub hl [0, 1] rfl) (mx_subP (wc := [(o, .inr (3, [.ref k, .ref op, .int oto, .ref oq, .ref ov, .ref os])), (op, .inl (cI, 6, .inl ofp)), (k, .inr (0, [.ref ks, .ref kw, .ref kc, .int kwd, .int kbg, .int kme, .ref kq, .ref km, .ref kd, .int ksi, .ref ka, .ref kk]))]) hP [0, 1, 2] rfl) (by omega)
      · skip
        refine lv_if_ne (tgt := 30) hx hb dX3_isOfMealsThatAre_25 (by decide) (fun c11 => absurd c11 (by decide)) (fun c11 => ?_)
        refine lv_iconst (v := 0) hx hb dX3_isOfMealsThatAre_28 (by decide) ?_
        have hP9 := mx_subP (wc := [(o, .inr (3, [.ref k, .ref op, .int oto, .ref oq, .ref ov, .ref os])), (op, .inl (cI, 6, .inl ofp)), (k, .inr (0, [.ref ks, .ref kw, .ref kc, .int kwd, .int kbg, .int kme, .ref kq, .ref km, .ref kd, .int ksi, .ref ka, .ref kk]))]) hP [0, 1, 2] rfl
        have hD9 := hD.sub (ws' := [(o, .inr (3, [.ref k, .ref op, .int oto, .ref oq, .ref ov, .ref os])), (op, .inl (cI, 6, .inl ofp)), (k, .inr (0, [.ref ks, .ref kw, .ref kc, .int kwd, .int kbg, .int kme, .ref kq, .ref km, .ref kd, .int ksi, .ref ka, .ref kk]))]) [0, 1, 2] (by decide) rfl
        exact W.zret (v := 0) hx hb hr rfl (fun t ht hW => ⟨⟨0, (), rfl, ⟨(show ((0 : Int32).toInt = 1 ∧ alP kme ofp) ∨ ((0 : Int32).toInt = 0 ∧ ¬ alP kme ofp) from (Or.inr ⟨rfl, al_no (k := y1) (by omega) (by omega) (by omega) hx8_0.symm⟩)), (by first | exact Or.inl (⟨rfl, trivial⟩) | exact Or.inr (⟨rfl, trivial⟩))⟩, by rw [ht]; exact hP9, hD9⟩, hS.F ht⟩) hS.2.2 dX3_isOfMealsThatAre_29
