set_option maxHeartbeats 4000000 in
set_option maxRecDepth 100000 in
theorem c_X1_hindrance (l : Launch) (dC : Nat → ClassId) (dI : Nat → Nat → Nat) (cI cZ cK : ClassId) (tS : Nat) (aK aV : Nat → Nat) (j : Nat) (i0 : Int32) (i1 : Int32) (k : Nat) (d : Nat) (jd : Nat) (jb : Nat) (jw : Nat) (jl : Nat) (jbad : Int32) (jwhy : Int32) (jleft : Int32) (jday : Int32) (jwarmDay : Int32) (jbagDays : Int32) (jburnt : Int32) (jboiled : Int32) (jfb : Nat → Int32) (ds : Nat) (dsz : Int32) (dk : Nat) (dw : Nat) (dac : Int32) (dwr : Int32) (dfk : Nat → Int32) (dfw : Nat → Int32) (ks : Nat) (kw : Nat) (kc : Nat) (kwd : Int32) (kbg : Int32) (kme : Int32) (kq : Nat) (km : Nat) (kd : Nat) (ksi : Int32) (ka : Nat) (kk : Nat) (kfs : Nat → Int32) (kfc : Nat → Int32) (kfd : Nat → Int32) (sz : Nat) (h_kfs_4 : 0 ≤ (kfs 4).toInt ∧ (kfs 4).toInt ≤ 13) (h_i0 : 0 ≤ i0.toInt ∧ i0.toInt ≤ 59) (h_jday : 0 ≤ jday.toInt ∧ jday.toInt ≤ 13) : Ci l yX1_hindrance (wq yX1_hindrance cX1_hindrance 4 (some .int)) ({ frames := 2, cells := 0, slots := 0, locals := 43 }) dC dI cI cZ cK tS aK aV [.ref j, .int i0, .int i1] sz [(j, .inr (1, [.ref k, .ref d, .ref jd, .ref jb, .ref jw, .ref jl, .int jbad, .int jwhy, .int jleft, .int jday, .int jwarmDay, .int jbagDays, .int jburnt, .int jboiled])), (jb, .inl (cI, 60, .inl jfb)), (d, .inr (4, [.ref ds, .int dsz, .ref dk, .ref dw, .int dac, .int dwr])), (dk, .inl (cI, 60, .inl dfk)), (dw, .inl (cI, 60, .inl dfw)), (k, .inr (0, [.ref ks, .ref kw, .ref kc, .int kwd, .int kbg, .int kme, .ref kq, .ref km, .ref kd, .int ksi, .ref ka, .ref kk])), (ks, .inl (cI, 5, .inl kfs)), (kc, .inl (cZ, 14, .inl kfc)), (kd, .inl (cI, 6, .inl kfd))] (fun (r : Int32) (u : Unit) => ((dfk i0.toNatClampNeg).toInt ≠ 6 ∨ r.toInt ≠ 0 ∨ jday.toInt < 13)) (fun _ => [(j, .inr (1, [.ref k, .ref d, .ref jd, .ref jb, .ref jw, .ref jl, .int jbad, .int jwhy, .int jleft, .int jday, .int jwarmDay, .int jbagDays, .int jburnt, .int jboiled])), (jb, .inl (cI, 60, .inl jfb)), (d, .inr (4, [.ref ds, .int dsz, .ref dk, .ref dw, .int dac, .int dwr])), (dk, .inl (cI, 60, .inl dfk)), (dw, .inl (cI, 60, .inl dfw)), (k, .inr (0, [.ref ks, .ref kw, .ref kc, .int kwd, .int kbg, .int kme, .ref kq, .ref km, .ref kd, .int ksi, .ref ka, .ref kk])), (ks, .inl (cI, 5, .inl kfs)), (kc, .inl (cZ, 14, .inl kfc)), (kd, .inl (cI, 6, .inl kfd))]) := by
  refine Met.ofW (cc := cX1_hindrance) (maxL := 4) (ret := (some .int)) (by decide) rfl ?_
  intro p e s m args below meth c s₁ B hml hv
  obtain ⟨rfl, hsz, hP, hKx, hD0⟩ := hv
  have hx := B.exec
  have hb := B.bytes
  have hr := B.returns
  have hts := atoms_spec (ws := wq yX1_hindrance cX1_hindrance 4 (some .int)) B.pre
  have hown : s.vm.findClass RX1 = some m.cls := findClass_of_methodNamed B.named
  have hlocks := B.notSynchronized
  subst hsz
  have hD := hD0.self (sz := s.heap.size)
  generalize hAe : va_A [(j, .inr (1, [.ref k, .ref d, .ref jd, .ref jb, .ref jw, .ref jl, .int jbad, .int jwhy, .int jleft, .int jday, .int jwarmDay, .int jbagDays, .int jburnt, .int jboiled])), (jb, .inl (cI, 60, .inl jfb)), (d, .inr (4, [.ref ds, .int dsz, .ref dk, .ref dw, .int dac, .int dwr])), (dk, .inl (cI, 60, .inl dfk)), (dw, .inl (cI, 60, .inl dfw)), (k, .inr (0, [.ref ks, .ref kw, .ref kc, .int kwd, .int kbg, .int kme, .ref kq, .ref km, .ref kd, .int ksi, .ref ka, .ref kk])), (ks, .inl (cI, 5, .inl kfs)), (kc, .inl (cZ, 14, .inl kfc)), (kd, .inl (cI, 6, .inl kfd))] s.heap.size = A at hD hKx ⊢
  have hA : ∀ q : Nat, s.heap.size ≤ q → A q := fun q h => by rw [← hAe]; exact Or.inr h
  have hS : va_S A s.heap s.heap [] := va_S.rf
  have hP : va_P (dC, dI) vwCl [(j, .inr (1, [.ref k, .ref d, .ref jd, .ref jb, .ref jw, .ref jl, .int jbad, .int jwhy, .int jleft, .int jday, .int jwarmDay, .int jbagDays, .int jburnt, .int jboiled])), (jb, .inl (cI, 60, .inl jfb)), (d, .inr (4, [.ref ds, .int dsz, .ref dk, .ref dw, .int dac, .int dwr])), (dk, .inl (cI, 60, .inl dfk)), (dw, .inl (cI, 60, .inl dfw)), (k, .inr (0, [.ref ks, .ref kw, .ref kc, .int kwd, .int kbg, .int kme, .ref kq, .ref km, .ref kd, .int ksi, .ref ka, .ref kk])), (ks, .inl (cI, 5, .inl kfs)), (kc, .inl (cZ, 14, .inl kfc)), (kd, .inl (cI, 6, .inl kfd))] s.heap := hP
  have hl := lv_entry ([.ref j, .int i0, .int i1]) (n := 4) (Nat.le_of_ble_eq_true rfl)
  rw [lg_entry_eq]
  generalize (lg_sl ([.ref j, .int i0, .int i1]) ++ List.replicate (4 - (lg_sl ([.ref j, .int i0, .int i1])).length) Slot.unset).toArray = ls at hl ⊢
  have hl : lv_has ls 4 [(0, .ref j), (1, .int i0), (2, .int i1)] := hl
  have hK := hKx.1
  have hin1 := fun w9 h9 => List.mem_cons_of_mem (Cond.code yX1_hindrance cX1_hindrance 4 (some .int)) (inlX1 w9 h9)
  have hin4 := fun w9 h9 => List.mem_cons_of_mem (Cond.code yX1_hindrance cX1_hindrance 4 (some .int)) (inlX4 w9 h9)
  have hw0 := hts (.fieldLink RX1 28 "OneCan$Course" "pad" "LOneCan$Pad;") (List.mem_cons_of_mem _ wm_73)
  have hw1 := hts (.fieldLink RX1 84 "OneCan$Pad" "kinds" "[I") (List.mem_cons_of_mem _ wm_376)
  have hw2 := hts (.fieldLink RX1 24 "OneCan$Course" "camp" "LOneCan$Camp;") (List.mem_cons_of_mem _ wm_72)
  have hw3 := hts (.fieldLink RX1 15 "OneCan$Course" "burns" "[I") (List.mem_cons_of_mem _ wm_69)
  have hw4 := hts (.fieldLink RX1 44 "OneCan$Course" "left" "I") (List.mem_cons_of_mem _ wm_363)
  have hw5 := hts (.fieldLink RX1 95 "OneCan$Pad" "ways" "[I") (List.mem_cons_of_mem _ wm_377)
  have hw6 := hts (.fieldLink RX1 47 "OneCan$Course" "day" "I") (List.mem_cons_of_mem _ wm_364)
  refine lv_aload_n hx hb dX1_hindrance_0 rfl (lv_at hl 0 rfl) ?_
  refine va_get (D := (dC, dI)) (ci := 1) (v := .ref d) (C := RX1) (T := TX1) (N := 14) hx hb hts hin1 hown hK hP 0 rfl rfl 1 (by decide) hw0 (fun _ h9 => h9) rfl dX1_hindrance_1 ?_
  refine va_get (D := (dC, dI)) (ci := 4) (v := .ref dk) (C := RX4) (T := TX4) (N := 6) hx hb hts hin4 hown hK hP 2 rfl rfl 2 (by decide) hw1 (fun _ h9 => h9) rfl dX1_hindrance_4 ?_
  refine lv_iload_n hx hb dX1_hindrance_7 rfl (lv_at hl 1 rfl) ?_
  refine va_iald hx hb hK hP 3 0 rfl rfl (vin (by omega) (by omega)) dX1_hindrance_8 ?_
  refine lv_topi (fun y1 e1 => ?_)
  obtain rfl : dfk i0.toNatClampNeg = y1 := e1.symm
  refine lv_istore_n (lv' := [(3, .int (dfk i0.toNatClampNeg)), (0, .ref j), (1, .int i0), (2, .int i1)]) hx hb dX1_hindrance_9 rfl hl (by decide) rfl (fun ls hl => ?_)
  refine lv_iload_n hx hb dX1_hindrance_10 rfl (lv_at hl 0 rfl) ?_
  rcases (show ((dfk i0.toNatClampNeg).toInt < 6 ∨ 8 < (dfk i0.toNatClampNeg).toInt) ∨ (dfk i0.toNatClampNeg).toInt = 6 ∨ (dfk i0.toNatClampNeg).toInt = 7 ∨ (dfk i0.toNatClampNeg).toInt = 8 by omega) with h2 | h2 | h2 | h2
  · refine lv_tableOut (tgt := 74) hx hb dX1_hindrance_11 h2 (by decide) ?_
    refine lv_aload_n hx hb dX1_hindrance_74 rfl (lv_at hl 1 rfl) ?_
    refine va_get (D := (dC, dI)) (ci := 1) (v := .ref k) (C := RX1) (T := TX1) (N := 14) hx hb hts hin1 hown hK hP 0 rfl rfl 0 (by decide) hw2 (fun _ h9 => h9) rfl dX1_hindrance_75 ?_
    refine lv_iload_n hx hb dX1_hindrance_78 rfl (lv_at hl 0 rfl) ?_
    refine mx_i (wr := [(j, .inr (1, [.ref k, .ref d, .ref jd, .ref jb, .ref jw, .ref jl, .int jbad, .int jwhy, .int jleft, .int jday, .int jwarmDay, .int jbagDays, .int jburnt, .int jboiled])), (jb, .inl (cI, 60, .inl jfb)), (d, .inr (4, [.ref ds, .int dsz, .ref dk, .ref dw, .int dac, .int dwr])), (dk, .inl (cI, 60, .inl dfk)), (dw, .inl (cI, 60, .inl dfw)), (ks, .inl (cI, 5, .inl kfs)), (kc, .inl (cZ, 14, .inl kfc)), (kd, .inl (cI, 6, .inl kfd))]) (va_runV (As := [.int (dfk i0.toNatClampNeg)]) (rest := []) ⟨hx, hb, hml, hown, hts⟩ (c_X0_has l dC dI cI cZ cK tS aK aV k (dfk i0.toNatClampNeg) ks kw kc kwd kbg kme kq km kd ksi ka kk s.heap.size) (cwV 1 hts (gw_v (fun _ h9 => List.mem_cons_of_mem _ h9) wm_378 wm_379 wm_380 wm_14 wm_381) rfl rfl rfl (by decide +kernel) ⟨Nat.le_of_ble_eq_true rfl, Nat.le_of_ble_eq_true rfl⟩) (mx_preV (C := RX0) (T := TX0) (N := 12) (ci := 0) hKx hP hD hS hA [5] (by decide) rfl rfl rfl) rfl rfl hl.1 rfl (lv_room (Nat.le_of_ble_eq_true rfl)) dX1_hindrance_79 ⟨Nat.le_of_ble_eq_true rfl, Nat.le_of_ble_eq_true rfl⟩) hP hD hS hA [5] [0, 1, 2, 3, 4, 6, 7, 8] rfl rfl (by decide) (by decide) (fun r3 u3 H locs hq3 hP hD hS => ?_)
    replace hP : va_P (dC, dI) vwCl [(j, .inr (1, [.ref k, .ref d, .ref jd, .ref jb, .ref jw, .ref jl, .int jbad, .int jwhy, .int jleft, .int jday, .int jwarmDay, .int jbagDays, .int jburnt, .int jboiled])), (jb, .inl (cI, 60, .inl jfb)), (d, .inr (4, [.ref ds, .int dsz, .ref dk, .ref dw, .int dac, .int dwr])), (dk, .inl (cI, 60, .inl dfk)), (dw, .inl (cI, 60, .inl dfw)), (ks, .inl (cI, 5, .inl kfs)), (kc, .inl (cZ, 14, .inl kfc)), (kd, .inl (cI, 6, .inl kfd)), (k, .inr (0, [.ref ks, .ref kw, .ref kc, .int kwd, .int kbg, .int kme, .ref kq, .ref km, .ref kd, .int ksi, .ref ka, .ref kk]))] H := hP
    replace hD : va_D A [(j, .inr (1, [.ref k, .ref d, .ref jd, .ref jb, .ref jw, .ref jl, .int jbad, .int jwhy, .int jleft, .int jday, .int jwarmDay, .int jbagDays, .int jburnt, .int jboiled])), (jb, .inl (cI, 60, .inl jfb)), (d, .inr (4, [.ref ds, .int dsz, .ref dk, .ref dw, .int dac, .int dwr])), (dk, .inl (cI, 60, .inl dfk)), (dw, .inl (cI, 60, .inl dfw)), (ks, .inl (cI, 5, .inl kfs)), (kc, .inl (cZ, 14, .inl kfc)), (kd, .inl (cI, 6, .inl kfd)), (k, .inr (0, [.ref ks, .ref kw, .ref kc, .int kwd, .int kbg, .int kme, .ref kq, .ref km, .ref kd, .int ksi, .ref ka, .ref kk]))] := hD
    obtain ⟨hx3_0, hr3⟩ := hq3
    replace hx3_0 : r3 = hsF kme (dfk i0.toNatClampNeg) := hx3_0
    rcases hr3 with ⟨rfl, hf3⟩ | ⟨rfl, hf3⟩
    · have hf3 : 0 ≤ (dfk i0.toNatClampNeg).toInt ∧ (dfk i0.toNatClampNeg).toInt ≤ 5 := hf3
      refine lv_if_ne (tgt := 87) hx hb dX1_hindrance_82 (by decide) (fun c4 => ?_) (fun c4 => absurd c4 (by decide))
      refine lv_aload_n hx hb dX1_hindrance_87 rfl (lv_at hl 1 rfl) ?_
      refine va_get (D := (dC, dI)) (ci := 1) (v := .ref k) (C := RX1) (T := TX1) (N := 14) hx hb hts hin1 hown hK hP 0 rfl rfl 0 (by decide) hw2 (fun _ h9 => h9) rfl dX1_hindrance_88 ?_
      refine lv_iload_n hx hb dX1_hindrance_91 rfl (lv_at hl 0 rfl) ?_
      refine mx_i (wr := [(j, .inr (1, [.ref k, .ref d, .ref jd, .ref jb, .ref jw, .ref jl, .int jbad, .int jwhy, .int jleft, .int jday, .int jwarmDay, .int jbagDays, .int jburnt, .int jboiled])), (jb, .inl (cI, 60, .inl jfb)), (d, .inr (4, [.ref ds, .int dsz, .ref dk, .ref dw, .int dac, .int dwr])), (dk, .inl (cI, 60, .inl dfk)), (dw, .inl (cI, 60, .inl dfw)), (kc, .inl (cZ, 14, .inl kfc))]) (va_runV (As := [.int (dfk i0.toNatClampNeg)]) (rest := []) ⟨hx, hb, hml, hown, hts⟩ (c_X0_isHot l dC dI cI cZ cK tS aK aV k (dfk i0.toNatClampNeg) ks kw kc kwd kbg kme kq km kd ksi ka kk kfs kfd H.size (by first | omega | decide | assumption | trivial) (by first | omega | decide | assumption | trivial)) (cwV 1 hts (gw_v (fun _ h9 => List.mem_cons_of_mem _ h9) wm_409 wm_410 wm_411 wm_14 wm_412) rfl rfl rfl (by decide +kernel) ⟨Nat.le_of_ble_eq_true rfl, Nat.le_of_ble_eq_true rfl⟩) (mx_preV (C := RX0) (T := TX0) (N := 12) (ci := 0) hKx hP hD hS hA [8, 5, 7] (by decide) rfl rfl rfl) rfl rfl hl.1 rfl (lv_room (Nat.le_of_ble_eq_true rfl)) dX1_hindrance_92 ⟨Nat.le_of_ble_eq_true rfl, Nat.le_of_ble_eq_true rfl⟩) hP hD hS hA [8, 5, 7] [0, 1, 2, 3, 4, 6] rfl rfl (by decide) (by decide) (fun r5 u5 H locs hq5 hP hD hS => ?_)
      replace hP : va_P (dC, dI) vwCl [(j, .inr (1, [.ref k, .ref d, .ref jd, .ref jb, .ref jw, .ref jl, .int jbad, .int jwhy, .int jleft, .int jday, .int jwarmDay, .int jbagDays, .int jburnt, .int jboiled])), (jb, .inl (cI, 60, .inl jfb)), (d, .inr (4, [.ref ds, .int dsz, .ref dk, .ref dw, .int dac, .int dwr])), (dk, .inl (cI, 60, .inl dfk)), (dw, .inl (cI, 60, .inl dfw)), (kc, .inl (cZ, 14, .inl kfc)), (k, .inr (0, [.ref ks, .ref kw, .ref kc, .int kwd, .int kbg, .int kme, .ref kq, .ref km, .ref kd, .int ksi, .ref ka, .ref kk])), (ks, .inl (cI, 5, .inl kfs)), (kd, .inl (cI, 6, .inl kfd))] H := hP
      replace hD : va_D A [(j, .inr (1, [.ref k, .ref d, .ref jd, .ref jb, .ref jw, .ref jl, .int jbad, .int jwhy, .int jleft, .int jday, .int jwarmDay, .int jbagDays, .int jburnt, .int jboiled])), (jb, .inl (cI, 60, .inl jfb)), (d, .inr (4, [.ref ds, .int dsz, .ref dk, .ref dw, .int dac, .int dwr])), (dk, .inl (cI, 60, .inl dfk)), (dw, .inl (cI, 60, .inl dfw)), (kc, .inl (cZ, 14, .inl kfc)), (k, .inr (0, [.ref ks, .ref kw, .ref kc, .int kwd, .int kbg, .int kme, .ref kq, .ref km, .ref kd, .int ksi, .ref ka, .ref kk])), (ks, .inl (cI, 5, .inl kfs)), (kd, .inl (cI, 6, .inl kfd))] := hD
      refine lv_if_ne (tgt := 100) hx hb dX1_hindrance_95 (by decide) (fun c6 => ?_) (fun c6 => ?_)
      · have t6 : r5.toInt ≠ (0 : Int) := (tne c6)
        refine lv_aload_n hx hb dX1_hindrance_100 rfl (lv_at hl 1 rfl) ?_
        refine mx_i (wr := [(jb, .inl (cI, 60, .inl jfb)), (d, .inr (4, [.ref ds, .int dsz, .ref dk, .ref dw, .int dac, .int dwr])), (dk, .inl (cI, 60, .inl dfk)), (dw, .inl (cI, 60, .inl dfw)), (ks, .inl (cI, 5, .inl kfs)), (kd, .inl (cI, 6, .inl kfd))]) (va_runV (As := []) (rest := []) ⟨hx, hb, hml, hown, hts⟩ (c_X1_isCold l dC dI cI cZ cK tS aK aV j k d jd jb jw jl jbad jwhy jleft jday jwarmDay jbagDays jburnt jboiled ks kw kc kwd kbg kme kq km kd ksi ka kk kfc H.size (by first | omega | decide | assumption | trivial)) (cwV 0 hts (gw_v (fun _ h9 => List.mem_cons_of_mem _ h9) wm_417 wm_418 wm_419 wm_22 wm_420) rfl rfl rfl (by decide +kernel) ⟨Nat.le_of_ble_eq_true rfl, Nat.le_of_ble_eq_true rfl⟩) (mx_preV (C := RX1) (T := TX1) (N := 14) (ci := 1) hKx hP hD hS hA [0, 6, 5] (by decide) rfl rfl rfl) rfl rfl hl.1 rfl (lv_room (Nat.le_of_ble_eq_true rfl)) dX1_hindrance_101 ⟨Nat.le_of_ble_eq_true rfl, Nat.le_of_ble_eq_true rfl⟩) hP hD hS hA [0, 6, 5] [1, 2, 3, 4, 7, 8] rfl rfl (by decide) (by decide) (fun r7 u7 H locs hq7 hP hD hS => ?_)
        replace hP : va_P (dC, dI) vwCl [(jb, .inl (cI, 60, .inl jfb)), (d, .inr (4, [.ref ds, .int dsz, .ref dk, .ref dw, .int dac, .int dwr])), (dk, .inl (cI, 60, .inl dfk)), (dw, .inl (cI, 60, .inl dfw)), (ks, .inl (cI, 5, .inl kfs)), (kd, .inl (cI, 6, .inl kfd)), (j, .inr (1, [.ref k, .ref d, .ref jd, .ref jb, .ref jw, .ref jl, .int jbad, .int jwhy, .int jleft, .int jday, .int jwarmDay, .int jbagDays, .int jburnt, .int jboiled])), (k, .inr (0, [.ref ks, .ref kw, .ref kc, .int kwd, .int kbg, .int kme, .ref kq, .ref km, .ref kd, .int ksi, .ref ka, .ref kk])), (kc, .inl (cZ, 14, .inl kfc))] H := hP
        replace hD : va_D A [(jb, .inl (cI, 60, .inl jfb)), (d, .inr (4, [.ref ds, .int dsz, .ref dk, .ref dw, .int dac, .int dwr])), (dk, .inl (cI, 60, .inl dfk)), (dw, .inl (cI, 60, .inl dfw)), (ks, .inl (cI, 5, .inl kfs)), (kd, .inl (cI, 6, .inl kfd)), (j, .inr (1, [.ref k, .ref d, .ref jd, .ref jb, .ref jw, .ref jl, .int jbad, .int jwhy, .int jleft, .int jday, .int jwarmDay, .int jbagDays, .int jburnt, .int jboiled])), (k, .inr (0, [.ref ks, .ref kw, .ref kc, .int kwd, .int kbg, .int kme, .ref kq, .ref km, .ref kd, .int ksi, .ref ka, .ref kk])), (kc, .inl (cZ, 14, .inl kfc))] := hD
        refine lv_if_eq (tgt := 123) hx hb dX1_hindrance_104 (by decide) (fun c8 => ?_) (fun c8 => ?_)
        · have t8 : r7.toInt = (0 : Int) := (teq c8)
          refine lv_iload_n hx hb dX1_hindrance_123 rfl (lv_at hl 3 rfl) ?_
          refine lv_if_ne (tgt := 144) hx hb dX1_hindrance_124 (by decide) (fun c9 => ?_) (fun c9 => ?_)
          · have t9 : i1.toInt ≠ (0 : Int) := (tne c9)
            refine lv_iconst (v := 0) hx hb dX1_hindrance_144 (by decide) ?_
            have hP9 := mx_subP (wc := [(j, .inr (1, [.ref k, .ref d, .ref jd, .ref jb, .ref jw, .ref jl, .int jbad, .int jwhy, .int jleft, .int jday, .int jwarmDay, .int jbagDays, .int jburnt, .int jboiled])), (jb, .inl (cI, 60, .inl jfb)), (d, .inr (4, [.ref ds, .int dsz, .ref dk, .ref dw, .int dac, .int dwr])), (dk, .inl (cI, 60, .inl dfk)), (dw, .inl (cI, 60, .inl dfw)), (k, .inr (0, [.ref ks, .ref kw, .ref kc, .int kwd, .int kbg, .int kme, .ref kq, .ref km, .ref kd, .int ksi, .ref ka, .ref kk])), (ks, .inl (cI, 5, .inl kfs)), (kc, .inl (cZ, 14, .inl kfc)), (kd, .inl (cI, 6, .inl kfd))]) hP [6, 0, 1, 2, 3, 7, 4, 8, 5] rfl
            have hD9 := hD.sub (ws' := [(j, .inr (1, [.ref k, .ref d, .ref jd, .ref jb, .ref jw, .ref jl, .int jbad, .int jwhy, .int jleft, .int jday, .int jwarmDay, .int jbagDays, .int jburnt, .int jboiled])), (jb, .inl (cI, 60, .inl jfb)), (d, .inr (4, [.ref ds, .int dsz, .ref dk, .ref dw, .int dac, .int dwr])), (dk, .inl (cI, 60, .inl dfk)), (dw, .inl (cI, 60, .inl dfw)), (k, .inr (0, [.ref ks, .ref kw, .ref kc, .int kwd, .int kbg, .int kme, .ref kq, .ref km, .ref kd, .int ksi, .ref ka, .ref kk])), (ks, .inl (cI, 5, .inl kfs)), (kc, .inl (cZ, 14, .inl kfc)), (kd, .inl (cI, 6, .inl kfd))]) [6, 0, 1, 2, 3, 7, 4, 8, 5] (by decide) rfl
            exact W.iret (v := 0) hx hb hr (fun t ht hW => ⟨⟨0, (), rfl, (by have z8 : (0 : Int32).toInt = 0 := rfl; omega), by rw [ht]; exact hP9, hD9⟩, hS.F ht⟩) hS.2.2 dX1_hindrance_145
          · have t9 : i1.toInt = (0 : Int) := (teq c9)
            refine lv_aload_n hx hb dX1_hindrance_127 rfl (lv_at hl 1 rfl) ?_
            refine va_get (D := (dC, dI)) (ci := 1) (v := .ref jb) (C := RX1) (T := TX1) (N := 14) hx hb hts hin1 hown hK hP 6 rfl rfl 3 (by decide) hw3 (fun _ h9 => h9) rfl dX1_hindrance_128 ?_
            refine lv_iload_n hx hb dX1_hindrance_131 rfl (lv_at hl 2 rfl) ?_
            refine va_iald hx hb hK hP 0 0 rfl rfl (vin (by omega) (by omega)) dX1_hindrance_132 ?_
            refine lv_topi (fun y10 e10 => ?_)
            obtain rfl : jfb i0.toNatClampNeg = y10 := e10.symm
            refine lv_aload_n hx hb dX1_hindrance_133 rfl (lv_at hl 1 rfl) ?_
            refine va_get (D := (dC, dI)) (ci := 1) (v := .int jleft) (C := RX1) (T := TX1) (N := 14) hx hb hts hin1 hown hK hP 6 rfl rfl 8 (by decide) hw4 (fun _ h9 => h9) rfl dX1_hindrance_134 ?_
            refine lv_icmp_le (tgt := 144) hx hb dX1_hindrance_137 (by decide) (fun c11 => ?_) (fun c11 => ?_)
            · have t11 : (jfb i0.toNatClampNeg).toInt ≤ jleft.toInt := (tle c11)
              refine lv_iconst (v := 0) hx hb dX1_hindrance_144 (by decide) ?_
              have hP9 := mx_subP (wc := [(j, .inr (1, [.ref k, .ref d, .ref jd, .ref jb, .ref jw, .ref jl, .int jbad, .int jwhy, .int jleft, .int jday, .int jwarmDay, .int jbagDays, .int jburnt, .int jboiled])), (jb, .inl (cI, 60, .inl jfb)), (d, .inr (4, [.ref ds, .int dsz, .ref dk, .ref dw, .int dac, .int dwr])), (dk, .inl (cI, 60, .inl dfk)), (dw, .inl (cI, 60, .inl dfw)), (k, .inr (0, [.ref ks, .ref kw, .ref kc, .int kwd, .int kbg, .int kme, .ref kq, .ref km, .ref kd, .int ksi, .ref ka, .ref kk])), (ks, .inl (cI, 5, .inl kfs)), (kc, .inl (cZ, 14, .inl kfc)), (kd, .inl (cI, 6, .inl kfd))]) hP [6, 0, 1, 2, 3, 7, 4, 8, 5] rfl
              have hD9 := hD.sub (ws' := [(j, .inr (1, [.ref k, .ref d, .ref jd, .ref jb, .ref jw, .ref jl, .int jbad, .int jwhy, .int jleft, .int jday, .int jwarmDay, .int jbagDays, .int jburnt, .int jboiled])), (jb, .inl (cI, 60, .inl jfb)), (d, .inr (4, [.ref ds, .int dsz, .ref dk, .ref dw, .int dac, .int dwr])), (dk, .inl (cI, 60, .inl dfk)), (dw, .inl (cI, 60, .inl dfw)), (k, .inr (0, [.ref ks, .ref kw, .ref kc, .int kwd, .int kbg, .int kme, .ref kq, .ref km, .ref kd, .int ksi, .ref ka, .ref kk])), (ks, .inl (cI, 5, .inl kfs)), (kc, .inl (cZ, 14, .inl kfc)), (kd, .inl (cI, 6, .inl kfd))]) [6, 0, 1, 2, 3, 7, 4, 8, 5] (by decide) rfl
              exact W.iret (v := 0) hx hb hr (fun t ht hW => ⟨⟨0, (), rfl, (by have z8 : (0 : Int32).toInt = 0 := rfl; omega), by rw [ht]; exact hP9, hD9⟩, hS.F ht⟩) hS.2.2 dX1_hindrance_145
            · have t11 : jleft.toInt < (jfb i0.toNatClampNeg).toInt := (tnle c11)
              refine lv_iconst (v := 4) hx hb dX1_hindrance_140 (by decide) ?_
              refine lv_goto (tgt := 145) hx hb dX1_hindrance_141 (by decide) ?_
              have hP9 := mx_subP (wc := [(j, .inr (1, [.ref k, .ref d, .ref jd, .ref jb, .ref jw, .ref jl, .int jbad, .int jwhy, .int jleft, .int jday, .int jwarmDay, .int jbagDays, .int jburnt, .int jboiled])), (jb, .inl (cI, 60, .inl jfb)), (d, .inr (4, [.ref ds, .int dsz, .ref dk, .ref dw, .int dac, .int dwr])), (dk, .inl (cI, 60, .inl dfk)), (dw, .inl (cI, 60, .inl dfw)), (k, .inr (0, [.ref ks, .ref kw, .ref kc, .int kwd, .int kbg, .int kme, .ref kq, .ref km, .ref kd, .int ksi, .ref ka, .ref kk])), (ks, .inl (cI, 5, .inl kfs)), (kc, .inl (cZ, 14, .inl kfc)), (kd, .inl (cI, 6, .inl kfd))]) hP [6, 0, 1, 2, 3, 7, 4, 8, 5] rfl
              have hD9 := hD.sub (ws' := [(j, .inr (1, [.ref k, .ref d, .ref jd, .ref jb, .ref jw, .ref jl, .int jbad, .int jwhy, .int jleft, .int jday, .int jwarmDay, .int jbagDays, .int jburnt, .int jboiled])), (jb, .inl (cI, 60, .inl jfb)), (d, .inr (4, [.ref ds, .int dsz, .ref dk, .ref dw, .int dac, .int dwr])), (dk, .inl (cI, 60, .inl dfk)), (dw, .inl (cI, 60, .inl dfw)), (k, .inr (0, [.ref ks, .ref kw, .ref kc, .int kwd, .int kbg, .int kme, .ref kq, .ref km, .ref kd, .int ksi, .ref ka, .ref kk])), (ks, .inl (cI, 5, .inl kfs)), (kc, .inl (cZ, 14, .inl kfc)), (kd, .inl (cI, 6, .inl kfd))]) [6, 0, 1, 2, 3, 7, 4, 8, 5] (by decide) rfl
              exact W.iret (v := 4) hx hb hr (fun t ht hW => ⟨⟨4, (), rfl, (by have z8 : (4 : Int32).toInt = 4 := rfl; omega), by rw [ht]; exact hP9, hD9⟩, hS.F ht⟩) hS.2.2 dX1_hindrance_145
        · have t8 : r7.toInt ≠ (0 : Int) := (tne c8)
          refine lv_aload_n hx hb dX1_hindrance_107 rfl (lv_at hl 1 rfl) ?_
          refine va_get (D := (dC, dI)) (ci := 1) (v := .ref d) (C := RX1) (T := TX1) (N := 14) hx hb hts hin1 hown hK hP 6 rfl rfl 1 (by decide) hw0 (fun _ h9 => h9) rfl dX1_hindrance_108 ?_
          refine va_get (D := (dC, dI)) (ci := 4) (v := .ref dw) (C := RX4) (T := TX4) (N := 6) hx hb hts hin4 hown hK hP 1 rfl rfl 3 (by decide) hw5 (fun _ h9 => h9) rfl dX1_hindrance_111 ?_
          refine lv_iload_n hx hb dX1_hindrance_114 rfl (lv_at hl 2 rfl) ?_
          refine va_iald hx hb hK hP 3 0 rfl rfl (vin (by omega) (by omega)) dX1_hindrance_115 ?_
          refine lv_topi (fun y12 e12 => ?_)
          obtain rfl : dfw i0.toNatClampNeg = y12 := e12.symm
          refine lv_iconst (v := 4) hx hb dX1_hindrance_116 (by decide) ?_
          refine lv_iand hx hb dX1_hindrance_117 ?_
          refine lv_topi (fun x13 e13 => ?_)
          refine lv_if_eq (tgt := 123) hx hb dX1_hindrance_118 (by decide) (fun c14 => ?_) (fun c14 => ?_)
          · have t14 : x13.toInt = (0 : Int) := (teq c14)
            refine lv_iload_n hx hb dX1_hindrance_123 rfl (lv_at hl 3 rfl) ?_
            refine lv_if_ne (tgt := 144) hx hb dX1_hindrance_124 (by decide) (fun c15 => ?_) (fun c15 => ?_)
            · have t15 : i1.toInt ≠ (0 : Int) := (tne c15)
              refine lv_iconst (v := 0) hx hb dX1_hindrance_144 (by decide) ?_
              have hP9 := mx_subP (wc := [(j, .inr (1, [.ref k, .ref d, .ref jd, .ref jb, .ref jw, .ref jl, .int jbad, .int jwhy, .int jleft, .int jday, .int jwarmDay, .int jbagDays, .int jburnt, .int jboiled])), (jb, .inl (cI, 60, .inl jfb)), (d, .inr (4, [.ref ds, .int dsz, .ref dk, .ref dw, .int dac, .int dwr])), (dk, .inl (cI, 60, .inl dfk)), (dw, .inl (cI, 60, .inl dfw)), (k, .inr (0, [.ref ks, .ref kw, .ref kc, .int kwd, .int kbg, .int kme, .ref kq, .ref km, .ref kd, .int ksi, .ref ka, .ref kk])), (ks, .inl (cI, 5, .inl kfs)), (kc, .inl (cZ, 14, .inl kfc)), (kd, .inl (cI, 6, .inl kfd))]) hP [6, 0, 1, 2, 3, 7, 4, 8, 5] rfl
              have hD9 := hD.sub (ws' := [(j, .inr (1, [.ref k, .ref d, .ref jd, .ref jb, .ref jw, .ref jl, .int jbad, .int jwhy, .int jleft, .int jday, .int jwarmDay, .int jbagDays, .int jburnt, .int jboiled])), (jb, .inl (cI, 60, .inl jfb)), (d, .inr (4, [.ref ds, .int dsz, .ref dk, .ref dw, .int dac, .int dwr])), (dk, .inl (cI, 60, .inl dfk)), (dw, .inl (cI, 60, .inl dfw)), (k, .inr (0, [.ref ks, .ref kw, .ref kc, .int kwd, .int kbg, .int kme, .ref kq, .ref km, .ref kd, .int ksi, .ref ka, .ref kk])), (ks, .inl (cI, 5, .inl kfs)), (kc, .inl (cZ, 14, .inl kfc)), (kd, .inl (cI, 6, .inl kfd))]) [6, 0, 1, 2, 3, 7, 4, 8, 5] (by decide) rfl
              exact W.iret (v := 0) hx hb hr (fun t ht hW => ⟨⟨0, (), rfl, (by have z8 : (0 : Int32).toInt = 0 := rfl; omega), by rw [ht]; exact hP9, hD9⟩, hS.F ht⟩) hS.2.2 dX1_hindrance_145
            · have t15 : i1.toInt = (0 : Int) := (teq c15)
              refine lv_aload_n hx hb dX1_hindrance_127 rfl (lv_at hl 1 rfl) ?_
              refine va_get (D := (dC, dI)) (ci := 1) (v := .ref jb) (C := RX1) (T := TX1) (N := 14) hx hb hts hin1 hown hK hP 6 rfl rfl 3 (by decide) hw3 (fun _ h9 => h9) rfl dX1_hindrance_128 ?_
              refine lv_iload_n hx hb dX1_hindrance_131 rfl (lv_at hl 2 rfl) ?_
              refine va_iald hx hb hK hP 0 0 rfl rfl (vin (by omega) (by omega)) dX1_hindrance_132 ?_
              refine lv_topi (fun y16 e16 => ?_)
              obtain rfl : jfb i0.toNatClampNeg = y16 := e16.symm
              refine lv_aload_n hx hb dX1_hindrance_133 rfl (lv_at hl 1 rfl) ?_
              refine va_get (D := (dC, dI)) (ci := 1) (v := .int jleft) (C := RX1) (T := TX1) (N := 14) hx hb hts hin1 hown hK hP 6 rfl rfl 8 (by decide) hw4 (fun _ h9 => h9) rfl dX1_hindrance_134 ?_
              refine lv_icmp_le (tgt := 144) hx hb dX1_hindrance_137 (by decide) (fun c17 => ?_) (fun c17 => ?_)
              · have t17 : (jfb i0.toNatClampNeg).toInt ≤ jleft.toInt := (tle c17)
                refine lv_iconst (v := 0) hx hb dX1_hindrance_144 (by decide) ?_
                have hP9 := mx_subP (wc := [(j, .inr (1, [.ref k, .ref d, .ref jd, .ref jb, .ref jw, .ref jl, .int jbad, .int jwhy, .int jleft, .int jday, .int jwarmDay, .int jbagDays, .int jburnt, .int jboiled])), (jb, .inl (cI, 60, .inl jfb)), (d, .inr (4, [.ref ds, .int dsz, .ref dk, .ref dw, .int dac, .int dwr])), (dk, .inl (cI, 60, .inl dfk)), (dw, .inl (cI, 60, .inl dfw)), (k, .inr (0, [.ref ks, .ref kw, .ref kc, .int kwd, .int kbg, .int kme, .ref kq, .ref km, .ref kd, .int ksi, .ref ka, .ref kk])), (ks, .inl (cI, 5, .inl kfs)), (kc, .inl (cZ, 14, .inl kfc)), (kd, .inl (cI, 6, .inl kfd))]) hP [6, 0, 1, 2, 3, 7, 4, 8, 5] rfl
                have hD9 := hD.sub (ws' := [(j, .inr (1, [.ref k, .ref d, .ref jd, .ref jb, .ref jw, .ref jl, .int jbad, .int jwhy, .int jleft, .int jday, .int jwarmDay, .int jbagDays, .int jburnt, .int jboiled])), (jb, .inl (cI, 60, .inl jfb)), (d, .inr (4, [.ref ds, .int dsz, .ref dk, .ref dw, .int dac, .int dwr])), (dk, .inl (cI, 60, .inl dfk)), (dw, .inl (cI, 60, .inl dfw)), (k, .inr (0, [.ref ks, .ref kw, .ref kc, .int kwd, .int kbg, .int kme, .ref kq, .ref km, .ref kd, .int ksi, .ref ka, .ref kk])), (ks, .inl (cI, 5, .inl kfs)), (kc, .inl (cZ, 14, .inl kfc)), (kd, .inl (cI, 6, .inl kfd))]) [6, 0, 1, 2, 3, 7, 4, 8, 5] (by decide) rfl
                exact W.iret (v := 0) hx hb hr (fun t ht hW => ⟨⟨0, (), rfl, (by have z8 : (0 : Int32).toInt = 0 := rfl; omega), by rw [ht]; exact hP9, hD9⟩, hS.F ht⟩) hS.2.2 dX1_hindrance_145
              · have t17 : jleft.toInt < (jfb i0.toNatClampNeg).toInt := (tnle c17)
                refine lv_iconst (v := 4) hx hb dX1_hindrance_140 (by decide) ?_
                refine lv_goto (tgt := 145) hx hb dX1_hindrance_141 (by decide) ?_
                have hP9 := mx_subP (wc := [(j, .inr (1, [.ref k, .ref d, .ref jd, .ref jb, .ref jw, .ref jl, .int jbad, .int jwhy, .int jleft, .int jday, .int jwarmDay, .int jbagDays, .int jburnt, .int jboiled])), (jb, .inl (cI, 60, .inl jfb)), (d, .inr (4, [.ref ds, .int dsz, .ref dk, .ref dw, .int dac, .int dwr])), (dk, .inl (cI, 60, .inl dfk)), (dw, .inl (cI, 60, .inl dfw)), (k, .inr (0, [.ref ks, .ref kw, .ref kc, .int kwd, .int kbg, .int kme, .ref kq, .ref km, .ref kd, .int ksi, .ref ka, .ref kk])), (ks, .inl (cI, 5, .inl kfs)), (kc, .inl (cZ, 14, .inl kfc)), (kd, .inl (cI, 6, .inl kfd))]) hP [6, 0, 1, 2, 3, 7, 4, 8, 5] rfl
                have hD9 := hD.sub (ws' := [(j, .inr (1, [.ref k, .ref d, .ref jd, .ref jb, .ref jw, .ref jl, .int jbad, .int jwhy, .int jleft, .int jday, .int jwarmDay, .int jbagDays, .int jburnt, .int jboiled])), (jb, .inl (cI, 60, .inl jfb)), (d, .inr (4, [.ref ds, .int dsz, .ref dk, .ref dw, .int dac, .int dwr])), (dk, .inl (cI, 60, .inl dfk)), (dw, .inl (cI, 60, .inl dfw)), (k, .inr (0, [.ref ks, .ref kw, .ref kc, .int kwd, .int kbg, .int kme, .ref kq, .ref km, .ref kd, .int ksi, .ref ka, .ref kk])), (ks, .inl (cI, 5, .inl kfs)), (kc, .inl (cZ, 14, .inl kfc)), (kd, .inl (cI, 6, .inl kfd))]) [6, 0, 1, 2, 3, 7, 4, 8, 5] (by decide) rfl
                exact W.iret (v := 4) hx hb hr (fun t ht hW => ⟨⟨4, (), rfl, (by have z8 : (4 : Int32).toInt = 4 := rfl; omega), by rw [ht]; exact hP9, hD9⟩, hS.F ht⟩) hS.2.2 dX1_hindrance_145
          · have t14 : x13.toInt ≠ (0 : Int) := (tne c14)
            refine lv_iconst (v := 3) hx hb dX1_hindrance_121 (by decide) ?_
            have hP9 := mx_subP (wc := [(j, .inr (1, [.ref k, .ref d, .ref jd, .ref jb, .ref jw, .ref jl, .int jbad, .int jwhy, .int jleft, .int jday, .int jwarmDay, .int jbagDays, .int jburnt, .int jboiled])), (jb, .inl (cI, 60, .inl jfb)), (d, .inr (4, [.ref ds, .int dsz, .ref dk, .ref dw, .int dac, .int dwr])), (dk, .inl (cI, 60, .inl dfk)), (dw, .inl (cI, 60, .inl dfw)), (k, .inr (0, [.ref ks, .ref kw, .ref kc, .int kwd, .int kbg, .int kme, .ref kq, .ref km, .ref kd, .int ksi, .ref ka, .ref kk])), (ks, .inl (cI, 5, .inl kfs)), (kc, .inl (cZ, 14, .inl kfc)), (kd, .inl (cI, 6, .inl kfd))]) hP [6, 0, 1, 2, 3, 7, 4, 8, 5] rfl
            have hD9 := hD.sub (ws' := [(j, .inr (1, [.ref k, .ref d, .ref jd, .ref jb, .ref jw, .ref jl, .int jbad, .int jwhy, .int jleft, .int jday, .int jwarmDay, .int jbagDays, .int jburnt, .int jboiled])), (jb, .inl (cI, 60, .inl jfb)), (d, .inr (4, [.ref ds, .int dsz, .ref dk, .ref dw, .int dac, .int dwr])), (dk, .inl (cI, 60, .inl dfk)), (dw, .inl (cI, 60, .inl dfw)), (k, .inr (0, [.ref ks, .ref kw, .ref kc, .int kwd, .int kbg, .int kme, .ref kq, .ref km, .ref kd, .int ksi, .ref ka, .ref kk])), (ks, .inl (cI, 5, .inl kfs)), (kc, .inl (cZ, 14, .inl kfc)), (kd, .inl (cI, 6, .inl kfd))]) [6, 0, 1, 2, 3, 7, 4, 8, 5] (by decide) rfl
            exact W.iret (v := 3) hx hb hr (fun t ht hW => ⟨⟨3, (), rfl, (by have z8 : (3 : Int32).toInt = 3 := rfl; omega), by rw [ht]; exact hP9, hD9⟩, hS.F ht⟩) hS.2.2 dX1_hindrance_122
      · have t6 : r5.toInt = (0 : Int) := (teq c6)
        refine lv_iconst (v := 2) hx hb dX1_hindrance_98 (by decide) ?_
        have hP9 := mx_subP (wc := [(j, .inr (1, [.ref k, .ref d, .ref jd, .ref jb, .ref jw, .ref jl, .int jbad, .int jwhy, .int jleft, .int jday, .int jwarmDay, .int jbagDays, .int jburnt, .int jboiled])), (jb, .inl (cI, 60, .inl jfb)), (d, .inr (4, [.ref ds, .int dsz, .ref dk, .ref dw, .int dac, .int dwr])), (dk, .inl (cI, 60, .inl dfk)), (dw, .inl (cI, 60, .inl dfw)), (k, .inr (0, [.ref ks, .ref kw, .ref kc, .int kwd, .int kbg, .int kme, .ref kq, .ref km, .ref kd, .int ksi, .ref ka, .ref kk])), (ks, .inl (cI, 5, .inl kfs)), (kc, .inl (cZ, 14, .inl kfc)), (kd, .inl (cI, 6, .inl kfd))]) hP [0, 1, 2, 3, 4, 6, 7, 5, 8] rfl
        have hD9 := hD.sub (ws' := [(j, .inr (1, [.ref k, .ref d, .ref jd, .ref jb, .ref jw, .ref jl, .int jbad, .int jwhy, .int jleft, .int jday, .int jwarmDay, .int jbagDays, .int jburnt, .int jboiled])), (jb, .inl (cI, 60, .inl jfb)), (d, .inr (4, [.ref ds, .int dsz, .ref dk, .ref dw, .int dac, .int dwr])), (dk, .inl (cI, 60, .inl dfk)), (dw, .inl (cI, 60, .inl dfw)), (k, .inr (0, [.ref ks, .ref kw, .ref kc, .int kwd, .int kbg, .int kme, .ref kq, .ref km, .ref kd, .int ksi, .ref ka, .ref kk])), (ks, .inl (cI, 5, .inl kfs)), (kc, .inl (cZ, 14, .inl kfc)), (kd, .inl (cI, 6, .inl kfd))]) [0, 1, 2, 3, 4, 6, 7, 5, 8] (by decide) rfl
        exact W.iret (v := 2) hx hb hr (fun t ht hW => ⟨⟨2, (), rfl, (by have z8 : (2 : Int32).toInt = 2 := rfl; omega), by rw [ht]; exact hP9, hD9⟩, hS.F ht⟩) hS.2.2 dX1_hindrance_99
    · skip
      refine lv_if_ne (tgt := 87) hx hb dX1_hindrance_82 (by decide) (fun c18 => absurd c18 (by decide)) (fun c18 => ?_)
      refine lv_iconst (v := 1) hx hb dX1_hindrance_85 (by decide) ?_
      have hP9 := mx_subP (wc := [(j, .inr (1, [.ref k, .ref d, .ref jd, .ref jb, .ref jw, .ref jl, .int jbad, .int jwhy, .int jleft, .int jday, .int jwarmDay, .int jbagDays, .int jburnt, .int jboiled])), (jb, .inl (cI, 60, .inl jfb)), (d, .inr (4, [.ref ds, .int dsz, .ref dk, .ref dw, .int dac, .int dwr])), (dk, .inl (cI, 60, .inl dfk)), (dw, .inl (cI, 60, .inl dfw)), (k, .inr (0, [.ref ks, .ref kw, .ref kc, .int kwd, .int kbg, .int kme, .ref kq, .ref km, .ref kd, .int ksi, .ref ka, .ref kk])), (ks, .inl (cI, 5, .inl kfs)), (kc, .inl (cZ, 14, .inl kfc)), (kd, .inl (cI, 6, .inl kfd))]) hP [0, 1, 2, 3, 4, 8, 5, 6, 7] rfl
      have hD9 := hD.sub (ws' := [(j, .inr (1, [.ref k, .ref d, .ref jd, .ref jb, .ref jw, .ref jl, .int jbad, .int jwhy, .int jleft, .int jday, .int jwarmDay, .int jbagDays, .int jburnt, .int jboiled])), (jb, .inl (cI, 60, .inl jfb)), (d, .inr (4, [.ref ds, .int dsz, .ref dk, .ref dw, .int dac, .int dwr])), (dk, .inl (cI, 60, .inl dfk)), (dw, .inl (cI, 60, .inl dfw)), (k, .inr (0, [.ref ks, .ref kw, .ref kc, .int kwd, .int kbg, .int kme, .ref kq, .ref km, .ref kd, .int ksi, .ref ka, .ref kk])), (ks, .inl (cI, 5, .inl kfs)), (kc, .inl (cZ, 14, .inl kfc)), (kd, .inl (cI, 6, .inl kfd))]) [0, 1, 2, 3, 4, 8, 5, 6, 7] (by decide) rfl
      exact W.iret (v := 1) hx hb hr (fun t ht hW => ⟨⟨1, (), rfl, (by have z8 : (1 : Int32).toInt = 1 := rfl; omega), by rw [ht]; exact hP9, hD9⟩, hS.F ht⟩) hS.2.2 dX1_hindrance_86
  · refine lv_tableIn (tgt := 36) (off := 25) hx hb dX1_hindrance_11 (by omega) (by omega) (by rw [h2]; decide) (by decide) ?_
    refine lv_aload_n hx hb dX1_hindrance_36 rfl (lv_at hl 1 rfl) ?_
    refine va_get (D := (dC, dI)) (ci := 1) (v := .int jday) (C := RX1) (T := TX1) (N := 14) hx hb hts hin1 hown hK hP 0 rfl rfl 9 (by decide) hw6 (fun _ h9 => h9) rfl dX1_hindrance_37 ?_
    refine lv_bipush (v := 13) hx hb dX1_hindrance_40 (by decide) ?_
    refine lv_icmp_ne (tgt := 50) hx hb dX1_hindrance_42 (by decide) (fun c19 => ?_) (fun c19 => ?_)
    · have t19 : jday.toInt ≠ (13 : Int) := (tne c19)
      refine lv_iconst (v := 0) hx hb dX1_hindrance_50 (by decide) ?_
      have hP9 := mx_subP (wc := [(j, .inr (1, [.ref k, .ref d, .ref jd, .ref jb, .ref jw, .ref jl, .int jbad, .int jwhy, .int jleft, .int jday, .int jwarmDay, .int jbagDays, .int jburnt, .int jboiled])), (jb, .inl (cI, 60, .inl jfb)), (d, .inr (4, [.ref ds, .int dsz, .ref dk, .ref dw, .int dac, .int dwr])), (dk, .inl (cI, 60, .inl dfk)), (dw, .inl (cI, 60, .inl dfw)), (k, .inr (0, [.ref ks, .ref kw, .ref kc, .int kwd, .int kbg, .int kme, .ref kq, .ref km, .ref kd, .int ksi, .ref ka, .ref kk])), (ks, .inl (cI, 5, .inl kfs)), (kc, .inl (cZ, 14, .inl kfc)), (kd, .inl (cI, 6, .inl kfd))]) hP [0, 1, 2, 3, 4, 5, 6, 7, 8] rfl
      have hD9 := hD.sub (ws' := [(j, .inr (1, [.ref k, .ref d, .ref jd, .ref jb, .ref jw, .ref jl, .int jbad, .int jwhy, .int jleft, .int jday, .int jwarmDay, .int jbagDays, .int jburnt, .int jboiled])), (jb, .inl (cI, 60, .inl jfb)), (d, .inr (4, [.ref ds, .int dsz, .ref dk, .ref dw, .int dac, .int dwr])), (dk, .inl (cI, 60, .inl dfk)), (dw, .inl (cI, 60, .inl dfw)), (k, .inr (0, [.ref ks, .ref kw, .ref kc, .int kwd, .int kbg, .int kme, .ref kq, .ref km, .ref kd, .int ksi, .ref ka, .ref kk])), (ks, .inl (cI, 5, .inl kfs)), (kc, .inl (cZ, 14, .inl kfc)), (kd, .inl (cI, 6, .inl kfd))]) [0, 1, 2, 3, 4, 5, 6, 7, 8] (by decide) rfl
      exact W.iret (v := 0) hx hb hr (fun t ht hW => ⟨⟨0, (), rfl, (by have z8 : (0 : Int32).toInt = 0 := rfl; omega), by rw [ht]; exact hP9, hD9⟩, hS.F ht⟩) hS.2.2 dX1_hindrance_51
    · have t19 : jday.toInt = (13 : Int) := (teq c19)
      refine lv_bipush (v := 6) hx hb dX1_hindrance_45 (by decide) ?_
      refine lv_goto (tgt := 51) hx hb dX1_hindrance_47 (by decide) ?_
      have hP9 := mx_subP (wc := [(j, .inr (1, [.ref k, .ref d, .ref jd, .ref jb, .ref jw, .ref jl, .int jbad, .int jwhy, .int jleft, .int jday, .int jwarmDay, .int jbagDays, .int jburnt, .int jboiled])), (jb, .inl (cI, 60, .inl jfb)), (d, .inr (4, [.ref ds, .int dsz, .ref dk, .ref dw, .int dac, .int dwr])), (dk, .inl (cI, 60, .inl dfk)), (dw, .inl (cI, 60, .inl dfw)), (k, .inr (0, [.ref ks, .ref kw, .ref kc, .int kwd, .int kbg, .int kme, .ref kq, .ref km, .ref kd, .int ksi, .ref ka, .ref kk])), (ks, .inl (cI, 5, .inl kfs)), (kc, .inl (cZ, 14, .inl kfc)), (kd, .inl (cI, 6, .inl kfd))]) hP [0, 1, 2, 3, 4, 5, 6, 7, 8] rfl
      have hD9 := hD.sub (ws' := [(j, .inr (1, [.ref k, .ref d, .ref jd, .ref jb, .ref jw, .ref jl, .int jbad, .int jwhy, .int jleft, .int jday, .int jwarmDay, .int jbagDays, .int jburnt, .int jboiled])), (jb, .inl (cI, 60, .inl jfb)), (d, .inr (4, [.ref ds, .int dsz, .ref dk, .ref dw, .int dac, .int dwr])), (dk, .inl (cI, 60, .inl dfk)), (dw, .inl (cI, 60, .inl dfw)), (k, .inr (0, [.ref ks, .ref kw, .ref kc, .int kwd, .int kbg, .int kme, .ref kq, .ref km, .ref kd, .int ksi, .ref ka, .ref kk])), (ks, .inl (cI, 5, .inl kfs)), (kc, .inl (cZ, 14, .inl kfc)), (kd, .inl (cI, 6, .inl kfd))]) [0, 1, 2, 3, 4, 5, 6, 7, 8] (by decide) rfl
      exact W.iret (v := 6) hx hb hr (fun t ht hW => ⟨⟨6, (), rfl, (by have z8 : (6 : Int32).toInt = 6 := rfl; omega), by rw [ht]; exact hP9, hD9⟩, hS.F ht⟩) hS.2.2 dX1_hindrance_51
  · refine lv_tableIn (tgt := 52) (off := 41) hx hb dX1_hindrance_11 (by omega) (by omega) (by rw [h2]; decide) (by decide) ?_
    refine lv_iconst (v := 0) hx hb dX1_hindrance_52 (by decide) ?_
    have hP9 := mx_subP (wc := [(j, .inr (1, [.ref k, .ref d, .ref jd, .ref jb, .ref jw, .ref jl, .int jbad, .int jwhy, .int jleft, .int jday, .int jwarmDay, .int jbagDays, .int jburnt, .int jboiled])), (jb, .inl (cI, 60, .inl jfb)), (d, .inr (4, [.ref ds, .int dsz, .ref dk, .ref dw, .int dac, .int dwr])), (dk, .inl (cI, 60, .inl dfk)), (dw, .inl (cI, 60, .inl dfw)), (k, .inr (0, [.ref ks, .ref kw, .ref kc, .int kwd, .int kbg, .int kme, .ref kq, .ref km, .ref kd, .int ksi, .ref ka, .ref kk])), (ks, .inl (cI, 5, .inl kfs)), (kc, .inl (cZ, 14, .inl kfc)), (kd, .inl (cI, 6, .inl kfd))]) hP [0, 1, 2, 3, 4, 5, 6, 7, 8] rfl
    have hD9 := hD.sub (ws' := [(j, .inr (1, [.ref k, .ref d, .ref jd, .ref jb, .ref jw, .ref jl, .int jbad, .int jwhy, .int jleft, .int jday, .int jwarmDay, .int jbagDays, .int jburnt, .int jboiled])), (jb, .inl (cI, 60, .inl jfb)), (d, .inr (4, [.ref ds, .int dsz, .ref dk, .ref dw, .int dac, .int dwr])), (dk, .inl (cI, 60, .inl dfk)), (dw, .inl (cI, 60, .inl dfw)), (k, .inr (0, [.ref ks, .ref kw, .ref kc, .int kwd, .int kbg, .int kme, .ref kq, .ref km, .ref kd, .int ksi, .ref ka, .ref kk])), (ks, .inl (cI, 5, .inl kfs)), (kc, .inl (cZ, 14, .inl kfc)), (kd, .inl (cI, 6, .inl kfd))]) [0, 1, 2, 3, 4, 5, 6, 7, 8] (by decide) rfl
    exact W.iret (v := 0) hx hb hr (fun t ht hW => ⟨⟨0, (), rfl, (by have z8 : (0 : Int32).toInt = 0 := rfl; omega), by rw [ht]; exact hP9, hD9⟩, hS.F ht⟩) hS.2.2 dX1_hindrance_53
  · refine lv_tableIn (tgt := 54) (off := 43) hx hb dX1_hindrance_11 (by omega) (by omega) (by rw [h2]; decide) (by decide) ?_
    refine lv_aload_n hx hb dX1_hindrance_54 rfl (lv_at hl 1 rfl) ?_
    refine va_get (D := (dC, dI)) (ci := 1) (v := .ref k) (C := RX1) (T := TX1) (N := 14) hx hb hts hin1 hown hK hP 0 rfl rfl 0 (by decide) hw2 (fun _ h9 => h9) rfl dX1_hindrance_55 ?_
    refine lv_aload_n hx hb dX1_hindrance_58 rfl (lv_at hl 1 rfl) ?_
    refine va_get (D := (dC, dI)) (ci := 1) (v := .int jday) (C := RX1) (T := TX1) (N := 14) hx hb hts hin1 hown hK hP 0 rfl rfl 9 (by decide) hw6 (fun _ h9 => h9) rfl dX1_hindrance_59 ?_
    refine mx_i (wr := [(j, .inr (1, [.ref k, .ref d, .ref jd, .ref jb, .ref jw, .ref jl, .int jbad, .int jwhy, .int jleft, .int jday, .int jwarmDay, .int jbagDays, .int jburnt, .int jboiled])), (jb, .inl (cI, 60, .inl jfb)), (d, .inr (4, [.ref ds, .int dsz, .ref dk, .ref dw, .int dac, .int dwr])), (dk, .inl (cI, 60, .inl dfk)), (dw, .inl (cI, 60, .inl dfw)), (kc, .inl (cZ, 14, .inl kfc)), (kd, .inl (cI, 6, .inl kfd))]) (va_runV (As := [.int jday]) (rest := []) ⟨hx, hb, hml, hown, hts⟩ (c_X0_isShopShut l dC dI cI cZ cK tS aK aV k jday ks kw kc kwd kbg kme kq km kd ksi ka kk kfs s.heap.size (by first | omega | decide | assumption | trivial)) (cwV 1 hts (gw_v (fun _ h9 => List.mem_cons_of_mem _ h9) wm_405 wm_406 wm_407 wm_14 wm_408) rfl rfl rfl (by decide +kernel) ⟨Nat.le_of_ble_eq_true rfl, Nat.le_of_ble_eq_true rfl⟩) (mx_preV (C := RX0) (T := TX0) (N := 12) (ci := 0) hKx hP hD hS hA [5, 6] (by decide) rfl rfl rfl) rfl rfl hl.1 rfl (lv_room (Nat.le_of_ble_eq_true rfl)) dX1_hindrance_62 ⟨Nat.le_of_ble_eq_true rfl, Nat.le_of_ble_eq_true rfl⟩) hP hD hS hA [5, 6] [0, 1, 2, 3, 4, 7, 8] rfl rfl (by decide) (by decide) (fun r20 u20 H locs hq20 hP hD hS => ?_)
    replace hP : va_P (dC, dI) vwCl [(j, .inr (1, [.ref k, .ref d, .ref jd, .ref jb, .ref jw, .ref jl, .int jbad, .int jwhy, .int jleft, .int jday, .int jwarmDay, .int jbagDays, .int jburnt, .int jboiled])), (jb, .inl (cI, 60, .inl jfb)), (d, .inr (4, [.ref ds, .int dsz, .ref dk, .ref dw, .int dac, .int dwr])), (dk, .inl (cI, 60, .inl dfk)), (dw, .inl (cI, 60, .inl dfw)), (kc, .inl (cZ, 14, .inl kfc)), (kd, .inl (cI, 6, .inl kfd)), (k, .inr (0, [.ref ks, .ref kw, .ref kc, .int kwd, .int kbg, .int kme, .ref kq, .ref km, .ref kd, .int ksi, .ref ka, .ref kk])), (ks, .inl (cI, 5, .inl kfs))] H := hP
    replace hD : va_D A [(j, .inr (1, [.ref k, .ref d, .ref jd, .ref jb, .ref jw, .ref jl, .int jbad, .int jwhy, .int jleft, .int jday, .int jwarmDay, .int jbagDays, .int jburnt, .int jboiled])), (jb, .inl (cI, 60, .inl jfb)), (d, .inr (4, [.ref ds, .int dsz, .ref dk, .ref dw, .int dac, .int dwr])), (dk, .inl (cI, 60, .inl dfk)), (dw, .inl (cI, 60, .inl dfw)), (kc, .inl (cZ, 14, .inl kfc)), (kd, .inl (cI, 6, .inl kfd)), (k, .inr (0, [.ref ks, .ref kw, .ref kc, .int kwd, .int kbg, .int kme, .ref kq, .ref km, .ref kd, .int ksi, .ref ka, .ref kk])), (ks, .inl (cI, 5, .inl kfs))] := hD
    refine lv_if_eq (tgt := 72) hx hb dX1_hindrance_65 (by decide) (fun c21 => ?_) (fun c21 => ?_)
    · have t21 : r20.toInt = (0 : Int) := (teq c21)
      refine lv_iconst (v := 0) hx hb dX1_hindrance_72 (by decide) ?_
      have hP9 := mx_subP (wc := [(j, .inr (1, [.ref k, .ref d, .ref jd, .ref jb, .ref jw, .ref jl, .int jbad, .int jwhy, .int jleft, .int jday, .int jwarmDay, .int jbagDays, .int jburnt, .int jboiled])), (jb, .inl (cI, 60, .inl jfb)), (d, .inr (4, [.ref ds, .int dsz, .ref dk, .ref dw, .int dac, .int dwr])), (dk, .inl (cI, 60, .inl dfk)), (dw, .inl (cI, 60, .inl dfw)), (k, .inr (0, [.ref ks, .ref kw, .ref kc, .int kwd, .int kbg, .int kme, .ref kq, .ref km, .ref kd, .int ksi, .ref ka, .ref kk])), (ks, .inl (cI, 5, .inl kfs)), (kc, .inl (cZ, 14, .inl kfc)), (kd, .inl (cI, 6, .inl kfd))]) hP [0, 1, 2, 3, 4, 7, 8, 5, 6] rfl
      have hD9 := hD.sub (ws' := [(j, .inr (1, [.ref k, .ref d, .ref jd, .ref jb, .ref jw, .ref jl, .int jbad, .int jwhy, .int jleft, .int jday, .int jwarmDay, .int jbagDays, .int jburnt, .int jboiled])), (jb, .inl (cI, 60, .inl jfb)), (d, .inr (4, [.ref ds, .int dsz, .ref dk, .ref dw, .int dac, .int dwr])), (dk, .inl (cI, 60, .inl dfk)), (dw, .inl (cI, 60, .inl dfw)), (k, .inr (0, [.ref ks, .ref kw, .ref kc, .int kwd, .int kbg, .int kme, .ref kq, .ref km, .ref kd, .int ksi, .ref ka, .ref kk])), (ks, .inl (cI, 5, .inl kfs)), (kc, .inl (cZ, 14, .inl kfc)), (kd, .inl (cI, 6, .inl kfd))]) [0, 1, 2, 3, 4, 7, 8, 5, 6] (by decide) rfl
      exact W.iret (v := 0) hx hb hr (fun t ht hW => ⟨⟨0, (), rfl, (by have z8 : (0 : Int32).toInt = 0 := rfl; omega), by rw [ht]; exact hP9, hD9⟩, hS.F ht⟩) hS.2.2 dX1_hindrance_73
    · have t21 : r20.toInt ≠ (0 : Int) := (tne c21)
      refine lv_iconst (v := 5) hx hb dX1_hindrance_68 (by decide) ?_
      refine lv_goto (tgt := 73) hx hb dX1_hindrance_69 (by decide) ?_
      have hP9 := mx_subP (wc := [(j, .inr (1, [.ref k, .ref d, .ref jd, .ref jb, .ref jw, .ref jl, .int jbad, .int jwhy, .int jleft, .int jday, .int jwarmDay, .int jbagDays, .int jburnt, .int jboiled])), (jb, .inl (cI, 60, .inl jfb)), (d, .inr (4, [.ref ds, .int dsz, .ref dk, .ref dw, .int dac, .int dwr])), (dk, .inl (cI, 60, .inl dfk)), (dw, .inl (cI, 60, .inl dfw)), (k, .inr (0, [.ref ks, .ref kw, .ref kc, .int kwd, .int kbg, .int kme, .ref kq, .ref km, .ref kd, .int ksi, .ref ka, .ref kk])), (ks, .inl (cI, 5, .inl kfs)), (kc, .inl (cZ, 14, .inl kfc)), (kd, .inl (cI, 6, .inl kfd))]) hP [0, 1, 2, 3, 4, 7, 8, 5, 6] rfl
      have hD9 := hD.sub (ws' := [(j, .inr (1, [.ref k, .ref d, .ref jd, .ref jb, .ref jw, .ref jl, .int jbad, .int jwhy, .int jleft, .int jday, .int jwarmDay, .int jbagDays, .int jburnt, .int jboiled])), (jb, .inl (cI, 60, .inl jfb)), (d, .inr (4, [.ref ds, .int dsz, .ref dk, .ref dw, .int dac, .int dwr])), (dk, .inl (cI, 60, .inl dfk)), (dw, .inl (cI, 60, .inl dfw)), (k, .inr (0, [.ref ks, .ref kw, .ref kc, .int kwd, .int kbg, .int kme, .ref kq, .ref km, .ref kd, .int ksi, .ref ka, .ref kk])), (ks, .inl (cI, 5, .inl kfs)), (kc, .inl (cZ, 14, .inl kfc)), (kd, .inl (cI, 6, .inl kfd))]) [0, 1, 2, 3, 4, 7, 8, 5, 6] (by decide) rfl
      exact W.iret (v := 5) hx hb hr (fun t ht hW => ⟨⟨5, (), rfl, (by have z8 : (5 : Int32).toInt = 5 := rfl; omega), by rw [ht]; exact hP9, hD9⟩, hS.F ht⟩) hS.2.2 dX1_hindrance_73
set_option maxHeartbeats 4000000 in
set_option maxRecDepth 100000 in
theorem c_X1_carryOut (l : Launch) (dC : Nat → ClassId) (dI : Nat → Nat → Nat) (cI cZ cK : ClassId) (tS : Nat) (aK aV : Nat → Nat) (j : Nat) (i0 : Int32) (k : Nat) (d : Nat) (jd : Nat) (jb : Nat) (jw : Nat) (jl : Nat) (jbad : Int32) (jwhy : Int32) (jleft : Int32) (jday : Int32) (jwarmDay : Int32) (jbagDays : Int32) (jburnt : Int32) (jboiled : Int32) (jfb : Nat → Int32) (jfl : Nat → Int32) (ds : Nat) (dsz : Int32) (dk : Nat) (dw : Nat) (dac : Int32) (dwr : Int32) (dfk : Nat → Int32) (sz : Nat) (h_i0 : 0 ≤ i0.toInt ∧ i0.toInt ≤ 59) (h_jday : 0 ≤ jday.toInt ∧ jday.toInt ≤ 13) (hnt : (dfk i0.toNatClampNeg).toInt ≠ 6 ∨ jday.toInt < 13) : Cv l yX1_carryOut (wq yX1_carryOut cX1_carryOut 2 none) ({ frames := 1, cells := 0, slots := 0, locals := 21 }) dC dI cI cZ cK tS aK aV [.ref j, .int i0] sz [(j, .inr (1, [.ref k, .ref d, .ref jd, .ref jb, .ref jw, .ref jl, .int jbad, .int jwhy, .int jleft, .int jday, .int jwarmDay, .int jbagDays, .int jburnt, .int jboiled])), (jb, .inl (cI, 60, .inl jfb)), (jl, .inl (cI, 61, .inl jfl)), (d, .inr (4, [.ref ds, .int dsz, .ref dk, .ref dw, .int dac, .int dwr])), (dk, .inl (cI, 60, .inl dfk))] (fun (u : (Nat → Nat → Int32) × (Nat → Int32) × (Nat → Int64)) => (0 ≤ (u.2.1 5).toInt ∧ (u.2.1 5).toInt ≤ 13)) (fun u => [(j, .inr (1, [.ref k, .ref d, .ref jd, .ref jb, .ref jw, .ref jl, .int jbad, .int jwhy, .int (u.2.1 4), .int (u.2.1 5), .int (u.2.1 0), .int (u.2.1 1), .int (u.2.1 2), .int (u.2.1 3)])), (jb, .inl (cI, 60, .inl jfb)), (jl, .inl (cI, 61, .inl (u.1 0))), (d, .inr (4, [.ref ds, .int dsz, .ref dk, .ref dw, .int dac, .int dwr])), (dk, .inl (cI, 60, .inl dfk))]) := by
  refine Met.ofW (cc := cX1_carryOut) (maxL := 2) (ret := none) (by decide) rfl ?_
  intro p e s m args below meth c s₁ B hml hv
  obtain ⟨rfl, hsz, hP, hKx, hD0⟩ := hv
  have hx := B.exec
  have hb := B.bytes
  have hr := B.returns
  have hts := atoms_spec (ws := wq yX1_carryOut cX1_carryOut 2 none) B.pre
  have hown : s.vm.findClass RX1 = some m.cls := findClass_of_methodNamed B.named
  have hlocks := B.notSynchronized
  subst hsz
  have hD := hD0.self (sz := s.heap.size)
  generalize hAe : va_A [(j, .inr (1, [.ref k, .ref d, .ref jd, .ref jb, .ref jw, .ref jl, .int jbad, .int jwhy, .int jleft, .int jday, .int jwarmDay, .int jbagDays, .int jburnt, .int jboiled])), (jb, .inl (cI, 60, .inl jfb)), (jl, .inl (cI, 61, .inl jfl)), (d, .inr (4, [.ref ds, .int dsz, .ref dk, .ref dw, .int dac, .int dwr])), (dk, .inl (cI, 60, .inl dfk))] s.heap.size = A at hD hKx ⊢
  have hA : ∀ q : Nat, s.heap.size ≤ q → A q := fun q h => by rw [← hAe]; exact Or.inr h
  have hS : va_S A s.heap s.heap [] := va_S.rf
  have hP : va_P (dC, dI) vwCl [(j, .inr (1, [.ref k, .ref d, .ref jd, .ref jb, .ref jw, .ref jl, .int jbad, .int jwhy, .int jleft, .int jday, .int jwarmDay, .int jbagDays, .int jburnt, .int jboiled])), (jb, .inl (cI, 60, .inl jfb)), (jl, .inl (cI, 61, .inl jfl)), (d, .inr (4, [.ref ds, .int dsz, .ref dk, .ref dw, .int dac, .int dwr])), (dk, .inl (cI, 60, .inl dfk))] s.heap := hP
  have hl := lv_entry ([.ref j, .int i0]) (n := 2) (Nat.le_of_ble_eq_true rfl)
  rw [lg_entry_eq]
  generalize (lg_sl ([.ref j, .int i0]) ++ List.replicate (2 - (lg_sl ([.ref j, .int i0])).length) Slot.unset).toArray = ls at hl ⊢
  have hl : lv_has ls 2 [(0, .ref j), (1, .int i0)] := hl
  have hK := hKx.1
  have hin1 := fun w9 h9 => List.mem_cons_of_mem (Cond.code yX1_carryOut cX1_carryOut 2 none) (inlX1 w9 h9)
  have hin4 := fun w9 h9 => List.mem_cons_of_mem (Cond.code yX1_carryOut cX1_carryOut 2 none) (inlX4 w9 h9)
  have hw0 := hts (.fieldLink RX1 28 "OneCan$Course" "pad" "LOneCan$Pad;") (List.mem_cons_of_mem _ wm_73)
  have hw1 := hts (.fieldLink RX1 84 "OneCan$Pad" "kinds" "[I") (List.mem_cons_of_mem _ wm_376)
  have hw2 := hts (.fieldLink RX1 44 "OneCan$Course" "left" "I") (List.mem_cons_of_mem _ wm_363)
  have hw3 := hts (.fieldLink RX1 15 "OneCan$Course" "burns" "[I") (List.mem_cons_of_mem _ wm_69)
  have hw4 := hts (.fieldLink RX1 58 "OneCan$Course" "burnt" "I") (List.mem_cons_of_mem _ wm_369)
  have hw5 := hts (.fieldLink RX1 61 "OneCan$Course" "boiled" "I") (List.mem_cons_of_mem _ wm_370)
  have hw6 := hts (.fieldLink RX1 21 "OneCan$Course" "lefts" "[I") (List.mem_cons_of_mem _ wm_71)
  have hw7 := hts (.fieldLink RX1 57 "OneCan$Course" "bagDays" "I") (List.mem_cons_of_mem _ wm_368)
  have hw8 := hts (.fieldLink RX1 47 "OneCan$Course" "day" "I") (List.mem_cons_of_mem _ wm_364)
  have hw9 := hts (.fieldLink RX1 53 "OneCan$Course" "warmDay" "I") (List.mem_cons_of_mem _ wm_366)
  have hw10 := hts (.methodLink RX1 114 Lib.Math.min.name) (List.mem_cons_of_mem _ wm_426)
  have hw11 := hts (.static Lib.Math.min.name) (List.mem_cons_of_mem _ wm_275)
  have hw12 := hts (.initialized "java/lang/Math") (List.mem_cons_of_mem _ wm_272)
  have hw13 := hts (.code Lib.Math.min.name Lib.Math.min.code 2 (some .int)) (List.mem_cons_of_mem _ wm_276)
  refine lv_aload_n hx hb dX1_carryOut_0 rfl (lv_at hl 0 rfl) ?_
  refine va_get (D := (dC, dI)) (ci := 1) (v := .ref d) (C := RX1) (T := TX1) (N := 14) hx hb hts hin1 hown hK hP 0 rfl rfl 1 (by decide) hw0 (fun _ h9 => h9) rfl dX1_carryOut_1 ?_
  refine va_get (D := (dC, dI)) (ci := 4) (v := .ref dk) (C := RX4) (T := TX4) (N := 6) hx hb hts hin4 hown hK hP 3 rfl rfl 2 (by decide) hw1 (fun _ h9 => h9) rfl dX1_carryOut_4 ?_
  refine lv_iload_n hx hb dX1_carryOut_7 rfl (lv_at hl 1 rfl) ?_
  refine va_iald hx hb hK hP 4 0 rfl rfl (vin (by omega) (by omega)) dX1_carryOut_8 ?_
  refine lv_topi (fun y1 e1 => ?_)
  obtain rfl : dfk i0.toNatClampNeg = y1 := e1.symm
  rcases (show ((dfk i0.toNatClampNeg).toInt < 6 ∨ 8 < (dfk i0.toNatClampNeg).toInt) ∨ (dfk i0.toNatClampNeg).toInt = 6 ∨ (dfk i0.toNatClampNeg).toInt = 7 ∨ (dfk i0.toNatClampNeg).toInt = 8 by omega) with h2 | h2 | h2 | h2
  · refine lv_tableOut (tgt := 123) hx hb dX1_carryOut_9 h2 (by decide) ?_
    refine lv_aload_n hx hb dX1_carryOut_123 rfl (lv_at hl 0 rfl) ?_
    refine lv_dup hx hb dX1_carryOut_124 rfl ?_
    refine va_get (D := (dC, dI)) (ci := 1) (v := .int jleft) (C := RX1) (T := TX1) (N := 14) hx hb hts hin1 hown hK hP 0 rfl rfl 8 (by decide) hw2 (fun _ h9 => h9) rfl dX1_carryOut_125 ?_
    refine lv_aload_n hx hb dX1_carryOut_128 rfl (lv_at hl 0 rfl) ?_
    refine va_get (D := (dC, dI)) (ci := 1) (v := .ref jb) (C := RX1) (T := TX1) (N := 14) hx hb hts hin1 hown hK hP 0 rfl rfl 3 (by decide) hw3 (fun _ h9 => h9) rfl dX1_carryOut_129 ?_
    refine lv_iload_n hx hb dX1_carryOut_132 rfl (lv_at hl 1 rfl) ?_
    refine va_iald hx hb hK hP 1 0 rfl rfl (vin (by omega) (by omega)) dX1_carryOut_133 ?_
    refine lv_topi (fun y3 e3 => ?_)
    obtain rfl : jfb i0.toNatClampNeg = y3 := e3.symm
    refine lv_isub hx hb dX1_carryOut_134 ?_
    refine lv_topi (fun x4 e4 => ?_)
    refine va_put (D := (dC, dI)) (ci := 1) (v := .int x4) (ty := .int) (C := RX1) (T := TX1) (N := 14) hx hb hts hin1 tyX1 tyX1_ok nmX1 hown hK hP hD hS 0 rfl rfl 8 (by decide) hw2 (fun _ h9 => h9) rfl (by decide +kernel) rfl rfl (Nat.le_of_ble_eq_true rfl) dX1_carryOut_135 (fun H locs hP hD hS => ?_)
    replace hP : va_P (dC, dI) vwCl [(j, .inr (1, [.ref k, .ref d, .ref jd, .ref jb, .ref jw, .ref jl, .int jbad, .int jwhy, .int x4, .int jday, .int jwarmDay, .int jbagDays, .int jburnt, .int jboiled])), (jb, .inl (cI, 60, .inl jfb)), (jl, .inl (cI, 61, .inl jfl)), (d, .inr (4, [.ref ds, .int dsz, .ref dk, .ref dw, .int dac, .int dwr])), (dk, .inl (cI, 60, .inl dfk))] H := hP
    replace hD : va_D A [(j, .inr (1, [.ref k, .ref d, .ref jd, .ref jb, .ref jw, .ref jl, .int jbad, .int jwhy, .int x4, .int jday, .int jwarmDay, .int jbagDays, .int jburnt, .int jboiled])), (jb, .inl (cI, 60, .inl jfb)), (jl, .inl (cI, 61, .inl jfl)), (d, .inr (4, [.ref ds, .int dsz, .ref dk, .ref dw, .int dac, .int dwr])), (dk, .inl (cI, 60, .inl dfk))] := hD
    refine lv_aload_n hx hb dX1_carryOut_138 rfl (lv_at hl 0 rfl) ?_
    refine lv_dup hx hb dX1_carryOut_139 rfl ?_
    refine va_get (D := (dC, dI)) (ci := 1) (v := .int jburnt) (C := RX1) (T := TX1) (N := 14) hx hb hts hin1 hown hK hP 0 rfl rfl 12 (by decide) hw4 (fun _ h9 => h9) rfl dX1_carryOut_140 ?_
    refine lv_aload_n hx hb dX1_carryOut_143 rfl (lv_at hl 0 rfl) ?_
    refine va_get (D := (dC, dI)) (ci := 1) (v := .ref jb) (C := RX1) (T := TX1) (N := 14) hx hb hts hin1 hown hK hP 0 rfl rfl 3 (by decide) hw3 (fun _ h9 => h9) rfl dX1_carryOut_144 ?_
    refine lv_iload_n hx hb dX1_carryOut_147 rfl (lv_at hl 1 rfl) ?_
    refine va_iald hx hb hK hP 1 0 rfl rfl (vin (by omega) (by omega)) dX1_carryOut_148 ?_
    refine lv_topi (fun y5 e5 => ?_)
    obtain rfl : jfb i0.toNatClampNeg = y5 := e5.symm
    refine lv_iadd hx hb dX1_carryOut_149 ?_
    refine lv_topi (fun x6 e6 => ?_)
    refine va_put (D := (dC, dI)) (ci := 1) (v := .int x6) (ty := .int) (C := RX1) (T := TX1) (N := 14) hx hb hts hin1 tyX1 tyX1_ok nmX1 hown hK hP hD hS 0 rfl rfl 12 (by decide) hw4 (fun _ h9 => h9) rfl (by decide +kernel) rfl rfl (Nat.le_of_ble_eq_true rfl) dX1_carryOut_150 (fun H locs hP hD hS => ?_)
    replace hP : va_P (dC, dI) vwCl [(j, .inr (1, [.ref k, .ref d, .ref jd, .ref jb, .ref jw, .ref jl, .int jbad, .int jwhy, .int x4, .int jday, .int jwarmDay, .int jbagDays, .int x6, .int jboiled])), (jb, .inl (cI, 60, .inl jfb)), (jl, .inl (cI, 61, .inl jfl)), (d, .inr (4, [.ref ds, .int dsz, .ref dk, .ref dw, .int dac, .int dwr])), (dk, .inl (cI, 60, .inl dfk))] H := hP
    replace hD : va_D A [(j, .inr (1, [.ref k, .ref d, .ref jd, .ref jb, .ref jw, .ref jl, .int jbad, .int jwhy, .int x4, .int jday, .int jwarmDay, .int jbagDays, .int x6, .int jboiled])), (jb, .inl (cI, 60, .inl jfb)), (jl, .inl (cI, 61, .inl jfl)), (d, .inr (4, [.ref ds, .int dsz, .ref dk, .ref dw, .int dac, .int dwr])), (dk, .inl (cI, 60, .inl dfk))] := hD
    refine lv_aload_n hx hb dX1_carryOut_153 rfl (lv_at hl 0 rfl) ?_
    refine lv_dup hx hb dX1_carryOut_154 rfl ?_
    refine va_get (D := (dC, dI)) (ci := 1) (v := .int jboiled) (C := RX1) (T := TX1) (N := 14) hx hb hts hin1 hown hK hP 0 rfl rfl 13 (by decide) hw5 (fun _ h9 => h9) rfl dX1_carryOut_155 ?_
    refine lv_iconst (v := 1) hx hb dX1_carryOut_158 (by decide) ?_
    refine lv_iadd hx hb dX1_carryOut_159 ?_
    refine lv_topi (fun x7 e7 => ?_)
    refine va_put (D := (dC, dI)) (ci := 1) (v := .int x7) (ty := .int) (C := RX1) (T := TX1) (N := 14) hx hb hts hin1 tyX1 tyX1_ok nmX1 hown hK hP hD hS 0 rfl rfl 13 (by decide) hw5 (fun _ h9 => h9) rfl (by decide +kernel) rfl rfl (Nat.le_of_ble_eq_true rfl) dX1_carryOut_160 (fun H locs hP hD hS => ?_)
    replace hP : va_P (dC, dI) vwCl [(j, .inr (1, [.ref k, .ref d, .ref jd, .ref jb, .ref jw, .ref jl, .int jbad, .int jwhy, .int x4, .int jday, .int jwarmDay, .int jbagDays, .int x6, .int x7])), (jb, .inl (cI, 60, .inl jfb)), (jl, .inl (cI, 61, .inl jfl)), (d, .inr (4, [.ref ds, .int dsz, .ref dk, .ref dw, .int dac, .int dwr])), (dk, .inl (cI, 60, .inl dfk))] H := hP
    replace hD : va_D A [(j, .inr (1, [.ref k, .ref d, .ref jd, .ref jb, .ref jw, .ref jl, .int jbad, .int jwhy, .int x4, .int jday, .int jwarmDay, .int jbagDays, .int x6, .int x7])), (jb, .inl (cI, 60, .inl jfb)), (jl, .inl (cI, 61, .inl jfl)), (d, .inr (4, [.ref ds, .int dsz, .ref dk, .ref dw, .int dac, .int dwr])), (dk, .inl (cI, 60, .inl dfk))] := hD
    refine lv_aload_n hx hb dX1_carryOut_163 rfl (lv_at hl 0 rfl) ?_
    refine va_get (D := (dC, dI)) (ci := 1) (v := .ref jl) (C := RX1) (T := TX1) (N := 14) hx hb hts hin1 hown hK hP 0 rfl rfl 5 (by decide) hw6 (fun _ h9 => h9) rfl dX1_carryOut_164 ?_
    refine lv_iload_n hx hb dX1_carryOut_167 rfl (lv_at hl 1 rfl) ?_
    refine lv_iconst (v := 1) hx hb dX1_carryOut_168 (by decide) ?_
    refine lv_iadd hx hb dX1_carryOut_169 ?_
    refine lv_topi (fun x8 e8 => ?_)
    have f8 : x8.toInt = i0.toInt + (1 : Int) := by rw [e8]; exact tadd (by have t8 := tb i0; have z8 : (1 : Int32).toInt = 1 := rfl; omega) (by have t8 := tb i0; have z8 : (1 : Int32).toInt = 1 := rfl; omega)
    refine lv_aload_n hx hb dX1_carryOut_170 rfl (lv_at hl 0 rfl) ?_
    refine va_get (D := (dC, dI)) (ci := 1) (v := .int x4) (C := RX1) (T := TX1) (N := 14) hx hb hts hin1 hown hK hP 0 rfl rfl 8 (by decide) hw2 (fun _ h9 => h9) rfl dX1_carryOut_171 ?_
    refine va_iast hx hb hK hP hD hS 2 0 rfl rfl (vin (by omega) (by omega)) dX1_carryOut_174 (fun H locs hP hD hS => ?_)
    replace hP : va_P (dC, dI) vwCl [(j, .inr (1, [.ref k, .ref d, .ref jd, .ref jb, .ref jw, .ref jl, .int jbad, .int jwhy, .int x4, .int jday, .int jwarmDay, .int jbagDays, .int x6, .int x7])), (jb, .inl (cI, 60, .inl jfb)), (jl, .inl (cI, 61, .inl (upd jfl x8.toNatClampNeg x4))), (d, .inr (4, [.ref ds, .int dsz, .ref dk, .ref dw, .int dac, .int dwr])), (dk, .inl (cI, 60, .inl dfk))] H := hP
    replace hD : va_D A [(j, .inr (1, [.ref k, .ref d, .ref jd, .ref jb, .ref jw, .ref jl, .int jbad, .int jwhy, .int x4, .int jday, .int jwarmDay, .int jbagDays, .int x6, .int x7])), (jb, .inl (cI, 60, .inl jfb)), (jl, .inl (cI, 61, .inl (upd jfl x8.toNatClampNeg x4))), (d, .inr (4, [.ref ds, .int dsz, .ref dk, .ref dw, .int dac, .int dwr])), (dk, .inl (cI, 60, .inl dfk))] := hD
    have hP9 := mx_subP (wc := [(j, .inr (1, [.ref k, .ref d, .ref jd, .ref jb, .ref jw, .ref jl, .int jbad, .int jwhy, .int x4, .int jday, .int jwarmDay, .int jbagDays, .int x6, .int x7])), (jb, .inl (cI, 60, .inl jfb)), (jl, .inl (cI, 61, .inl (upd jfl x8.toNatClampNeg x4))), (d, .inr (4, [.ref ds, .int dsz, .ref dk, .ref dw, .int dac, .int dwr])), (dk, .inl (cI, 60, .inl dfk))]) hP [0, 1, 2, 3, 4] rfl
    have hD9 := hD.sub (ws' := [(j, .inr (1, [.ref k, .ref d, .ref jd, .ref jb, .ref jw, .ref jl, .int jbad, .int jwhy, .int x4, .int jday, .int jwarmDay, .int jbagDays, .int x6, .int x7])), (jb, .inl (cI, 60, .inl jfb)), (jl, .inl (cI, 61, .inl (upd jfl x8.toNatClampNeg x4))), (d, .inr (4, [.ref ds, .int dsz, .ref dk, .ref dw, .int dac, .int dwr])), (dk, .inl (cI, 60, .inl dfk))]) [0, 1, 2, 3, 4] (by decide) rfl
    exact W.vret hx hb hr (fun t ht hW => ⟨⟨((fun u9 => ([(upd jfl x8.toNatClampNeg x4)] : List (Nat → Int32)).getD u9 (fun _ => 0)), (fun u9 => ([jwarmDay, jbagDays, x6, x7, x4, jday] : List Int32).getD u9 0), (fun u9 => ([] : List Int64).getD u9 0)), rfl, (show 0 ≤ (jday).toInt ∧ (jday).toInt ≤ 13 from (by omega)), by rw [ht]; exact hP9, hD9⟩, hS.F ht⟩) hS.2.2 dX1_carryOut_175
  · refine lv_tableIn (tgt := 36) (off := 27) hx hb dX1_carryOut_9 (by omega) (by omega) (by rw [h2]; decide) (by decide) ?_
    refine lv_aload_n hx hb dX1_carryOut_36 rfl (lv_at hl 0 rfl) ?_
    refine lv_aload_n hx hb dX1_carryOut_37 rfl (lv_at hl 0 rfl) ?_
    refine va_get (D := (dC, dI)) (ci := 1) (v := .int jbagDays) (C := RX1) (T := TX1) (N := 14) hx hb hts hin1 hown hK hP 0 rfl rfl 11 (by decide) hw7 (fun _ h9 => h9) rfl dX1_carryOut_38 ?_
    refine lv_aload_n hx hb dX1_carryOut_41 rfl (lv_at hl 0 rfl) ?_
    refine va_get (D := (dC, dI)) (ci := 1) (v := .int jday) (C := RX1) (T := TX1) (N := 14) hx hb hts hin1 hown hK hP 0 rfl rfl 9 (by decide) hw8 (fun _ h9 => h9) rfl dX1_carryOut_42 ?_
    refine lv_ishr hx hb dX1_carryOut_45 ?_
    refine lv_topi (fun x9 e9 => ?_)
    refine lv_iconst (v := 1) hx hb dX1_carryOut_46 (by decide) ?_
    refine lv_iand hx hb dX1_carryOut_47 ?_
    refine lv_topi (fun x10 e10 => ?_)
    refine lv_iconst (v := 1) hx hb dX1_carryOut_48 (by decide) ?_
    refine lv_icmp_ne (tgt := 61) hx hb dX1_carryOut_49 (by decide) (fun c11 => ?_) (fun c11 => ?_)
    · have t11 : x10.toInt ≠ (1 : Int) := (tne c11)
      refine lv_bipush (v := (-6)) hx hb dX1_carryOut_61 (by decide) ?_
      refine va_put (D := (dC, dI)) (ci := 1) (v := .int (-6)) (ty := .int) (C := RX1) (T := TX1) (N := 14) hx hb hts hin1 tyX1 tyX1_ok nmX1 hown hK hP hD hS 0 rfl rfl 10 (by decide) hw9 (fun _ h9 => h9) rfl (by decide +kernel) rfl rfl (Nat.le_of_ble_eq_true rfl) dX1_carryOut_63 (fun H locs hP hD hS => ?_)
      replace hP : va_P (dC, dI) vwCl [(j, .inr (1, [.ref k, .ref d, .ref jd, .ref jb, .ref jw, .ref jl, .int jbad, .int jwhy, .int jleft, .int jday, .int (-6), .int jbagDays, .int jburnt, .int jboiled])), (jb, .inl (cI, 60, .inl jfb)), (jl, .inl (cI, 61, .inl jfl)), (d, .inr (4, [.ref ds, .int dsz, .ref dk, .ref dw, .int dac, .int dwr])), (dk, .inl (cI, 60, .inl dfk))] H := hP
      replace hD : va_D A [(j, .inr (1, [.ref k, .ref d, .ref jd, .ref jb, .ref jw, .ref jl, .int jbad, .int jwhy, .int jleft, .int jday, .int (-6), .int jbagDays, .int jburnt, .int jboiled])), (jb, .inl (cI, 60, .inl jfb)), (jl, .inl (cI, 61, .inl jfl)), (d, .inr (4, [.ref ds, .int dsz, .ref dk, .ref dw, .int dac, .int dwr])), (dk, .inl (cI, 60, .inl dfk))] := hD
      refine lv_aload_n hx hb dX1_carryOut_66 rfl (lv_at hl 0 rfl) ?_
      refine lv_iconst (v := 0) hx hb dX1_carryOut_67 (by decide) ?_
      refine va_put (D := (dC, dI)) (ci := 1) (v := .int 0) (ty := .int) (C := RX1) (T := TX1) (N := 14) hx hb hts hin1 tyX1 tyX1_ok nmX1 hown hK hP hD hS 0 rfl rfl 11 (by decide) hw7 (fun _ h9 => h9) rfl (by decide +kernel) rfl rfl (Nat.le_of_ble_eq_true rfl) dX1_carryOut_68 (fun H locs hP hD hS => ?_)
      replace hP : va_P (dC, dI) vwCl [(j, .inr (1, [.ref k, .ref d, .ref jd, .ref jb, .ref jw, .ref jl, .int jbad, .int jwhy, .int jleft, .int jday, .int (-6), .int 0, .int jburnt, .int jboiled])), (jb, .inl (cI, 60, .inl jfb)), (jl, .inl (cI, 61, .inl jfl)), (d, .inr (4, [.ref ds, .int dsz, .ref dk, .ref dw, .int dac, .int dwr])), (dk, .inl (cI, 60, .inl dfk))] H := hP
      replace hD : va_D A [(j, .inr (1, [.ref k, .ref d, .ref jd, .ref jb, .ref jw, .ref jl, .int jbad, .int jwhy, .int jleft, .int jday, .int (-6), .int 0, .int jburnt, .int jboiled])), (jb, .inl (cI, 60, .inl jfb)), (jl, .inl (cI, 61, .inl jfl)), (d, .inr (4, [.ref ds, .int dsz, .ref dk, .ref dw, .int dac, .int dwr])), (dk, .inl (cI, 60, .inl dfk))] := hD
      refine lv_aload_n hx hb dX1_carryOut_71 rfl (lv_at hl 0 rfl) ?_
      refine lv_dup hx hb dX1_carryOut_72 rfl ?_
      refine va_get (D := (dC, dI)) (ci := 1) (v := .int jday) (C := RX1) (T := TX1) (N := 14) hx hb hts hin1 hown hK hP 0 rfl rfl 9 (by decide) hw8 (fun _ h9 => h9) rfl dX1_carryOut_73 ?_
      refine lv_iconst (v := 1) hx hb dX1_carryOut_76 (by decide) ?_
      refine lv_iadd hx hb dX1_carryOut_77 ?_
      refine lv_topi (fun x12 e12 => ?_)
      have f12 : x12.toInt = jday.toInt + (1 : Int) := by rw [e12]; exact tadd (by have t8 := tb jday; have z8 : (1 : Int32).toInt = 1 := rfl; omega) (by have t8 := tb jday; have z8 : (1 : Int32).toInt = 1 := rfl; omega)
      refine va_put (D := (dC, dI)) (ci := 1) (v := .int x12) (ty := .int) (C := RX1) (T := TX1) (N := 14) hx hb hts hin1 tyX1 tyX1_ok nmX1 hown hK hP hD hS 0 rfl rfl 9 (by decide) hw8 (fun _ h9 => h9) rfl (by decide +kernel) rfl rfl (Nat.le_of_ble_eq_true rfl) dX1_carryOut_78 (fun H locs hP hD hS => ?_)
      replace hP : va_P (dC, dI) vwCl [(j, .inr (1, [.ref k, .ref d, .ref jd, .ref jb, .ref jw, .ref jl, .int jbad, .int jwhy, .int jleft, .int x12, .int (-6), .int 0, .int jburnt, .int jboiled])), (jb, .inl (cI, 60, .inl jfb)), (jl, .inl (cI, 61, .inl jfl)), (d, .inr (4, [.ref ds, .int dsz, .ref dk, .ref dw, .int dac, .int dwr])), (dk, .inl (cI, 60, .inl dfk))] H := hP
      replace hD : va_D A [(j, .inr (1, [.ref k, .ref d, .ref jd, .ref jb, .ref jw, .ref jl, .int jbad, .int jwhy, .int jleft, .int x12, .int (-6), .int 0, .int jburnt, .int jboiled])), (jb, .inl (cI, 60, .inl jfb)), (jl, .inl (cI, 61, .inl jfl)), (d, .inr (4, [.ref ds, .int dsz, .ref dk, .ref dw, .int dac, .int dwr])), (dk, .inl (cI, 60, .inl dfk))] := hD
      refine lv_goto (tgt := 163) hx hb dX1_carryOut_81 (by decide) ?_
      refine lv_aload_n hx hb dX1_carryOut_163 rfl (lv_at hl 0 rfl) ?_
      refine va_get (D := (dC, dI)) (ci := 1) (v := .ref jl) (C := RX1) (T := TX1) (N := 14) hx hb hts hin1 hown hK hP 0 rfl rfl 5 (by decide) hw6 (fun _ h9 => h9) rfl dX1_carryOut_164 ?_
      refine lv_iload_n hx hb dX1_carryOut_167 rfl (lv_at hl 1 rfl) ?_
      refine lv_iconst (v := 1) hx hb dX1_carryOut_168 (by decide) ?_
      refine lv_iadd hx hb dX1_carryOut_169 ?_
      refine lv_topi (fun x13 e13 => ?_)
      have f13 : x13.toInt = i0.toInt + (1 : Int) := by rw [e13]; exact tadd (by have t8 := tb i0; have z8 : (1 : Int32).toInt = 1 := rfl; omega) (by have t8 := tb i0; have z8 : (1 : Int32).toInt = 1 := rfl; omega)
      refine lv_aload_n hx hb dX1_carryOut_170 rfl (lv_at hl 0 rfl) ?_
      refine va_get (D := (dC, dI)) (ci := 1) (v := .int jleft) (C := RX1) (T := TX1) (N := 14) hx hb hts hin1 hown hK hP 0 rfl rfl 8 (by decide) hw2 (fun _ h9 => h9) rfl dX1_carryOut_171 ?_
      refine va_iast hx hb hK hP hD hS 2 0 rfl rfl (vin (by omega) (by omega)) dX1_carryOut_174 (fun H locs hP hD hS => ?_)
      replace hP : va_P (dC, dI) vwCl [(j, .inr (1, [.ref k, .ref d, .ref jd, .ref jb, .ref jw, .ref jl, .int jbad, .int jwhy, .int jleft, .int x12, .int (-6), .int 0, .int jburnt, .int jboiled])), (jb, .inl (cI, 60, .inl jfb)), (jl, .inl (cI, 61, .inl (upd jfl x13.toNatClampNeg jleft))), (d, .inr (4, [.ref ds, .int dsz, .ref dk, .ref dw, .int dac, .int dwr])), (dk, .inl (cI, 60, .inl dfk))] H := hP
      replace hD : va_D A [(j, .inr (1, [.ref k, .ref d, .ref jd, .ref jb, .ref jw, .ref jl, .int jbad, .int jwhy, .int jleft, .int x12, .int (-6), .int 0, .int jburnt, .int jboiled])), (jb, .inl (cI, 60, .inl jfb)), (jl, .inl (cI, 61, .inl (upd jfl x13.toNatClampNeg jleft))), (d, .inr (4, [.ref ds, .int dsz, .ref dk, .ref dw, .int dac, .int dwr])), (dk, .inl (cI, 60, .inl dfk))] := hD
      have hP9 := mx_subP (wc := [(j, .inr (1, [.ref k, .ref d, .ref jd, .ref jb, .ref jw, .ref jl, .int jbad, .int jwhy, .int jleft, .int x12, .int (-6), .int 0, .int jburnt, .int jboiled])), (jb, .inl (cI, 60, .inl jfb)), (jl, .inl (cI, 61, .inl (upd jfl x13.toNatClampNeg jleft))), (d, .inr (4, [.ref ds, .int dsz, .ref dk, .ref dw, .int dac, .int dwr])), (dk, .inl (cI, 60, .inl dfk))]) hP [0, 1, 2, 3, 4] rfl
      have hD9 := hD.sub (ws' := [(j, .inr (1, [.ref k, .ref d, .ref jd, .ref jb, .ref jw, .ref jl, .int jbad, .int jwhy, .int jleft, .int x12, .int (-6), .int 0, .int jburnt, .int jboiled])), (jb, .inl (cI, 60, .inl jfb)), (jl, .inl (cI, 61, .inl (upd jfl x13.toNatClampNeg jleft))), (d, .inr (4, [.ref ds, .int dsz, .ref dk, .ref dw, .int dac, .int dwr])), (dk, .inl (cI, 60, .inl dfk))]) [0, 1, 2, 3, 4] (by decide) rfl
      exact W.vret hx hb hr (fun t ht hW => ⟨⟨((fun u9 => ([(upd jfl x13.toNatClampNeg jleft)] : List (Nat → Int32)).getD u9 (fun _ => 0)), (fun u9 => ([(-6), 0, jburnt, jboiled, jleft, x12] : List Int32).getD u9 0), (fun u9 => ([] : List Int64).getD u9 0)), rfl, (show 0 ≤ (x12).toInt ∧ (x12).toInt ≤ 13 from (by omega)), by rw [ht]; exact hP9, hD9⟩, hS.F ht⟩) hS.2.2 dX1_carryOut_175
    · have t11 : x10.toInt = (1 : Int) := (teq c11)
      refine lv_aload_n hx hb dX1_carryOut_52 rfl (lv_at hl 0 rfl) ?_
      refine va_get (D := (dC, dI)) (ci := 1) (v := .int jday) (C := RX1) (T := TX1) (N := 14) hx hb hts hin1 hown hK hP 0 rfl rfl 9 (by decide) hw8 (fun _ h9 => h9) rfl dX1_carryOut_53 ?_
      refine lv_iconst (v := 1) hx hb dX1_carryOut_56 (by decide) ?_
      refine lv_iadd hx hb dX1_carryOut_57 ?_
      refine lv_topi (fun x14 e14 => ?_)
      have f14 : x14.toInt = jday.toInt + (1 : Int) := by rw [e14]; exact tadd (by have t8 := tb jday; have z8 : (1 : Int32).toInt = 1 := rfl; omega) (by have t8 := tb jday; have z8 : (1 : Int32).toInt = 1 := rfl; omega)
      refine lv_goto (tgt := 63) hx hb dX1_carryOut_58 (by decide) ?_
      refine va_put (D := (dC, dI)) (ci := 1) (v := .int x14) (ty := .int) (C := RX1) (T := TX1) (N := 14) hx hb hts hin1 tyX1 tyX1_ok nmX1 hown hK hP hD hS 0 rfl rfl 10 (by decide) hw9 (fun _ h9 => h9) rfl (by decide +kernel) rfl rfl (Nat.le_of_ble_eq_true rfl) dX1_carryOut_63 (fun H locs hP hD hS => ?_)
      replace hP : va_P (dC, dI) vwCl [(j, .inr (1, [.ref k, .ref d, .ref jd, .ref jb, .ref jw, .ref jl, .int jbad, .int jwhy, .int jleft, .int jday, .int x14, .int jbagDays, .int jburnt, .int jboiled])), (jb, .inl (cI, 60, .inl jfb)), (jl, .inl (cI, 61, .inl jfl)), (d, .inr (4, [.ref ds, .int dsz, .ref dk, .ref dw, .int dac, .int dwr])), (dk, .inl (cI, 60, .inl dfk))] H := hP
      replace hD : va_D A [(j, .inr (1, [.ref k, .ref d, .ref jd, .ref jb, .ref jw, .ref jl, .int jbad, .int jwhy, .int jleft, .int jday, .int x14, .int jbagDays, .int jburnt, .int jboiled])), (jb, .inl (cI, 60, .inl jfb)), (jl, .inl (cI, 61, .inl jfl)), (d, .inr (4, [.ref ds, .int dsz, .ref dk, .ref dw, .int dac, .int dwr])), (dk, .inl (cI, 60, .inl dfk))] := hD
      refine lv_aload_n hx hb dX1_carryOut_66 rfl (lv_at hl 0 rfl) ?_
      refine lv_iconst (v := 0) hx hb dX1_carryOut_67 (by decide) ?_
      refine va_put (D := (dC, dI)) (ci := 1) (v := .int 0) (ty := .int) (C := RX1) (T := TX1) (N := 14) hx hb hts hin1 tyX1 tyX1_ok nmX1 hown hK hP hD hS 0 rfl rfl 11 (by decide) hw7 (fun _ h9 => h9) rfl (by decide +kernel) rfl rfl (Nat.le_of_ble_eq_true rfl) dX1_carryOut_68 (fun H locs hP hD hS => ?_)
      replace hP : va_P (dC, dI) vwCl [(j, .inr (1, [.ref k, .ref d, .ref jd, .ref jb, .ref jw, .ref jl, .int jbad, .int jwhy, .int jleft, .int jday, .int x14, .int 0, .int jburnt, .int jboiled])), (jb, .inl (cI, 60, .inl jfb)), (jl, .inl (cI, 61, .inl jfl)), (d, .inr (4, [.ref ds, .int dsz, .ref dk, .ref dw, .int dac, .int dwr])), (dk, .inl (cI, 60, .inl dfk))] H := hP
      replace hD : va_D A [(j, .inr (1, [.ref k, .ref d, .ref jd, .ref jb, .ref jw, .ref jl, .int jbad, .int jwhy, .int jleft, .int jday, .int x14, .int 0, .int jburnt, .int jboiled])), (jb, .inl (cI, 60, .inl jfb)), (jl, .inl (cI, 61, .inl jfl)), (d, .inr (4, [.ref ds, .int dsz, .ref dk, .ref dw, .int dac, .int dwr])), (dk, .inl (cI, 60, .inl dfk))] := hD
      refine lv_aload_n hx hb dX1_carryOut_71 rfl (lv_at hl 0 rfl) ?_
      refine lv_dup hx hb dX1_carryOut_72 rfl ?_
      refine va_get (D := (dC, dI)) (ci := 1) (v := .int jday) (C := RX1) (T := TX1) (N := 14) hx hb hts hin1 hown hK hP 0 rfl rfl 9 (by decide) hw8 (fun _ h9 => h9) rfl dX1_carryOut_73 ?_
      refine lv_iconst (v := 1) hx hb dX1_carryOut_76 (by decide) ?_
      refine lv_iadd hx hb dX1_carryOut_77 ?_
      refine lv_topi (fun x15 e15 => ?_)
      have f15 : x15.toInt = jday.toInt + (1 : Int) := by rw [e15]; exact tadd (by have t8 := tb jday; have z8 : (1 : Int32).toInt = 1 := rfl; omega) (by have t8 := tb jday; have z8 : (1 : Int32).toInt = 1 := rfl; omega)
      refine va_put (D := (dC, dI)) (ci := 1) (v := .int x15) (ty := .int) (C := RX1) (T := TX1) (N := 14) hx hb hts hin1 tyX1 tyX1_ok nmX1 hown hK hP hD hS 0 rfl rfl 9 (by decide) hw8 (fun _ h9 => h9) rfl (by decide +kernel) rfl rfl (Nat.le_of_ble_eq_true rfl) dX1_carryOut_78 (fun H locs hP hD hS => ?_)
      replace hP : va_P (dC, dI) vwCl [(j, .inr (1, [.ref k, .ref d, .ref jd, .ref jb, .ref jw, .ref jl, .int jbad, .int jwhy, .int jleft, .int x15, .int x14, .int 0, .int jburnt, .int jboiled])), (jb, .inl (cI, 60, .inl jfb)), (jl, .inl (cI, 61, .inl jfl)), (d, .inr (4, [.ref ds, .int dsz, .ref dk, .ref dw, .int dac, .int dwr])), (dk, .inl (cI, 60, .inl dfk))] H := hP
      replace hD : va_D A [(j, .inr (1, [.ref k, .ref d, .ref jd, .ref jb, .ref jw, .ref jl, .int jbad, .int jwhy, .int jleft, .int x15, .int x14, .int 0, .int jburnt, .int jboiled])), (jb, .inl (cI, 60, .inl jfb)), (jl, .inl (cI, 61, .inl jfl)), (d, .inr (4, [.ref ds, .int dsz, .ref dk, .ref dw, .int dac, .int dwr])), (dk, .inl (cI, 60, .inl dfk))] := hD
      refine lv_goto (tgt := 163) hx hb dX1_carryOut_81 (by decide) ?_
      refine lv_aload_n hx hb dX1_carryOut_163 rfl (lv_at hl 0 rfl) ?_
      refine va_get (D := (dC, dI)) (ci := 1) (v := .ref jl) (C := RX1) (T := TX1) (N := 14) hx hb hts hin1 hown hK hP 0 rfl rfl 5 (by decide) hw6 (fun _ h9 => h9) rfl dX1_carryOut_164 ?_
      refine lv_iload_n hx hb dX1_carryOut_167 rfl (lv_at hl 1 rfl) ?_
      refine lv_iconst (v := 1) hx hb dX1_carryOut_168 (by decide) ?_
      refine lv_iadd hx hb dX1_carryOut_169 ?_
      refine lv_topi (fun x16 e16 => ?_)
      have f16 : x16.toInt = i0.toInt + (1 : Int) := by rw [e16]; exact tadd (by have t8 := tb i0; have z8 : (1 : Int32).toInt = 1 := rfl; omega) (by have t8 := tb i0; have z8 : (1 : Int32).toInt = 1 := rfl; omega)
      refine lv_aload_n hx hb dX1_carryOut_170 rfl (lv_at hl 0 rfl) ?_
      refine va_get (D := (dC, dI)) (ci := 1) (v := .int jleft) (C := RX1) (T := TX1) (N := 14) hx hb hts hin1 hown hK hP 0 rfl rfl 8 (by decide) hw2 (fun _ h9 => h9) rfl dX1_carryOut_171 ?_
      refine va_iast hx hb hK hP hD hS 2 0 rfl rfl (vin (by omega) (by omega)) dX1_carryOut_174 (fun H locs hP hD hS => ?_)
      replace hP : va_P (dC, dI) vwCl [(j, .inr (1, [.ref k, .ref d, .ref jd, .ref jb, .ref jw, .ref jl, .int jbad, .int jwhy, .int jleft, .int x15, .int x14, .int 0, .int jburnt, .int jboiled])), (jb, .inl (cI, 60, .inl jfb)), (jl, .inl (cI, 61, .inl (upd jfl x16.toNatClampNeg jleft))), (d, .inr (4, [.ref ds, .int dsz, .ref dk, .ref dw, .int dac, .int dwr])), (dk, .inl (cI, 60, .inl dfk))] H := hP
      replace hD : va_D A [(j, .inr (1, [.ref k, .ref d, .ref jd, .ref jb, .ref jw, .ref jl, .int jbad, .int jwhy, .int jleft, .int x15, .int x14, .int 0, .int jburnt, .int jboiled])), (jb, .inl (cI, 60, .inl jfb)), (jl, .inl (cI, 61, .inl (upd jfl x16.toNatClampNeg jleft))), (d, .inr (4, [.ref ds, .int dsz, .ref dk, .ref dw, .int dac, .int dwr])), (dk, .inl (cI, 60, .inl dfk))] := hD
      have hP9 := mx_subP (wc := [(j, .inr (1, [.ref k, .ref d, .ref jd, .ref jb, .ref jw, .ref jl, .int jbad, .int jwhy, .int jleft, .int x15, .int x14, .int 0, .int jburnt, .int jboiled])), (jb, .inl (cI, 60, .inl jfb)), (jl, .inl (cI, 61, .inl (upd jfl x16.toNatClampNeg jleft))), (d, .inr (4, [.ref ds, .int dsz, .ref dk, .ref dw, .int dac, .int dwr])), (dk, .inl (cI, 60, .inl dfk))]) hP [0, 1, 2, 3, 4] rfl
      have hD9 := hD.sub (ws' := [(j, .inr (1, [.ref k, .ref d, .ref jd, .ref jb, .ref jw, .ref jl, .int jbad, .int jwhy, .int jleft, .int x15, .int x14, .int 0, .int jburnt, .int jboiled])), (jb, .inl (cI, 60, .inl jfb)), (jl, .inl (cI, 61, .inl (upd jfl x16.toNatClampNeg jleft))), (d, .inr (4, [.ref ds, .int dsz, .ref dk, .ref dw, .int dac, .int dwr])), (dk, .inl (cI, 60, .inl dfk))]) [0, 1, 2, 3, 4] (by decide) rfl
      exact W.vret hx hb hr (fun t ht hW => ⟨⟨((fun u9 => ([(upd jfl x16.toNatClampNeg jleft)] : List (Nat → Int32)).getD u9 (fun _ => 0)), (fun u9 => ([x14, 0, jburnt, jboiled, jleft, x15] : List Int32).getD u9 0), (fun u9 => ([] : List Int64).getD u9 0)), rfl, (show 0 ≤ (x15).toInt ∧ (x15).toInt ≤ 13 from (by omega)), by rw [ht]; exact hP9, hD9⟩, hS.F ht⟩) hS.2.2 dX1_carryOut_175
  · refine lv_tableIn (tgt := 84) (off := 75) hx hb dX1_carryOut_9 (by omega) (by omega) (by rw [h2]; decide) (by decide) ?_
    refine lv_aload_n hx hb dX1_carryOut_84 rfl (lv_at hl 0 rfl) ?_
    refine lv_dup hx hb dX1_carryOut_85 rfl ?_
    refine va_get (D := (dC, dI)) (ci := 1) (v := .int jbagDays) (C := RX1) (T := TX1) (N := 14) hx hb hts hin1 hown hK hP 0 rfl rfl 11 (by decide) hw7 (fun _ h9 => h9) rfl dX1_carryOut_86 ?_
    refine lv_iconst (v := 1) hx hb dX1_carryOut_89 (by decide) ?_
    refine lv_aload_n hx hb dX1_carryOut_90 rfl (lv_at hl 0 rfl) ?_
    refine va_get (D := (dC, dI)) (ci := 1) (v := .int jday) (C := RX1) (T := TX1) (N := 14) hx hb hts hin1 hown hK hP 0 rfl rfl 9 (by decide) hw8 (fun _ h9 => h9) rfl dX1_carryOut_91 ?_
    refine lv_ishl hx hb dX1_carryOut_94 ?_
    refine lv_topi (fun x17 e17 => ?_)
    refine lv_ior hx hb dX1_carryOut_95 ?_
    refine lv_topi (fun x18 e18 => ?_)
    refine va_put (D := (dC, dI)) (ci := 1) (v := .int x18) (ty := .int) (C := RX1) (T := TX1) (N := 14) hx hb hts hin1 tyX1 tyX1_ok nmX1 hown hK hP hD hS 0 rfl rfl 11 (by decide) hw7 (fun _ h9 => h9) rfl (by decide +kernel) rfl rfl (Nat.le_of_ble_eq_true rfl) dX1_carryOut_96 (fun H locs hP hD hS => ?_)
    replace hP : va_P (dC, dI) vwCl [(j, .inr (1, [.ref k, .ref d, .ref jd, .ref jb, .ref jw, .ref jl, .int jbad, .int jwhy, .int jleft, .int jday, .int jwarmDay, .int x18, .int jburnt, .int jboiled])), (jb, .inl (cI, 60, .inl jfb)), (jl, .inl (cI, 61, .inl jfl)), (d, .inr (4, [.ref ds, .int dsz, .ref dk, .ref dw, .int dac, .int dwr])), (dk, .inl (cI, 60, .inl dfk))] H := hP
    replace hD : va_D A [(j, .inr (1, [.ref k, .ref d, .ref jd, .ref jb, .ref jw, .ref jl, .int jbad, .int jwhy, .int jleft, .int jday, .int jwarmDay, .int x18, .int jburnt, .int jboiled])), (jb, .inl (cI, 60, .inl jfb)), (jl, .inl (cI, 61, .inl jfl)), (d, .inr (4, [.ref ds, .int dsz, .ref dk, .ref dw, .int dac, .int dwr])), (dk, .inl (cI, 60, .inl dfk))] := hD
    refine lv_goto (tgt := 163) hx hb dX1_carryOut_99 (by decide) ?_
    refine lv_aload_n hx hb dX1_carryOut_163 rfl (lv_at hl 0 rfl) ?_
    refine va_get (D := (dC, dI)) (ci := 1) (v := .ref jl) (C := RX1) (T := TX1) (N := 14) hx hb hts hin1 hown hK hP 0 rfl rfl 5 (by decide) hw6 (fun _ h9 => h9) rfl dX1_carryOut_164 ?_
    refine lv_iload_n hx hb dX1_carryOut_167 rfl (lv_at hl 1 rfl) ?_
    refine lv_iconst (v := 1) hx hb dX1_carryOut_168 (by decide) ?_
    refine lv_iadd hx hb dX1_carryOut_169 ?_
    refine lv_topi (fun x19 e19 => ?_)
    have f19 : x19.toInt = i0.toInt + (1 : Int) := by rw [e19]; exact tadd (by have t8 := tb i0; have z8 : (1 : Int32).toInt = 1 := rfl; omega) (by have t8 := tb i0; have z8 : (1 : Int32).toInt = 1 := rfl; omega)
    refine lv_aload_n hx hb dX1_carryOut_170 rfl (lv_at hl 0 rfl) ?_
    refine va_get (D := (dC, dI)) (ci := 1) (v := .int jleft) (C := RX1) (T := TX1) (N := 14) hx hb hts hin1 hown hK hP 0 rfl rfl 8 (by decide) hw2 (fun _ h9 => h9) rfl dX1_carryOut_171 ?_
    refine va_iast hx hb hK hP hD hS 2 0 rfl rfl (vin (by omega) (by omega)) dX1_carryOut_174 (fun H locs hP hD hS => ?_)
    replace hP : va_P (dC, dI) vwCl [(j, .inr (1, [.ref k, .ref d, .ref jd, .ref jb, .ref jw, .ref jl, .int jbad, .int jwhy, .int jleft, .int jday, .int jwarmDay, .int x18, .int jburnt, .int jboiled])), (jb, .inl (cI, 60, .inl jfb)), (jl, .inl (cI, 61, .inl (upd jfl x19.toNatClampNeg jleft))), (d, .inr (4, [.ref ds, .int dsz, .ref dk, .ref dw, .int dac, .int dwr])), (dk, .inl (cI, 60, .inl dfk))] H := hP
    replace hD : va_D A [(j, .inr (1, [.ref k, .ref d, .ref jd, .ref jb, .ref jw, .ref jl, .int jbad, .int jwhy, .int jleft, .int jday, .int jwarmDay, .int x18, .int jburnt, .int jboiled])), (jb, .inl (cI, 60, .inl jfb)), (jl, .inl (cI, 61, .inl (upd jfl x19.toNatClampNeg jleft))), (d, .inr (4, [.ref ds, .int dsz, .ref dk, .ref dw, .int dac, .int dwr])), (dk, .inl (cI, 60, .inl dfk))] := hD
    have hP9 := mx_subP (wc := [(j, .inr (1, [.ref k, .ref d, .ref jd, .ref jb, .ref jw, .ref jl, .int jbad, .int jwhy, .int jleft, .int jday, .int jwarmDay, .int x18, .int jburnt, .int jboiled])), (jb, .inl (cI, 60, .inl jfb)), (jl, .inl (cI, 61, .inl (upd jfl x19.toNatClampNeg jleft))), (d, .inr (4, [.ref ds, .int dsz, .ref dk, .ref dw, .int dac, .int dwr])), (dk, .inl (cI, 60, .inl dfk))]) hP [0, 1, 2, 3, 4] rfl
    have hD9 := hD.sub (ws' := [(j, .inr (1, [.ref k, .ref d, .ref jd, .ref jb, .ref jw, .ref jl, .int jbad, .int jwhy, .int jleft, .int jday, .int jwarmDay, .int x18, .int jburnt, .int jboiled])), (jb, .inl (cI, 60, .inl jfb)), (jl, .inl (cI, 61, .inl (upd jfl x19.toNatClampNeg jleft))), (d, .inr (4, [.ref ds, .int dsz, .ref dk, .ref dw, .int dac, .int dwr])), (dk, .inl (cI, 60, .inl dfk))]) [0, 1, 2, 3, 4] (by decide) rfl
    exact W.vret hx hb hr (fun t ht hW => ⟨⟨((fun u9 => ([(upd jfl x19.toNatClampNeg jleft)] : List (Nat → Int32)).getD u9 (fun _ => 0)), (fun u9 => ([jwarmDay, x18, jburnt, jboiled, jleft, jday] : List Int32).getD u9 0), (fun u9 => ([] : List Int64).getD u9 0)), rfl, (show 0 ≤ (jday).toInt ∧ (jday).toInt ≤ 13 from (by omega)), by rw [ht]; exact hP9, hD9⟩, hS.F ht⟩) hS.2.2 dX1_carryOut_175
  · refine lv_tableIn (tgt := 102) (off := 93) hx hb dX1_carryOut_9 (by omega) (by omega) (by rw [h2]; decide) (by decide) ?_
    refine lv_aload_n hx hb dX1_carryOut_102 rfl (lv_at hl 0 rfl) ?_
    refine lv_aload_n hx hb dX1_carryOut_103 rfl (lv_at hl 0 rfl) ?_
    refine va_get (D := (dC, dI)) (ci := 1) (v := .int jleft) (C := RX1) (T := TX1) (N := 14) hx hb hts hin1 hown hK hP 0 rfl rfl 8 (by decide) hw2 (fun _ h9 => h9) rfl dX1_carryOut_104 ?_
    refine lv_sipush (v := 1000) hx hb dX1_carryOut_107 (by decide) ?_
    refine lv_iadd hx hb dX1_carryOut_110 ?_
    refine lv_topi (fun x20 e20 => ?_)
    refine lv_sipush (v := 4000) hx hb dX1_carryOut_111 (by decide) ?_
    refine va_mmin hx hb (hml.trans hl.1.symm) hown hw10 hw11 hw12 hw13 (Nat.le_of_ble_eq_true rfl) (Nat.le_of_ble_eq_true rfl) (Nat.le_of_ble_eq_true rfl) (Nat.le_of_ble_eq_true rfl) dX1_carryOut_114 ?_
    refine lv_topi (fun x21 e21 => ?_)
    have f21 : x21.toInt ≤ x20.toInt ∧ x21.toInt ≤ (4000 : Int) ∧ (x21.toInt = x20.toInt ∨ x21.toInt = (4000 : Int)) := by rw [e21]; exact mmmin_t
    refine va_put (D := (dC, dI)) (ci := 1) (v := .int x21) (ty := .int) (C := RX1) (T := TX1) (N := 14) hx hb hts hin1 tyX1 tyX1_ok nmX1 hown hK hP hD hS 0 rfl rfl 8 (by decide) hw2 (fun _ h9 => h9) rfl (by decide +kernel) rfl rfl (Nat.le_of_ble_eq_true rfl) dX1_carryOut_117 (fun H locs hP hD hS => ?_)
    replace hP : va_P (dC, dI) vwCl [(j, .inr (1, [.ref k, .ref d, .ref jd, .ref jb, .ref jw, .ref jl, .int jbad, .int jwhy, .int x21, .int jday, .int jwarmDay, .int jbagDays, .int jburnt, .int jboiled])), (jb, .inl (cI, 60, .inl jfb)), (jl, .inl (cI, 61, .inl jfl)), (d, .inr (4, [.ref ds, .int dsz, .ref dk, .ref dw, .int dac, .int dwr])), (dk, .inl (cI, 60, .inl dfk))] H := hP
    replace hD : va_D A [(j, .inr (1, [.ref k, .ref d, .ref jd, .ref jb, .ref jw, .ref jl, .int jbad, .int jwhy, .int x21, .int jday, .int jwarmDay, .int jbagDays, .int jburnt, .int jboiled])), (jb, .inl (cI, 60, .inl jfb)), (jl, .inl (cI, 61, .inl jfl)), (d, .inr (4, [.ref ds, .int dsz, .ref dk, .ref dw, .int dac, .int dwr])), (dk, .inl (cI, 60, .inl dfk))] := hD
    refine lv_goto (tgt := 163) hx hb dX1_carryOut_120 (by decide) ?_
    refine lv_aload_n hx hb dX1_carryOut_163 rfl (lv_at hl 0 rfl) ?_
    refine va_get (D := (dC, dI)) (ci := 1) (v := .ref jl) (C := RX1) (T := TX1) (N := 14) hx hb hts hin1 hown hK hP 0 rfl rfl 5 (by decide) hw6 (fun _ h9 => h9) rfl dX1_carryOut_164 ?_
    refine lv_iload_n hx hb dX1_carryOut_167 rfl (lv_at hl 1 rfl) ?_
    refine lv_iconst (v := 1) hx hb dX1_carryOut_168 (by decide) ?_
    refine lv_iadd hx hb dX1_carryOut_169 ?_
    refine lv_topi (fun x22 e22 => ?_)
    have f22 : x22.toInt = i0.toInt + (1 : Int) := by rw [e22]; exact tadd (by have t8 := tb i0; have z8 : (1 : Int32).toInt = 1 := rfl; omega) (by have t8 := tb i0; have z8 : (1 : Int32).toInt = 1 := rfl; omega)
    refine lv_aload_n hx hb dX1_carryOut_170 rfl (lv_at hl 0 rfl) ?_
    refine va_get (D := (dC, dI)) (ci := 1) (v := .int x21) (C := RX1) (T := TX1) (N := 14) hx hb hts hin1 hown hK hP 0 rfl rfl 8 (by decide) hw2 (fun _ h9 => h9) rfl dX1_carryOut_171 ?_
    refine va_iast hx hb hK hP hD hS 2 0 rfl rfl (vin (by omega) (by omega)) dX1_carryOut_174 (fun H locs hP hD hS => ?_)
    replace hP : va_P (dC, dI) vwCl [(j, .inr (1, [.ref k, .ref d, .ref jd, .ref jb, .ref jw, .ref jl, .int jbad, .int jwhy, .int x21, .int jday, .int jwarmDay, .int jbagDays, .int jburnt, .int jboiled])), (jb, .inl (cI, 60, .inl jfb)), (jl, .inl (cI, 61, .inl (upd jfl x22.toNatClampNeg x21))), (d, .inr (4, [.ref ds, .int dsz, .ref dk, .ref dw, .int dac, .int dwr])), (dk, .inl (cI, 60, .inl dfk))] H := hP
    replace hD : va_D A [(j, .inr (1, [.ref k, .ref d, .ref jd, .ref jb, .ref jw, .ref jl, .int jbad, .int jwhy, .int x21, .int jday, .int jwarmDay, .int jbagDays, .int jburnt, .int jboiled])), (jb, .inl (cI, 60, .inl jfb)), (jl, .inl (cI, 61, .inl (upd jfl x22.toNatClampNeg x21))), (d, .inr (4, [.ref ds, .int dsz, .ref dk, .ref dw, .int dac, .int dwr])), (dk, .inl (cI, 60, .inl dfk))] := hD
    have hP9 := mx_subP (wc := [(j, .inr (1, [.ref k, .ref d, .ref jd, .ref jb, .ref jw, .ref jl, .int jbad, .int jwhy, .int x21, .int jday, .int jwarmDay, .int jbagDays, .int jburnt, .int jboiled])), (jb, .inl (cI, 60, .inl jfb)), (jl, .inl (cI, 61, .inl (upd jfl x22.toNatClampNeg x21))), (d, .inr (4, [.ref ds, .int dsz, .ref dk, .ref dw, .int dac, .int dwr])), (dk, .inl (cI, 60, .inl dfk))]) hP [0, 1, 2, 3, 4] rfl
    have hD9 := hD.sub (ws' := [(j, .inr (1, [.ref k, .ref d, .ref jd, .ref jb, .ref jw, .ref jl, .int jbad, .int jwhy, .int x21, .int jday, .int jwarmDay, .int jbagDays, .int jburnt, .int jboiled])), (jb, .inl (cI, 60, .inl jfb)), (jl, .inl (cI, 61, .inl (upd jfl x22.toNatClampNeg x21))), (d, .inr (4, [.ref ds, .int dsz, .ref dk, .ref dw, .int dac, .int dwr])), (dk, .inl (cI, 60, .inl dfk))]) [0, 1, 2, 3, 4] (by decide) rfl
    exact W.vret hx hb hr (fun t ht hW => ⟨⟨((fun u9 => ([(upd jfl x22.toNatClampNeg x21)] : List (Nat → Int32)).getD u9 (fun _ => 0)), (fun u9 => ([jwarmDay, jbagDays, jburnt, jboiled, x21, jday] : List Int32).getD u9 0), (fun u9 => ([] : List Int64).getD u9 0)), rfl, (show 0 ≤ (jday).toInt ∧ (jday).toInt ≤ 13 from (by omega)), by rw [ht]; exact hP9, hD9⟩, hS.F ht⟩) hS.2.2 dX1_carryOut_175
