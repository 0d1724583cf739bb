set_option maxHeartbeats 4000000 in
set_option maxRecDepth 100000 in
theorem c_X7_orderRefusal (l : Launch) (dC : Nat → ClassId) (dI : Nat → Nat → Nat) (cI cZ cK : ClassId) (tS : Nat) (aK aV : Nat → Nat) (h : Nat) (i0 : Int32) (i1 : Int32) (k : Nat) (d : Nat) (j : Nat) (o : Nat) (f : Nat) (g : Nat) (wk : Nat) (im : Nat) (kt : Nat) (dl : Nat) (op : Nat) (oto : Int32) (oq : Nat) (ov : Nat) (os : Nat) (ofp : Nat → Int32) (ks : Nat) (kw : Nat) (kc : Nat) (kwd : Int32) (kbg : Int32) (kme : Int32) (kq : Nat) (km : Nat) (kd : Nat) (ksi : Int32) (ka : Nat) (kk : Nat) (sz : Nat) (h_ofp : rg ofp 6 0 9) : Ci l yX7_orderRefusal (wq yX7_orderRefusal cX7_orderRefusal 3 (some .int)) ({ frames := 3, cells := 0, slots := 0, locals := 64 }) dC dI cI cZ cK tS aK aV [.ref h, .int i0, .int i1] sz [(h, .inr (7, [.ref k, .ref d, .ref j, .ref o, .ref f, .ref g, .ref wk, .ref im, .ref kt, .ref dl])), (o, .inr (3, [.ref k, .ref op, .int oto, .ref oq, .ref ov, .ref os])), (op, .inl (cI, 6, .inl ofp)), (k, .inr (0, [.ref ks, .ref kw, .ref kc, .int kwd, .int kbg, .int kme, .ref kq, .ref km, .ref kd, .int ksi, .ref ka, .ref kk]))] (fun (r : Int32) (u : (Nat → Nat → Int32) × (Nat → Int32) × (Nat → Int64)) => rg (u.1 0) 6 0 9 ∧ (orP i0 i1 kme r (u.1 0)) ∧ ((r = 0 ∧ (0 ≤ i1.toInt ∧ i1.toInt ≤ 13)) ∨ (r = (-1) ∧ (True)) ∨ (r = (-2) ∧ (True)))) (fun u => [(h, .inr (7, [.ref k, .ref d, .ref j, .ref o, .ref f, .ref g, .ref wk, .ref im, .ref kt, .ref dl])), (o, .inr (3, [.ref k, .ref op, .int (u.2.1 0), .ref oq, .ref ov, .ref os])), (op, .inl (cI, 6, .inl (u.1 0))), (k, .inr (0, [.ref ks, .ref kw, .ref kc, .int kwd, .int kbg, .int kme, .ref kq, .ref km, .ref kd, .int ksi, .ref ka, .ref kk]))]) := by
  refine Met.ofW (cc := cX7_orderRefusal) (maxL := 3) (ret := (some .int)) (by decide) rfl ?_
  intro p e s m args below meth c s₁ B hml hv
  obtain ⟨rfl, hsz, hP, hKx, hD0⟩ := hv
  have hx := B.exec
  have hb := B.bytes
  have hr := B.returns
  have hts := atoms_spec (ws := wq yX7_orderRefusal cX7_orderRefusal 3 (some .int)) B.pre
  have hown : s.vm.findClass RX7 = some m.cls := findClass_of_methodNamed B.named
  have hlocks := B.notSynchronized
  subst hsz
  have hD := hD0.self (sz := s.heap.size)
  generalize hAe : va_A [(h, .inr (7, [.ref k, .ref d, .ref j, .ref o, .ref f, .ref g, .ref wk, .ref im, .ref kt, .ref dl])), (o, .inr (3, [.ref k, .ref op, .int oto, .ref oq, .ref ov, .ref os])), (op, .inl (cI, 6, .inl ofp)), (k, .inr (0, [.ref ks, .ref kw, .ref kc, .int kwd, .int kbg, .int kme, .ref kq, .ref km, .ref kd, .int ksi, .ref ka, .ref kk]))] s.heap.size = A at hD hKx ⊢
  have hA : ∀ q : Nat, s.heap.size ≤ q → A q := fun q h => by rw [← hAe]; exact Or.inr h
  have hS : va_S A s.heap s.heap [] := va_S.rf
  have hP : va_P (dC, dI) vwCl [(h, .inr (7, [.ref k, .ref d, .ref j, .ref o, .ref f, .ref g, .ref wk, .ref im, .ref kt, .ref dl])), (o, .inr (3, [.ref k, .ref op, .int oto, .ref oq, .ref ov, .ref os])), (op, .inl (cI, 6, .inl ofp)), (k, .inr (0, [.ref ks, .ref kw, .ref kc, .int kwd, .int kbg, .int kme, .ref kq, .ref km, .ref kd, .int ksi, .ref ka, .ref kk]))] s.heap := hP
  have hl := lv_entry ([.ref h, .int i0, .int i1]) (n := 3) (Nat.le_of_ble_eq_true rfl)
  rw [lg_entry_eq]
  generalize (lg_sl ([.ref h, .int i0, .int i1]) ++ List.replicate (3 - (lg_sl ([.ref h, .int i0, .int i1])).length) Slot.unset).toArray = ls at hl ⊢
  have hl : lv_has ls 3 [(0, .ref h), (1, .int i0), (2, .int i1)] := hl
  have hK := hKx.1
  have hin7 := fun w9 h9 => List.mem_cons_of_mem (Cond.code yX7_orderRefusal cX7_orderRefusal 3 (some .int)) (inlX7 w9 h9)
  have hw0 := hts (.constant RX7 282 999999) (List.mem_cons_of_mem _ wm_571)
  have hw1 := hts (.fieldLink RX7 37 "OneCan" "order" "LOneCan$Order;") (List.mem_cons_of_mem _ wm_27)
  refine lv_iload_n hx hb dX7_orderRefusal_0 rfl (lv_at hl 1 rfl) ?_
  refine lv_iconst (v := 0) hx hb dX7_orderRefusal_1 (by decide) ?_
  refine lv_ldcw (v := 999999) hx hb hown hw0 dX7_orderRefusal_2 ?_
  refine mx_i (wr := [(h, .inr (7, [.ref k, .ref d, .ref j, .ref o, .ref f, .ref g, .ref wk, .ref im, .ref kt, .ref dl])), (o, .inr (3, [.ref k, .ref op, .int oto, .ref oq, .ref ov, .ref os])), (op, .inl (cI, 6, .inl ofp)), (k, .inr (0, [.ref ks, .ref kw, .ref kc, .int kwd, .int kbg, .int kme, .ref kq, .ref km, .ref kd, .int ksi, .ref ka, .ref kk]))]) (va_runS (As := [.int i0, .int 0, .int 999999]) (rest := []) ⟨hx, hb, hml, hown, hts⟩ (c_X7_isIn l dC dI cI cZ cK tS aK aV i0 0 999999 s.heap.size) (va_cwS 3 hts (gw_s (fun _ h9 => List.mem_cons_of_mem _ h9) wm_141 wm_142 wm_2 wm_143) rfl rfl rfl (by decide +kernel) ⟨Nat.le_of_ble_eq_true rfl, Nat.le_of_ble_eq_true rfl⟩) (mx_preS hKx hP hD hS hA [] (by decide) rfl) rfl rfl hl.1 rfl (lv_room (Nat.le_of_ble_eq_true rfl)) dX7_orderRefusal_5 ⟨Nat.le_of_ble_eq_true rfl, Nat.le_of_ble_eq_true rfl⟩) hP hD hS hA [] [0, 1, 2, 3] rfl rfl (by decide) (by decide) (fun r1 u1 H locs hq1 hP hD hS => ?_)
  replace hP : va_P (dC, dI) vwCl [(h, .inr (7, [.ref k, .ref d, .ref j, .ref o, .ref f, .ref g, .ref wk, .ref im, .ref kt, .ref dl])), (o, .inr (3, [.ref k, .ref op, .int oto, .ref oq, .ref ov, .ref os])), (op, .inl (cI, 6, .inl ofp)), (k, .inr (0, [.ref ks, .ref kw, .ref kc, .int kwd, .int kbg, .int kme, .ref kq, .ref km, .ref kd, .int ksi, .ref ka, .ref kk]))] H := hP
  replace hD : va_D A [(h, .inr (7, [.ref k, .ref d, .ref j, .ref o, .ref f, .ref g, .ref wk, .ref im, .ref kt, .ref dl])), (o, .inr (3, [.ref k, .ref op, .int oto, .ref oq, .ref ov, .ref os])), (op, .inl (cI, 6, .inl ofp)), (k, .inr (0, [.ref ks, .ref kw, .ref kc, .int kwd, .int kbg, .int kme, .ref kq, .ref km, .ref kd, .int ksi, .ref ka, .ref kk]))] := hD
  rcases hq1 with ⟨rfl, hf1⟩ | ⟨rfl, hf1⟩
  · have hf1 : (0 : Int) ≤ i0.toInt ∧ i0.toInt ≤ (999999 : Int) := hf1
    refine lv_if_ne (tgt := 14) hx hb dX7_orderRefusal_8 (by decide) (fun c2 => ?_) (fun c2 => absurd c2 (by decide))
    refine lv_aload_n hx hb dX7_orderRefusal_14 rfl (lv_at hl 0 rfl) ?_
    refine va_get (D := (dC, dI)) (ci := 7) (v := .ref o) (C := RX7) (T := TX7) (N := 10) hx hb hts hin7 hown hK hP 0 rfl rfl 3 (by decide) hw1 (fun _ h9 => h9) rfl dX7_orderRefusal_15 ?_
    refine lv_iload_n hx hb dX7_orderRefusal_18 rfl (lv_at hl 1 rfl) ?_
    refine mx_v (wr := [(h, .inr (7, [.ref k, .ref d, .ref j, .ref o, .ref f, .ref g, .ref wk, .ref im, .ref kt, .ref dl])), (k, .inr (0, [.ref ks, .ref kw, .ref kc, .int kwd, .int kbg, .int kme, .ref kq, .ref km, .ref kd, .int ksi, .ref ka, .ref kk]))]) (va_runV (As := [.int i0]) (rest := []) ⟨hx, hb, hml, hown, hts⟩ (c_X3_read l dC dI cI cZ cK tS aK aV o i0 k op oto oq ov os ofp H.size h_ofp (by first | omega | decide | assumption | trivial)) (cwV 1 hts (gw_v (fun _ h9 => List.mem_cons_of_mem _ h9) wm_572 wm_573 wm_574 wm_26 wm_575) rfl rfl rfl (by decide +kernel) ⟨Nat.le_of_ble_eq_true rfl, Nat.le_of_ble_eq_true rfl⟩) (mx_preV (C := RX3) (T := TX3) (N := 6) (ci := 3) hKx hP hD hS hA [1, 2] (by decide) rfl rfl rfl) rfl rfl hl.1 rfl (lv_room (Nat.le_of_ble_eq_true rfl)) dX7_orderRefusal_19 ⟨Nat.le_of_ble_eq_true rfl, Nat.le_of_ble_eq_true rfl⟩) hP hD hS hA [1, 2] [0, 3] rfl rfl (by decide) (by decide) (fun u3 H locs hq3 hP hD hS => ?_)
    replace hP : va_P (dC, dI) vwCl [(h, .inr (7, [.ref k, .ref d, .ref j, .ref o, .ref f, .ref g, .ref wk, .ref im, .ref kt, .ref dl])), (k, .inr (0, [.ref ks, .ref kw, .ref kc, .int kwd, .int kbg, .int kme, .ref kq, .ref km, .ref kd, .int ksi, .ref ka, .ref kk])), (o, .inr (3, [.ref k, .ref op, .int (u3.2.1 0), .ref oq, .ref ov, .ref os])), (op, .inl (cI, 6, .inl (u3.1 0)))] H := hP
    replace hD : va_D A [(h, .inr (7, [.ref k, .ref d, .ref j, .ref o, .ref f, .ref g, .ref wk, .ref im, .ref kt, .ref dl])), (k, .inr (0, [.ref ks, .ref kw, .ref kc, .int kwd, .int kbg, .int kme, .ref kq, .ref km, .ref kd, .int ksi, .ref ka, .ref kk])), (o, .inr (3, [.ref k, .ref op, .int (u3.2.1 0), .ref oq, .ref ov, .ref os])), (op, .inl (cI, 6, .inl (u3.1 0)))] := hD
    obtain ⟨hu3_0, hx3_0⟩ := hq3
    replace hx3_0 : dgP i0.toInt (u3.1 0) := hx3_0
    refine lv_iload_n hx hb dX7_orderRefusal_22 rfl (lv_at hl 2 rfl) ?_
    refine mx_i (wr := [(h, .inr (7, [.ref k, .ref d, .ref j, .ref o, .ref f, .ref g, .ref wk, .ref im, .ref kt, .ref dl])), (k, .inr (0, [.ref ks, .ref kw, .ref kc, .int kwd, .int kbg, .int kme, .ref kq, .ref km, .ref kd, .int ksi, .ref ka, .ref kk])), (o, .inr (3, [.ref k, .ref op, .int (u3.2.1 0), .ref oq, .ref ov, .ref os])), (op, .inl (cI, 6, .inl (u3.1 0)))]) (va_runS (As := [.int i1]) (rest := []) ⟨hx, hb, hml, hown, hts⟩ (c_X7_isDay l dC dI cI cZ cK tS aK aV i1 H.size) (va_cwS 1 hts (gw_s (fun _ h9 => List.mem_cons_of_mem _ h9) wm_171 wm_172 wm_2 wm_173) rfl rfl rfl (by decide +kernel) ⟨Nat.le_of_ble_eq_true rfl, Nat.le_of_ble_eq_true rfl⟩) (mx_preS hKx hP hD hS hA [] (by decide) rfl) rfl rfl hl.1 rfl (lv_room (Nat.le_of_ble_eq_true rfl)) dX7_orderRefusal_23 ⟨Nat.le_of_ble_eq_true rfl, Nat.le_of_ble_eq_true rfl⟩) hP hD hS hA [] [0, 1, 2, 3] rfl rfl (by decide) (by decide) (fun r4 u4 H locs hq4 hP hD hS => ?_)
    replace hP : va_P (dC, dI) vwCl [(h, .inr (7, [.ref k, .ref d, .ref j, .ref o, .ref f, .ref g, .ref wk, .ref im, .ref kt, .ref dl])), (k, .inr (0, [.ref ks, .ref kw, .ref kc, .int kwd, .int kbg, .int kme, .ref kq, .ref km, .ref kd, .int ksi, .ref ka, .ref kk])), (o, .inr (3, [.ref k, .ref op, .int (u3.2.1 0), .ref oq, .ref ov, .ref os])), (op, .inl (cI, 6, .inl (u3.1 0)))] H := hP
    replace hD : va_D A [(h, .inr (7, [.ref k, .ref d, .ref j, .ref o, .ref f, .ref g, .ref wk, .ref im, .ref kt, .ref dl])), (k, .inr (0, [.ref ks, .ref kw, .ref kc, .int kwd, .int kbg, .int kme, .ref kq, .ref km, .ref kd, .int ksi, .ref ka, .ref kk])), (o, .inr (3, [.ref k, .ref op, .int (u3.2.1 0), .ref oq, .ref ov, .ref os])), (op, .inl (cI, 6, .inl (u3.1 0)))] := hD
    rcases hq4 with ⟨rfl, hf4⟩ | ⟨rfl, hf4⟩
    · have hf4 : 0 ≤ i1.toInt ∧ i1.toInt ≤ 13 := hf4
      refine lv_if_eq (tgt := 43) hx hb dX7_orderRefusal_26 (by decide) (fun c5 => absurd c5 (by decide)) (fun c5 => ?_)
      refine lv_aload_n hx hb dX7_orderRefusal_29 rfl (lv_at hl 0 rfl) ?_
      refine va_get (D := (dC, dI)) (ci := 7) (v := .ref o) (C := RX7) (T := TX7) (N := 10) hx hb hts hin7 hown hK hP 0 rfl rfl 3 (by decide) hw1 (fun _ h9 => h9) rfl dX7_orderRefusal_30 ?_
      refine mx_i (wr := [(h, .inr (7, [.ref k, .ref d, .ref j, .ref o, .ref f, .ref g, .ref wk, .ref im, .ref kt, .ref dl]))]) (va_runV (As := []) (rest := []) ⟨hx, hb, hml, hown, hts⟩ (c_X3_isOfMealsThatAre l dC dI cI cZ cK tS aK aV o k op (u3.2.1 0) oq ov os (u3.1 0) ks kw kc kwd kbg kme kq km kd ksi ka kk H.size hu3_0) (cwV 0 hts (gw_v (fun _ h9 => List.mem_cons_of_mem _ h9) wm_577 wm_578 wm_579 wm_26 wm_580) rfl rfl rfl (by decide +kernel) ⟨Nat.le_of_ble_eq_true rfl, Nat.le_of_ble_eq_true rfl⟩) (mx_preV (C := RX3) (T := TX3) (N := 6) (ci := 3) hKx hP hD hS hA [2, 3, 1] (by decide) rfl rfl rfl) rfl rfl hl.1 rfl (lv_room (Nat.le_of_ble_eq_true rfl)) dX7_orderRefusal_33 ⟨Nat.le_of_ble_eq_true rfl, Nat.le_of_ble_eq_true rfl⟩) hP hD hS hA [2, 3, 1] [0] rfl rfl (by decide) (by decide) (fun r6 u6 H locs hq6 hP hD hS => ?_)
      replace hP : va_P (dC, dI) vwCl [(h, .inr (7, [.ref k, .ref d, .ref j, .ref o, .ref f, .ref g, .ref wk, .ref im, .ref kt, .ref dl])), (o, .inr (3, [.ref k, .ref op, .int (u3.2.1 0), .ref oq, .ref ov, .ref os])), (op, .inl (cI, 6, .inl (u3.1 0))), (k, .inr (0, [.ref ks, .ref kw, .ref kc, .int kwd, .int kbg, .int kme, .ref kq, .ref km, .ref kd, .int ksi, .ref ka, .ref kk]))] H := hP
      replace hD : va_D A [(h, .inr (7, [.ref k, .ref d, .ref j, .ref o, .ref f, .ref g, .ref wk, .ref im, .ref kt, .ref dl])), (o, .inr (3, [.ref k, .ref op, .int (u3.2.1 0), .ref oq, .ref ov, .ref os])), (op, .inl (cI, 6, .inl (u3.1 0))), (k, .inr (0, [.ref ks, .ref kw, .ref kc, .int kwd, .int kbg, .int kme, .ref kq, .ref km, .ref kd, .int ksi, .ref ka, .ref kk]))] := hD
      obtain ⟨hx6_0, hr6⟩ := hq6
      replace hx6_0 : (r6.toInt = 1 ∧ alP kme (u3.1 0)) ∨ (r6.toInt = 0 ∧ ¬ alP kme (u3.1 0)) := hx6_0
      rcases hr6 with ⟨rfl, hf6⟩ | ⟨rfl, hf6⟩
      · skip
        refine lv_if_eq (tgt := 43) hx hb dX7_orderRefusal_36 (by decide) (fun c7 => absurd c7 (by decide)) (fun c7 => ?_)
        refine lv_iconst (v := 0) hx hb dX7_orderRefusal_39 (by decide) ?_
        refine lv_goto (tgt := 44) hx hb dX7_orderRefusal_40 (by decide) ?_
        have hP9 := mx_subP (wc := [(h, .inr (7, [.ref k, .ref d, .ref j, .ref o, .ref f, .ref g, .ref wk, .ref im, .ref kt, .ref dl])), (o, .inr (3, [.ref k, .ref op, .int (u3.2.1 0), .ref oq, .ref ov, .ref os])), (op, .inl (cI, 6, .inl (u3.1 0))), (k, .inr (0, [.ref ks, .ref kw, .ref kc, .int kwd, .int kbg, .int kme, .ref kq, .ref km, .ref kd, .int ksi, .ref ka, .ref kk]))]) hP [0, 1, 2, 3] rfl
        have hD9 := hD.sub (ws' := [(h, .inr (7, [.ref k, .ref d, .ref j, .ref o, .ref f, .ref g, .ref wk, .ref im, .ref kt, .ref dl])), (o, .inr (3, [.ref k, .ref op, .int (u3.2.1 0), .ref oq, .ref ov, .ref os])), (op, .inl (cI, 6, .inl (u3.1 0))), (k, .inr (0, [.ref ks, .ref kw, .ref kc, .int kwd, .int kbg, .int kme, .ref kq, .ref km, .ref kd, .int ksi, .ref ka, .ref kk]))]) [0, 1, 2, 3] (by decide) rfl
        exact W.iret (v := 0) hx hb hr (fun t ht hW => ⟨⟨0, ((fun u9 => ([(u3.1 0)] : List (Nat → Int32)).getD u9 (fun _ => 0)), (fun u9 => ([(u3.2.1 0)] : List Int32).getD u9 0), (fun u9 => ([] : List Int64).getD u9 0)), rfl, ⟨hu3_0, (show orP i0 i1 kme (0 : Int32) (u3.1 0) from (Or.inr (Or.inr (Or.inr ⟨by omega, rfl, by omega, hx3_0, (hx6_0.resolve_right (fun h9 => absurd h9.1 (by decide))).2⟩)))), (by first | exact Or.inl (⟨rfl, by omega⟩) | exact Or.inr (Or.inl (⟨rfl, trivial⟩)) | exact Or.inr (Or.inr (⟨rfl, trivial⟩)))⟩, by rw [ht]; exact hP9, hD9⟩, hS.F ht⟩) hS.2.2 dX7_orderRefusal_44
      · skip
        refine lv_if_eq (tgt := 43) hx hb dX7_orderRefusal_36 (by decide) (fun c8 => ?_) (fun c8 => absurd c8 (by decide))
        refine lv_iconst (v := (-1)) hx hb dX7_orderRefusal_43 (by decide) ?_
        have hP9 := mx_subP (wc := [(h, .inr (7, [.ref k, .ref d, .ref j, .ref o, .ref f, .ref g, .ref wk, .ref im, .ref kt, .ref dl])), (o, .inr (3, [.ref k, .ref op, .int (u3.2.1 0), .ref oq, .ref ov, .ref os])), (op, .inl (cI, 6, .inl (u3.1 0))), (k, .inr (0, [.ref ks, .ref kw, .ref kc, .int kwd, .int kbg, .int kme, .ref kq, .ref km, .ref kd, .int ksi, .ref ka, .ref kk]))]) hP [0, 1, 2, 3] rfl
        have hD9 := hD.sub (ws' := [(h, .inr (7, [.ref k, .ref d, .ref j, .ref o, .ref f, .ref g, .ref wk, .ref im, .ref kt, .ref dl])), (o, .inr (3, [.ref k, .ref op, .int (u3.2.1 0), .ref oq, .ref ov, .ref os])), (op, .inl (cI, 6, .inl (u3.1 0))), (k, .inr (0, [.ref ks, .ref kw, .ref kc, .int kwd, .int kbg, .int kme, .ref kq, .ref km, .ref kd, .int ksi, .ref ka, .ref kk]))]) [0, 1, 2, 3] (by decide) rfl
        exact W.iret (v := (-1)) hx hb hr (fun t ht hW => ⟨⟨(-1), ((fun u9 => ([(u3.1 0)] : List (Nat → Int32)).getD u9 (fun _ => 0)), (fun u9 => ([(u3.2.1 0)] : List Int32).getD u9 0), (fun u9 => ([] : List Int64).getD u9 0)), rfl, ⟨hu3_0, (show orP i0 i1 kme ((-1) : Int32) (u3.1 0) from (Or.inr (Or.inr (Or.inl ⟨by omega, rfl, by omega, hx3_0, (hx6_0.resolve_left (fun h9 => absurd h9.1 (by decide))).2⟩)))), (by first | exact Or.inl (⟨rfl, by omega⟩) | exact Or.inr (Or.inl (⟨rfl, trivial⟩)) | exact Or.inr (Or.inr (⟨rfl, trivial⟩)))⟩, by rw [ht]; exact hP9, hD9⟩, hS.F ht⟩) hS.2.2 dX7_orderRefusal_44
    · have hf4 : i1.toInt < 0 ∨ 13 < i1.toInt := hf4
      refine lv_if_eq (tgt := 43) hx hb dX7_orderRefusal_26 (by decide) (fun c9 => ?_) (fun c9 => absurd c9 (by decide))
      refine lv_iconst (v := (-1)) hx hb dX7_orderRefusal_43 (by decide) ?_
      have hP9 := mx_subP (wc := [(h, .inr (7, [.ref k, .ref d, .ref j, .ref o, .ref f, .ref g, .ref wk, .ref im, .ref kt, .ref dl])), (o, .inr (3, [.ref k, .ref op, .int (u3.2.1 0), .ref oq, .ref ov, .ref os])), (op, .inl (cI, 6, .inl (u3.1 0))), (k, .inr (0, [.ref ks, .ref kw, .ref kc, .int kwd, .int kbg, .int kme, .ref kq, .ref km, .ref kd, .int ksi, .ref ka, .ref kk]))]) hP [0, 2, 3, 1] rfl
      have hD9 := hD.sub (ws' := [(h, .inr (7, [.ref k, .ref d, .ref j, .ref o, .ref f, .ref g, .ref wk, .ref im, .ref kt, .ref dl])), (o, .inr (3, [.ref k, .ref op, .int (u3.2.1 0), .ref oq, .ref ov, .ref os])), (op, .inl (cI, 6, .inl (u3.1 0))), (k, .inr (0, [.ref ks, .ref kw, .ref kc, .int kwd, .int kbg, .int kme, .ref kq, .ref km, .ref kd, .int ksi, .ref ka, .ref kk]))]) [0, 2, 3, 1] (by decide) rfl
      exact W.iret (v := (-1)) hx hb hr (fun t ht hW => ⟨⟨(-1), ((fun u9 => ([(u3.1 0)] : List (Nat → Int32)).getD u9 (fun _ => 0)), (fun u9 => ([(u3.2.1 0)] : List Int32).getD u9 0), (fun u9 => ([] : List Int64).getD u9 0)), rfl, ⟨hu3_0, (show orP i0 i1 kme ((-1) : Int32) (u3.1 0) from (Or.inr (Or.inl ⟨by omega, rfl, by omega⟩))), (by first | exact Or.inl (⟨rfl, by omega⟩) | exact Or.inr (Or.inl (⟨rfl, trivial⟩)) | exact Or.inr (Or.inr (⟨rfl, trivial⟩)))⟩, by rw [ht]; exact hP9, hD9⟩, hS.F ht⟩) hS.2.2 dX7_orderRefusal_44
  · have hf1 : i0.toInt < (0 : Int) ∨ (999999 : Int) < i0.toInt := hf1
    refine lv_if_ne (tgt := 14) hx hb dX7_orderRefusal_8 (by decide) (fun c10 => absurd c10 (by decide)) (fun c10 => ?_)
    refine lv_bipush (v := (-2)) hx hb dX7_orderRefusal_11 (by decide) ?_
    have hP9 := mx_subP (wc := [(h, .inr (7, [.ref k, .ref d, .ref j, .ref o, .ref f, .ref g, .ref wk, .ref im, .ref kt, .ref dl])), (o, .inr (3, [.ref k, .ref op, .int oto, .ref oq, .ref ov, .ref os])), (op, .inl (cI, 6, .inl ofp)), (k, .inr (0, [.ref ks, .ref kw, .ref kc, .int kwd, .int kbg, .int kme, .ref kq, .ref km, .ref kd, .int ksi, .ref ka, .ref kk]))]) hP [0, 1, 2, 3] rfl
    have hD9 := hD.sub (ws' := [(h, .inr (7, [.ref k, .ref d, .ref j, .ref o, .ref f, .ref g, .ref wk, .ref im, .ref kt, .ref dl])), (o, .inr (3, [.ref k, .ref op, .int oto, .ref oq, .ref ov, .ref os])), (op, .inl (cI, 6, .inl ofp)), (k, .inr (0, [.ref ks, .ref kw, .ref kc, .int kwd, .int kbg, .int kme, .ref kq, .ref km, .ref kd, .int ksi, .ref ka, .ref kk]))]) [0, 1, 2, 3] (by decide) rfl
    exact W.iret (v := (-2)) hx hb hr (fun t ht hW => ⟨⟨(-2), ((fun u9 => ([ofp] : List (Nat → Int32)).getD u9 (fun _ => 0)), (fun u9 => ([oto] : List Int32).getD u9 0), (fun u9 => ([] : List Int64).getD u9 0)), rfl, ⟨h_ofp, (show orP i0 i1 kme ((-2) : Int32) ofp from (Or.inl ⟨rfl, by omega⟩)), (by first | exact Or.inl (⟨rfl, by omega⟩) | exact Or.inr (Or.inl (⟨rfl, trivial⟩)) | exact Or.inr (Or.inr (⟨rfl, trivial⟩)))⟩, by rw [ht]; exact hP9, hD9⟩, hS.F ht⟩) hS.2.2 dX7_orderRefusal_13
set_option maxHeartbeats 4000000 in
set_option maxRecDepth 100000 in
theorem c_X7_spreadRefusal (l : Launch) (dC : Nat → ClassId) (dI : Nat → Nat → Nat) (cI cZ cK : ClassId) (tS : Nat) (aK aV : Nat → Nat) (h : Nat) (i0 : Int32) (i1 : Int32) (k : Nat) (d : Nat) (j : Nat) (o : Nat) (f : Nat) (g : Nat) (wk : Nat) (im : Nat) (kt : Nat) (dl : Nat) (op : Nat) (oto : Int32) (oq : Nat) (ov : Nat) (os : Nat) (ofp : Nat → Int32) (ks : Nat) (kw : Nat) (kc : Nat) (kwd : Int32) (kbg : Int32) (kme : Int32) (kq : Nat) (km : Nat) (kd : Nat) (ksi : Int32) (ka : Nat) (kk : Nat) (kfs : Nat → Int32) (sz : Nat) (h_ofp : rg ofp 6 0 9) (h_kfs_4 : 0 ≤ (kfs 4).toInt ∧ (kfs 4).toInt ≤ 13) : Ci l yX7_spreadRefusal (wq yX7_spreadRefusal cX7_spreadRefusal 4 (some .int)) ({ frames := 4, cells := 0, slots := 0, locals := 86 }) dC dI cI cZ cK tS aK aV [.ref h, .int i0, .int i1] sz [(h, .inr (7, [.ref k, .ref d, .ref j, .ref o, .ref f, .ref g, .ref wk, .ref im, .ref kt, .ref dl])), (o, .inr (3, [.ref k, .ref op, .int oto, .ref oq, .ref ov, .ref os])), (op, .inl (cI, 6, .inl ofp)), (k, .inr (0, [.ref ks, .ref kw, .ref kc, .int kwd, .int kbg, .int kme, .ref kq, .ref km, .ref kd, .int ksi, .ref ka, .ref kk])), (ks, .inl (cI, 5, .inl kfs))] (fun (r : Int32) (u : (Nat → Nat → Int32) × (Nat → Int32) × (Nat → Int64)) => rg (u.1 0) 6 0 9 ∧ ((r = 0 ∧ (0 ≤ i1.toInt ∧ i1.toInt ≤ 13)) ∨ (r = (-1) ∧ (True)) ∨ (r = (-2) ∧ (True)) ∨ (r = (-4) ∧ (True)))) (fun u => [(h, .inr (7, [.ref k, .ref d, .ref j, .ref o, .ref f, .ref g, .ref wk, .ref im, .ref kt, .ref dl])), (o, .inr (3, [.ref k, .ref op, .int (u.2.1 0), .ref oq, .ref ov, .ref os])), (op, .inl (cI, 6, .inl (u.1 0))), (k, .inr (0, [.ref ks, .ref kw, .ref kc, .int kwd, .int kbg, .int kme, .ref kq, .ref km, .ref kd, .int ksi, .ref ka, .ref kk])), (ks, .inl (cI, 5, .inl kfs))]) := by
  refine Met.ofW (cc := cX7_spreadRefusal) (maxL := 4) (ret := (some .int)) (by decide) rfl ?_
  intro p e s m args below meth c s₁ B hml hv
  obtain ⟨rfl, hsz, hP, hKx, hD0⟩ := hv
  have hx := B.exec
  have hb := B.bytes
  have hr := B.returns
  have hts := atoms_spec (ws := wq yX7_spreadRefusal cX7_spreadRefusal 4 (some .int)) B.pre
  have hown : s.vm.findClass RX7 = some m.cls := findClass_of_methodNamed B.named
  have hlocks := B.notSynchronized
  subst hsz
  have hD := hD0.self (sz := s.heap.size)
  generalize hAe : va_A [(h, .inr (7, [.ref k, .ref d, .ref j, .ref o, .ref f, .ref g, .ref wk, .ref im, .ref kt, .ref dl])), (o, .inr (3, [.ref k, .ref op, .int oto, .ref oq, .ref ov, .ref os])), (op, .inl (cI, 6, .inl ofp)), (k, .inr (0, [.ref ks, .ref kw, .ref kc, .int kwd, .int kbg, .int kme, .ref kq, .ref km, .ref kd, .int ksi, .ref ka, .ref kk])), (ks, .inl (cI, 5, .inl kfs))] s.heap.size = A at hD hKx ⊢
  have hA : ∀ q : Nat, s.heap.size ≤ q → A q := fun q h => by rw [← hAe]; exact Or.inr h
  have hS : va_S A s.heap s.heap [] := va_S.rf
  have hP : va_P (dC, dI) vwCl [(h, .inr (7, [.ref k, .ref d, .ref j, .ref o, .ref f, .ref g, .ref wk, .ref im, .ref kt, .ref dl])), (o, .inr (3, [.ref k, .ref op, .int oto, .ref oq, .ref ov, .ref os])), (op, .inl (cI, 6, .inl ofp)), (k, .inr (0, [.ref ks, .ref kw, .ref kc, .int kwd, .int kbg, .int kme, .ref kq, .ref km, .ref kd, .int ksi, .ref ka, .ref kk])), (ks, .inl (cI, 5, .inl kfs))] s.heap := hP
  have hl := lv_entry ([.ref h, .int i0, .int i1]) (n := 4) (Nat.le_of_ble_eq_true rfl)
  rw [lg_entry_eq]
  generalize (lg_sl ([.ref h, .int i0, .int i1]) ++ List.replicate (4 - (lg_sl ([.ref h, .int i0, .int i1])).length) Slot.unset).toArray = ls at hl ⊢
  have hl : lv_has ls 4 [(0, .ref h), (1, .int i0), (2, .int i1)] := hl
  have hK := hKx.1
  have hin7 := fun w9 h9 => List.mem_cons_of_mem (Cond.code yX7_spreadRefusal cX7_spreadRefusal 4 (some .int)) (inlX7 w9 h9)
  have hin0 := fun w9 h9 => List.mem_cons_of_mem (Cond.code yX7_spreadRefusal cX7_spreadRefusal 4 (some .int)) (inlX0 w9 h9)
  have hin3 := fun w9 h9 => List.mem_cons_of_mem (Cond.code yX7_spreadRefusal cX7_spreadRefusal 4 (some .int)) (inlX3 w9 h9)
  have hw0 := hts (.fieldLink RX7 12 "OneCan" "camp" "LOneCan$Camp;") (List.mem_cons_of_mem _ wm_15)
  have hw1 := hts (.fieldLink RX7 83 "OneCan$Camp" "settings" "[I") (List.mem_cons_of_mem _ wm_140)
  have hw2 := hts (.fieldLink RX7 37 "OneCan" "order" "LOneCan$Order;") (List.mem_cons_of_mem _ wm_27)
  have hw3 := hts (.fieldLink RX7 288 "OneCan$Order" "total" "I") (List.mem_cons_of_mem _ wm_620)
  refine lv_aload_n hx hb dX7_spreadRefusal_0 rfl (lv_at hl 0 rfl) ?_
  refine lv_iload_n hx hb dX7_spreadRefusal_1 rfl (lv_at hl 1 rfl) ?_
  refine lv_iload_n hx hb dX7_spreadRefusal_2 rfl (lv_at hl 2 rfl) ?_
  refine mx_i (wr := [(ks, .inl (cI, 5, .inl kfs))]) (va_runV (As := [.int i0, .int i1]) (rest := []) ⟨hx, hb, hml, hown, hts⟩ (c_X7_orderRefusal l dC dI cI cZ cK tS aK aV h i0 i1 k d j o f g wk im kt dl op oto oq ov os ofp ks kw kc kwd kbg kme kq km kd ksi ka kk s.heap.size h_ofp) (cwV 2 hts (gw_v (fun _ h9 => List.mem_cons_of_mem _ h9) wm_567 wm_568 wm_569 wm_2 wm_570) rfl rfl rfl (by decide +kernel) ⟨Nat.le_of_ble_eq_true rfl, Nat.le_of_ble_eq_true rfl⟩) (mx_preV (C := RX7) (T := TX7) (N := 10) (ci := 7) hKx hP hD hS hA [0, 1, 2, 3] (by decide) rfl rfl rfl) rfl rfl hl.1 rfl (lv_room (Nat.le_of_ble_eq_true rfl)) dX7_spreadRefusal_3 ⟨Nat.le_of_ble_eq_true rfl, Nat.le_of_ble_eq_true rfl⟩) hP hD hS hA [0, 1, 2, 3] [4] rfl rfl (by decide) (by decide) (fun r1 u1 H locs hq1 hP hD hS => ?_)
  replace hP : va_P (dC, dI) vwCl [(ks, .inl (cI, 5, .inl kfs)), (h, .inr (7, [.ref k, .ref d, .ref j, .ref o, .ref f, .ref g, .ref wk, .ref im, .ref kt, .ref dl])), (o, .inr (3, [.ref k, .ref op, .int (u1.2.1 0), .ref oq, .ref ov, .ref os])), (op, .inl (cI, 6, .inl (u1.1 0))), (k, .inr (0, [.ref ks, .ref kw, .ref kc, .int kwd, .int kbg, .int kme, .ref kq, .ref km, .ref kd, .int ksi, .ref ka, .ref kk]))] H := hP
  replace hD : va_D A [(ks, .inl (cI, 5, .inl kfs)), (h, .inr (7, [.ref k, .ref d, .ref j, .ref o, .ref f, .ref g, .ref wk, .ref im, .ref kt, .ref dl])), (o, .inr (3, [.ref k, .ref op, .int (u1.2.1 0), .ref oq, .ref ov, .ref os])), (op, .inl (cI, 6, .inl (u1.1 0))), (k, .inr (0, [.ref ks, .ref kw, .ref kc, .int kwd, .int kbg, .int kme, .ref kq, .ref km, .ref kd, .int ksi, .ref ka, .ref kk]))] := hD
  obtain ⟨hu1_0, hx1_0, hr1⟩ := hq1
  replace hx1_0 : orP i0 i1 kme r1 (u1.1 0) := hx1_0
  rcases hr1 with ⟨rfl, hf1⟩ | ⟨rfl, hf1⟩ | ⟨rfl, hf1⟩
  · have hf1 : 0 ≤ i1.toInt ∧ i1.toInt ≤ 13 := hf1
    refine lv_istore_n (lv' := [(3, .int 0), (0, .ref h), (1, .int i0), (2, .int i1)]) hx hb dX7_spreadRefusal_6 rfl hl (by decide) rfl (fun ls hl => ?_)
    refine lv_iload_n hx hb dX7_spreadRefusal_7 rfl (lv_at hl 0 rfl) ?_
    refine lv_if_eq (tgt := 13) hx hb dX7_spreadRefusal_8 (by decide) (fun c2 => ?_) (fun c2 => absurd c2 (by decide))
    refine lv_iload_n hx hb dX7_spreadRefusal_13 rfl (lv_at hl 3 rfl) ?_
    refine lv_aload_n hx hb dX7_spreadRefusal_14 rfl (lv_at hl 1 rfl) ?_
    refine va_get (D := (dC, dI)) (ci := 7) (v := .ref k) (C := RX7) (T := TX7) (N := 10) hx hb hts hin7 hown hK hP 1 rfl rfl 0 (by decide) hw0 (fun _ h9 => h9) rfl dX7_spreadRefusal_15 ?_
    refine va_get (D := (dC, dI)) (ci := 0) (v := .ref ks) (C := RX0) (T := TX0) (N := 12) hx hb hts hin0 hown hK hP 4 rfl rfl 0 (by decide) hw1 (fun _ h9 => h9) rfl dX7_spreadRefusal_18 ?_
    refine lv_iconst (v := 4) hx hb dX7_spreadRefusal_21 (by decide) ?_
    refine va_iald hx hb hK hP 0 0 rfl rfl (vin (by decide) (by decide)) dX7_spreadRefusal_22 ?_
    refine lv_topi (fun y3 e3 => ?_)
    obtain rfl : kfs 4 = y3 := e3.symm
    refine lv_icmp_ge (tgt := 28) hx hb dX7_spreadRefusal_23 (by decide) (fun c4 => ?_) (fun c4 => ?_)
    · have t4 : (kfs 4).toInt ≤ i1.toInt := (tle c4)
      refine lv_aload_n hx hb dX7_spreadRefusal_28 rfl (lv_at hl 1 rfl) ?_
      refine va_get (D := (dC, dI)) (ci := 7) (v := .ref o) (C := RX7) (T := TX7) (N := 10) hx hb hts hin7 hown hK hP 1 rfl rfl 3 (by decide) hw2 (fun _ h9 => h9) rfl dX7_spreadRefusal_29 ?_
      refine va_get (D := (dC, dI)) (ci := 3) (v := .int (u1.2.1 0)) (C := RX3) (T := TX3) (N := 6) hx hb hts hin3 hown hK hP 2 rfl rfl 2 (by decide) hw3 (fun _ h9 => h9) rfl dX7_spreadRefusal_32 ?_
      refine lv_bipush (v := 12) hx hb dX7_spreadRefusal_35 (by decide) ?_
      refine lv_icmp_le (tgt := 45) hx hb dX7_spreadRefusal_37 (by decide) (fun c5 => ?_) (fun c5 => ?_)
      · have t5 : (u1.2.1 0).toInt ≤ (12 : Int) := (tle c5)
        refine lv_iconst (v := 0) hx hb dX7_spreadRefusal_45 (by decide) ?_
        have hP9 := mx_subP (wc := [(h, .inr (7, [.ref k, .ref d, .ref j, .ref o, .ref f, .ref g, .ref wk, .ref im, .ref kt, .ref dl])), (o, .inr (3, [.ref k, .ref op, .int (u1.2.1 0), .ref oq, .ref ov, .ref os])), (op, .inl (cI, 6, .inl (u1.1 0))), (k, .inr (0, [.ref ks, .ref kw, .ref kc, .int kwd, .int kbg, .int kme, .ref kq, .ref km, .ref kd, .int ksi, .ref ka, .ref kk])), (ks, .inl (cI, 5, .inl kfs))]) hP [1, 2, 3, 4, 0] rfl
        have hD9 := hD.sub (ws' := [(h, .inr (7, [.ref k, .ref d, .ref j, .ref o, .ref f, .ref g, .ref wk, .ref im, .ref kt, .ref dl])), (o, .inr (3, [.ref k, .ref op, .int (u1.2.1 0), .ref oq, .ref ov, .ref os])), (op, .inl (cI, 6, .inl (u1.1 0))), (k, .inr (0, [.ref ks, .ref kw, .ref kc, .int kwd, .int kbg, .int kme, .ref kq, .ref km, .ref kd, .int ksi, .ref ka, .ref kk])), (ks, .inl (cI, 5, .inl kfs))]) [1, 2, 3, 4, 0] (by decide) rfl
        exact W.iret (v := 0) hx hb hr (fun t ht hW => ⟨⟨0, ((fun u9 => ([(u1.1 0)] : List (Nat → Int32)).getD u9 (fun _ => 0)), (fun u9 => ([(u1.2.1 0)] : List Int32).getD u9 0), (fun u9 => ([] : List Int64).getD u9 0)), rfl, ⟨hu1_0, (by first | exact Or.inl (⟨rfl, by omega⟩) | exact Or.inr (Or.inl (⟨rfl, trivial⟩)) | exact Or.inr (Or.inr (Or.inl (⟨rfl, trivial⟩))) | exact Or.inr (Or.inr (Or.inr (⟨rfl, trivial⟩))))⟩, by rw [ht]; exact hP9, hD9⟩, hS.F ht⟩) hS.2.2 dX7_spreadRefusal_46
      · have t5 : (12 : Int) < (u1.2.1 0).toInt := (tnle c5)
        refine lv_bipush (v := (-4)) hx hb dX7_spreadRefusal_40 (by decide) ?_
        refine lv_goto (tgt := 46) hx hb dX7_spreadRefusal_42 (by decide) ?_
        have hP9 := mx_subP (wc := [(h, .inr (7, [.ref k, .ref d, .ref j, .ref o, .ref f, .ref g, .ref wk, .ref im, .ref kt, .ref dl])), (o, .inr (3, [.ref k, .ref op, .int (u1.2.1 0), .ref oq, .ref ov, .ref os])), (op, .inl (cI, 6, .inl (u1.1 0))), (k, .inr (0, [.ref ks, .ref kw, .ref kc, .int kwd, .int kbg, .int kme, .ref kq, .ref km, .ref kd, .int ksi, .ref ka, .ref kk])), (ks, .inl (cI, 5, .inl kfs))]) hP [1, 2, 3, 4, 0] rfl
        have hD9 := hD.sub (ws' := [(h, .inr (7, [.ref k, .ref d, .ref j, .ref o, .ref f, .ref g, .ref wk, .ref im, .ref kt, .ref dl])), (o, .inr (3, [.ref k, .ref op, .int (u1.2.1 0), .ref oq, .ref ov, .ref os])), (op, .inl (cI, 6, .inl (u1.1 0))), (k, .inr (0, [.ref ks, .ref kw, .ref kc, .int kwd, .int kbg, .int kme, .ref kq, .ref km, .ref kd, .int ksi, .ref ka, .ref kk])), (ks, .inl (cI, 5, .inl kfs))]) [1, 2, 3, 4, 0] (by decide) rfl
        exact W.iret (v := (-4)) hx hb hr (fun t ht hW => ⟨⟨(-4), ((fun u9 => ([(u1.1 0)] : List (Nat → Int32)).getD u9 (fun _ => 0)), (fun u9 => ([(u1.2.1 0)] : List Int32).getD u9 0), (fun u9 => ([] : List Int64).getD u9 0)), rfl, ⟨hu1_0, (by first | exact Or.inl (⟨rfl, by omega⟩) | exact Or.inr (Or.inl (⟨rfl, trivial⟩)) | exact Or.inr (Or.inr (Or.inl (⟨rfl, trivial⟩))) | exact Or.inr (Or.inr (Or.inr (⟨rfl, trivial⟩))))⟩, by rw [ht]; exact hP9, hD9⟩, hS.F ht⟩) hS.2.2 dX7_spreadRefusal_46
    · have t4 : i1.toInt < (kfs 4).toInt := (tnle c4)
      refine lv_iconst (v := (-1)) hx hb dX7_spreadRefusal_26 (by decide) ?_
      have hP9 := mx_subP (wc := [(h, .inr (7, [.ref k, .ref d, .ref j, .ref o, .ref f, .ref g, .ref wk, .ref im, .ref kt, .ref dl])), (o, .inr (3, [.ref k, .ref op, .int (u1.2.1 0), .ref oq, .ref ov, .ref os])), (op, .inl (cI, 6, .inl (u1.1 0))), (k, .inr (0, [.ref ks, .ref kw, .ref kc, .int kwd, .int kbg, .int kme, .ref kq, .ref km, .ref kd, .int ksi, .ref ka, .ref kk])), (ks, .inl (cI, 5, .inl kfs))]) hP [1, 2, 3, 4, 0] rfl
      have hD9 := hD.sub (ws' := [(h, .inr (7, [.ref k, .ref d, .ref j, .ref o, .ref f, .ref g, .ref wk, .ref im, .ref kt, .ref dl])), (o, .inr (3, [.ref k, .ref op, .int (u1.2.1 0), .ref oq, .ref ov, .ref os])), (op, .inl (cI, 6, .inl (u1.1 0))), (k, .inr (0, [.ref ks, .ref kw, .ref kc, .int kwd, .int kbg, .int kme, .ref kq, .ref km, .ref kd, .int ksi, .ref ka, .ref kk])), (ks, .inl (cI, 5, .inl kfs))]) [1, 2, 3, 4, 0] (by decide) rfl
      exact W.iret (v := (-1)) hx hb hr (fun t ht hW => ⟨⟨(-1), ((fun u9 => ([(u1.1 0)] : List (Nat → Int32)).getD u9 (fun _ => 0)), (fun u9 => ([(u1.2.1 0)] : List Int32).getD u9 0), (fun u9 => ([] : List Int64).getD u9 0)), rfl, ⟨hu1_0, (by first | exact Or.inl (⟨rfl, by omega⟩) | exact Or.inr (Or.inl (⟨rfl, trivial⟩)) | exact Or.inr (Or.inr (Or.inl (⟨rfl, trivial⟩))) | exact Or.inr (Or.inr (Or.inr (⟨rfl, trivial⟩))))⟩, by rw [ht]; exact hP9, hD9⟩, hS.F ht⟩) hS.2.2 dX7_spreadRefusal_27
  · skip
    refine lv_istore_n (lv' := [(3, .int (-1)), (0, .ref h), (1, .int i0), (2, .int i1)]) hx hb dX7_spreadRefusal_6 rfl hl (by decide) rfl (fun ls hl => ?_)
    refine lv_iload_n hx hb dX7_spreadRefusal_7 rfl (lv_at hl 0 rfl) ?_
    refine lv_if_eq (tgt := 13) hx hb dX7_spreadRefusal_8 (by decide) (fun c6 => absurd c6 (by decide)) (fun c6 => ?_)
    refine lv_iload_n hx hb dX7_spreadRefusal_11 rfl (lv_at hl 0 rfl) ?_
    have hP9 := mx_subP (wc := [(h, .inr (7, [.ref k, .ref d, .ref j, .ref o, .ref f, .ref g, .ref wk, .ref im, .ref kt, .ref dl])), (o, .inr (3, [.ref k, .ref op, .int (u1.2.1 0), .ref oq, .ref ov, .ref os])), (op, .inl (cI, 6, .inl (u1.1 0))), (k, .inr (0, [.ref ks, .ref kw, .ref kc, .int kwd, .int kbg, .int kme, .ref kq, .ref km, .ref kd, .int ksi, .ref ka, .ref kk])), (ks, .inl (cI, 5, .inl kfs))]) hP [1, 2, 3, 4, 0] rfl
    have hD9 := hD.sub (ws' := [(h, .inr (7, [.ref k, .ref d, .ref j, .ref o, .ref f, .ref g, .ref wk, .ref im, .ref kt, .ref dl])), (o, .inr (3, [.ref k, .ref op, .int (u1.2.1 0), .ref oq, .ref ov, .ref os])), (op, .inl (cI, 6, .inl (u1.1 0))), (k, .inr (0, [.ref ks, .ref kw, .ref kc, .int kwd, .int kbg, .int kme, .ref kq, .ref km, .ref kd, .int ksi, .ref ka, .ref kk])), (ks, .inl (cI, 5, .inl kfs))]) [1, 2, 3, 4, 0] (by decide) rfl
    exact W.iret (v := (-1)) hx hb hr (fun t ht hW => ⟨⟨(-1), ((fun u9 => ([(u1.1 0)] : List (Nat → Int32)).getD u9 (fun _ => 0)), (fun u9 => ([(u1.2.1 0)] : List Int32).getD u9 0), (fun u9 => ([] : List Int64).getD u9 0)), rfl, ⟨hu1_0, (by first | exact Or.inl (⟨rfl, by omega⟩) | exact Or.inr (Or.inl (⟨rfl, trivial⟩)) | exact Or.inr (Or.inr (Or.inl (⟨rfl, trivial⟩))) | exact Or.inr (Or.inr (Or.inr (⟨rfl, trivial⟩))))⟩, by rw [ht]; exact hP9, hD9⟩, hS.F ht⟩) hS.2.2 dX7_spreadRefusal_12
  · skip
    refine lv_istore_n (lv' := [(3, .int (-2)), (0, .ref h), (1, .int i0), (2, .int i1)]) hx hb dX7_spreadRefusal_6 rfl hl (by decide) rfl (fun ls hl => ?_)
    refine lv_iload_n hx hb dX7_spreadRefusal_7 rfl (lv_at hl 0 rfl) ?_
    refine lv_if_eq (tgt := 13) hx hb dX7_spreadRefusal_8 (by decide) (fun c7 => absurd c7 (by decide)) (fun c7 => ?_)
    refine lv_iload_n hx hb dX7_spreadRefusal_11 rfl (lv_at hl 0 rfl) ?_
    have hP9 := mx_subP (wc := [(h, .inr (7, [.ref k, .ref d, .ref j, .ref o, .ref f, .ref g, .ref wk, .ref im, .ref kt, .ref dl])), (o, .inr (3, [.ref k, .ref op, .int (u1.2.1 0), .ref oq, .ref ov, .ref os])), (op, .inl (cI, 6, .inl (u1.1 0))), (k, .inr (0, [.ref ks, .ref kw, .ref kc, .int kwd, .int kbg, .int kme, .ref kq, .ref km, .ref kd, .int ksi, .ref ka, .ref kk])), (ks, .inl (cI, 5, .inl kfs))]) hP [1, 2, 3, 4, 0] rfl
    have hD9 := hD.sub (ws' := [(h, .inr (7, [.ref k, .ref d, .ref j, .ref o, .ref f, .ref g, .ref wk, .ref im, .ref kt, .ref dl])), (o, .inr (3, [.ref k, .ref op, .int (u1.2.1 0), .ref oq, .ref ov, .ref os])), (op, .inl (cI, 6, .inl (u1.1 0))), (k, .inr (0, [.ref ks, .ref kw, .ref kc, .int kwd, .int kbg, .int kme, .ref kq, .ref km, .ref kd, .int ksi, .ref ka, .ref kk])), (ks, .inl (cI, 5, .inl kfs))]) [1, 2, 3, 4, 0] (by decide) rfl
    exact W.iret (v := (-2)) hx hb hr (fun t ht hW => ⟨⟨(-2), ((fun u9 => ([(u1.1 0)] : List (Nat → Int32)).getD u9 (fun _ => 0)), (fun u9 => ([(u1.2.1 0)] : List Int32).getD u9 0), (fun u9 => ([] : List Int64).getD u9 0)), rfl, ⟨hu1_0, (by first | exact Or.inl (⟨rfl, by omega⟩) | exact Or.inr (Or.inl (⟨rfl, trivial⟩)) | exact Or.inr (Or.inr (Or.inl (⟨rfl, trivial⟩))) | exact Or.inr (Or.inr (Or.inr (⟨rfl, trivial⟩))))⟩, by rw [ht]; exact hP9, hD9⟩, hS.F ht⟩) hS.2.2 dX7_spreadRefusal_12
set_option maxHeartbeats 4000000 in
set_option maxRecDepth 100000 in
theorem c_X7_shared (l : Launch) (dC : Nat → ClassId) (dI : Nat → Nat → Nat) (cI cZ cK : ClassId) (tS : Nat) (aK aV : Nat → Nat) (h : Nat) (i0 : Int32) (i1 : Int32) (k : Nat) (d : Nat) (j : Nat) (o : Nat) (f : Nat) (g : Nat) (wk : Nat) (im : Nat) (kt : Nat) (dl : Nat) (op : Nat) (oto : Int32) (oq : Nat) (ov : Nat) (os : Nat) (ofp : Nat → Int32) (ks : Nat) (kw : Nat) (kc : Nat) (kwd : Int32) (kbg : Int32) (kme : Int32) (kq : Nat) (km : Nat) (kd : Nat) (ksi : Int32) (ka : Nat) (kk : Nat) (kfs : Nat → Int32) (kfw : Nat → Int32) (kfq : Nat → Int32) (kfm : Nat → Int32) (sz : Nat) (h_ofp : rg ofp 6 0 9) (h_kfs_4 : 0 ≤ (kfs 4).toInt ∧ (kfs 4).toInt ≤ 13) (h_kfw : rg kfw 14 0 4) : Ci l yX7_shared (wq yX7_shared cX7_shared 4 (some .int)) ({ frames := 4, cells := 0, slots := 0, locals := 95 }) dC dI cI cZ cK tS aK aV [.ref h, .int i0, .int i1] sz [(h, .inr (7, [.ref k, .ref d, .ref j, .ref o, .ref f, .ref g, .ref wk, .ref im, .ref kt, .ref dl])), (o, .inr (3, [.ref k, .ref op, .int oto, .ref oq, .ref ov, .ref os])), (op, .inl (cI, 6, .inl ofp)), (k, .inr (0, [.ref ks, .ref kw, .ref kc, .int kwd, .int kbg, .int kme, .ref kq, .ref km, .ref kd, .int ksi, .ref ka, .ref kk])), (ks, .inl (cI, 5, .inl kfs)), (kw, .inl (cI, 14, .inl kfw)), (kq, .inl (cI, 6, .inl kfq)), (km, .inl (cI, 6, .inl kfm))] (fun (r : Int32) (u : (Nat → Nat → Int32) × (Nat → Int32) × (Nat → Int64)) => rg (u.1 0) 6 0 9 ∧ (shP i0 i1 kme r (u.1 0) (smF (fun j9 => shC ((u.1 0) j9) (kfq j9) (kfm j9) (woF (kfs 3) (kfw i1.toNatClampNeg))) 0 6))) (fun u => [(h, .inr (7, [.ref k, .ref d, .ref j, .ref o, .ref f, .ref g, .ref wk, .ref im, .ref kt, .ref dl])), (o, .inr (3, [.ref k, .ref op, .int (u.2.1 0), .ref oq, .ref ov, .ref os])), (op, .inl (cI, 6, .inl (u.1 0))), (k, .inr (0, [.ref ks, .ref kw, .ref kc, .int kwd, .int kbg, .int kme, .ref kq, .ref km, .ref kd, .int ksi, .ref ka, .ref kk])), (ks, .inl (cI, 5, .inl kfs)), (kw, .inl (cI, 14, .inl kfw)), (kq, .inl (cI, 6, .inl kfq)), (km, .inl (cI, 6, .inl kfm))]) := by
  refine Met.ofW (cc := cX7_shared) (maxL := 4) (ret := (some .int)) (by decide) rfl ?_
  intro p e s m args below meth c s₁ B hml hv
  obtain ⟨rfl, hsz, hP, hKx, hD0⟩ := hv
  have hx := B.exec
  have hb := B.bytes
  have hr := B.returns
  have hts := atoms_spec (ws := wq yX7_shared cX7_shared 4 (some .int)) B.pre
  have hown : s.vm.findClass RX7 = some m.cls := findClass_of_methodNamed B.named
  have hlocks := B.notSynchronized
  subst hsz
  have hD := hD0.self (sz := s.heap.size)
  generalize hAe : va_A [(h, .inr (7, [.ref k, .ref d, .ref j, .ref o, .ref f, .ref g, .ref wk, .ref im, .ref kt, .ref dl])), (o, .inr (3, [.ref k, .ref op, .int oto, .ref oq, .ref ov, .ref os])), (op, .inl (cI, 6, .inl ofp)), (k, .inr (0, [.ref ks, .ref kw, .ref kc, .int kwd, .int kbg, .int kme, .ref kq, .ref km, .ref kd, .int ksi, .ref ka, .ref kk])), (ks, .inl (cI, 5, .inl kfs)), (kw, .inl (cI, 14, .inl kfw)), (kq, .inl (cI, 6, .inl kfq)), (km, .inl (cI, 6, .inl kfm))] s.heap.size = A at hD hKx ⊢
  have hA : ∀ q : Nat, s.heap.size ≤ q → A q := fun q h => by rw [← hAe]; exact Or.inr h
  have hS : va_S A s.heap s.heap [] := va_S.rf
  have hP : va_P (dC, dI) vwCl [(h, .inr (7, [.ref k, .ref d, .ref j, .ref o, .ref f, .ref g, .ref wk, .ref im, .ref kt, .ref dl])), (o, .inr (3, [.ref k, .ref op, .int oto, .ref oq, .ref ov, .ref os])), (op, .inl (cI, 6, .inl ofp)), (k, .inr (0, [.ref ks, .ref kw, .ref kc, .int kwd, .int kbg, .int kme, .ref kq, .ref km, .ref kd, .int ksi, .ref ka, .ref kk])), (ks, .inl (cI, 5, .inl kfs)), (kw, .inl (cI, 14, .inl kfw)), (kq, .inl (cI, 6, .inl kfq)), (km, .inl (cI, 6, .inl kfm))] s.heap := hP
  have hl := lv_entry ([.ref h, .int i0, .int i1]) (n := 4) (Nat.le_of_ble_eq_true rfl)
  rw [lg_entry_eq]
  generalize (lg_sl ([.ref h, .int i0, .int i1]) ++ List.replicate (4 - (lg_sl ([.ref h, .int i0, .int i1])).length) Slot.unset).toArray = ls at hl ⊢
  have hl : lv_has ls 4 [(0, .ref h), (1, .int i0), (2, .int i1)] := hl
  have hK := hKx.1
  have hin7 := fun w9 h9 => List.mem_cons_of_mem (Cond.code yX7_shared cX7_shared 4 (some .int)) (inlX7 w9 h9)
  have hw0 := hts (.fieldLink RX7 37 "OneCan" "order" "LOneCan$Order;") (List.mem_cons_of_mem _ wm_27)
  refine lv_aload_n hx hb dX7_shared_0 rfl (lv_at hl 0 rfl) ?_
  refine lv_iload_n hx hb dX7_shared_1 rfl (lv_at hl 1 rfl) ?_
  refine lv_iload_n hx hb dX7_shared_2 rfl (lv_at hl 2 rfl) ?_
  refine mx_i (wr := [(ks, .inl (cI, 5, .inl kfs)), (kw, .inl (cI, 14, .inl kfw)), (kq, .inl (cI, 6, .inl kfq)), (km, .inl (cI, 6, .inl kfm))]) (va_runV (As := [.int i0, .int i1]) (rest := []) ⟨hx, hb, hml, hown, hts⟩ (c_X7_orderRefusal l dC dI cI cZ cK tS aK aV h i0 i1 k d j o f g wk im kt dl op oto oq ov os ofp ks kw kc kwd kbg kme kq km kd ksi ka kk s.heap.size h_ofp) (cwV 2 hts (gw_v (fun _ h9 => List.mem_cons_of_mem _ h9) wm_567 wm_568 wm_569 wm_2 wm_570) rfl rfl rfl (by decide +kernel) ⟨Nat.le_of_ble_eq_true rfl, Nat.le_of_ble_eq_true rfl⟩) (mx_preV (C := RX7) (T := TX7) (N := 10) (ci := 7) hKx hP hD hS hA [0, 1, 2, 3] (by decide) rfl rfl rfl) rfl rfl hl.1 rfl (lv_room (Nat.le_of_ble_eq_true rfl)) dX7_shared_3 ⟨Nat.le_of_ble_eq_true rfl, Nat.le_of_ble_eq_true rfl⟩) hP hD hS hA [0, 1, 2, 3] [4, 5, 6, 7] rfl rfl (by decide) (by decide) (fun r1 u1 H locs hq1 hP hD hS => ?_)
  replace hP : va_P (dC, dI) vwCl [(ks, .inl (cI, 5, .inl kfs)), (kw, .inl (cI, 14, .inl kfw)), (kq, .inl (cI, 6, .inl kfq)), (km, .inl (cI, 6, .inl kfm)), (h, .inr (7, [.ref k, .ref d, .ref j, .ref o, .ref f, .ref g, .ref wk, .ref im, .ref kt, .ref dl])), (o, .inr (3, [.ref k, .ref op, .int (u1.2.1 0), .ref oq, .ref ov, .ref os])), (op, .inl (cI, 6, .inl (u1.1 0))), (k, .inr (0, [.ref ks, .ref kw, .ref kc, .int kwd, .int kbg, .int kme, .ref kq, .ref km, .ref kd, .int ksi, .ref ka, .ref kk]))] H := hP
  replace hD : va_D A [(ks, .inl (cI, 5, .inl kfs)), (kw, .inl (cI, 14, .inl kfw)), (kq, .inl (cI, 6, .inl kfq)), (km, .inl (cI, 6, .inl kfm)), (h, .inr (7, [.ref k, .ref d, .ref j, .ref o, .ref f, .ref g, .ref wk, .ref im, .ref kt, .ref dl])), (o, .inr (3, [.ref k, .ref op, .int (u1.2.1 0), .ref oq, .ref ov, .ref os])), (op, .inl (cI, 6, .inl (u1.1 0))), (k, .inr (0, [.ref ks, .ref kw, .ref kc, .int kwd, .int kbg, .int kme, .ref kq, .ref km, .ref kd, .int ksi, .ref ka, .ref kk]))] := hD
  obtain ⟨hu1_0, hx1_0, hr1⟩ := hq1
  replace hx1_0 : orP i0 i1 kme r1 (u1.1 0) := hx1_0
  rcases hr1 with ⟨rfl, hf1⟩ | ⟨rfl, hf1⟩ | ⟨rfl, hf1⟩
  · have hf1 : 0 ≤ i1.toInt ∧ i1.toInt ≤ 13 := hf1
    refine lv_istore_n (lv' := [(3, .int 0), (0, .ref h), (1, .int i0), (2, .int i1)]) hx hb dX7_shared_6 rfl hl (by decide) rfl (fun ls hl => ?_)
    refine lv_iload_n hx hb dX7_shared_7 rfl (lv_at hl 0 rfl) ?_
    refine lv_if_eq (tgt := 15) hx hb dX7_shared_8 (by decide) (fun c2 => ?_) (fun c2 => absurd c2 (by decide))
    refine lv_aload_n hx hb dX7_shared_15 rfl (lv_at hl 1 rfl) ?_
    refine va_get (D := (dC, dI)) (ci := 7) (v := .ref o) (C := RX7) (T := TX7) (N := 10) hx hb hts hin7 hown hK hP 4 rfl rfl 3 (by decide) hw0 (fun _ h9 => h9) rfl dX7_shared_16 ?_
    refine lv_iload_n hx hb dX7_shared_19 rfl (lv_at hl 3 rfl) ?_
    refine mx_i (wr := [(h, .inr (7, [.ref k, .ref d, .ref j, .ref o, .ref f, .ref g, .ref wk, .ref im, .ref kt, .ref dl]))]) (va_runV (As := [.int i1]) (rest := []) ⟨hx, hb, hml, hown, hts⟩ (c_X3_inSharedPots l dC dI cI cZ cK tS aK aV o i1 k op (u1.2.1 0) oq ov os (u1.1 0) ks kw kc kwd kbg kme kq km kd ksi ka kk kfs kfw kfq kfm H.size hu1_0 (by first | omega | decide | assumption | trivial) h_kfw (by first | omega | decide | assumption | trivial)) (cwV 1 hts (gw_v (fun _ h9 => List.mem_cons_of_mem _ h9) wm_582 wm_583 wm_584 wm_26 wm_585) rfl rfl rfl (by decide +kernel) ⟨Nat.le_of_ble_eq_true rfl, Nat.le_of_ble_eq_true rfl⟩) (mx_preV (C := RX3) (T := TX3) (N := 6) (ci := 3) hKx hP hD hS hA [5, 6, 7, 0, 1, 2, 3] (by decide) rfl rfl rfl) rfl rfl hl.1 rfl (lv_room (Nat.le_of_ble_eq_true rfl)) dX7_shared_20 ⟨Nat.le_of_ble_eq_true rfl, Nat.le_of_ble_eq_true rfl⟩) hP hD hS hA [5, 6, 7, 0, 1, 2, 3] [4] rfl rfl (by decide) (by decide) (fun r3 u3 H locs hq3 hP hD hS => ?_)
    replace hP : va_P (dC, dI) vwCl [(h, .inr (7, [.ref k, .ref d, .ref j, .ref o, .ref f, .ref g, .ref wk, .ref im, .ref kt, .ref dl])), (o, .inr (3, [.ref k, .ref op, .int (u1.2.1 0), .ref oq, .ref ov, .ref os])), (op, .inl (cI, 6, .inl (u1.1 0))), (k, .inr (0, [.ref ks, .ref kw, .ref kc, .int kwd, .int kbg, .int kme, .ref kq, .ref km, .ref kd, .int ksi, .ref ka, .ref kk])), (ks, .inl (cI, 5, .inl kfs)), (kw, .inl (cI, 14, .inl kfw)), (kq, .inl (cI, 6, .inl kfq)), (km, .inl (cI, 6, .inl kfm))] H := hP
    replace hD : va_D A [(h, .inr (7, [.ref k, .ref d, .ref j, .ref o, .ref f, .ref g, .ref wk, .ref im, .ref kt, .ref dl])), (o, .inr (3, [.ref k, .ref op, .int (u1.2.1 0), .ref oq, .ref ov, .ref os])), (op, .inl (cI, 6, .inl (u1.1 0))), (k, .inr (0, [.ref ks, .ref kw, .ref kc, .int kwd, .int kbg, .int kme, .ref kq, .ref km, .ref kd, .int ksi, .ref ka, .ref kk])), (ks, .inl (cI, 5, .inl kfs)), (kw, .inl (cI, 14, .inl kfw)), (kq, .inl (cI, 6, .inl kfq)), (km, .inl (cI, 6, .inl kfm))] := hD
    have hx3_0 := hq3
    replace hx3_0 : r3 = smF (fun j9 => shC ((u1.1 0) j9) (kfq j9) (kfm j9) (woF (kfs 3) (kfw i1.toNatClampNeg))) 0 6 := hx3_0
    have hP9 := mx_subP (wc := [(h, .inr (7, [.ref k, .ref d, .ref j, .ref o, .ref f, .ref g, .ref wk, .ref im, .ref kt, .ref dl])), (o, .inr (3, [.ref k, .ref op, .int (u1.2.1 0), .ref oq, .ref ov, .ref os])), (op, .inl (cI, 6, .inl (u1.1 0))), (k, .inr (0, [.ref ks, .ref kw, .ref kc, .int kwd, .int kbg, .int kme, .ref kq, .ref km, .ref kd, .int ksi, .ref ka, .ref kk])), (ks, .inl (cI, 5, .inl kfs)), (kw, .inl (cI, 14, .inl kfw)), (kq, .inl (cI, 6, .inl kfq)), (km, .inl (cI, 6, .inl kfm))]) hP [0, 1, 2, 3, 4, 5, 6, 7] rfl
    have hD9 := hD.sub (ws' := [(h, .inr (7, [.ref k, .ref d, .ref j, .ref o, .ref f, .ref g, .ref wk, .ref im, .ref kt, .ref dl])), (o, .inr (3, [.ref k, .ref op, .int (u1.2.1 0), .ref oq, .ref ov, .ref os])), (op, .inl (cI, 6, .inl (u1.1 0))), (k, .inr (0, [.ref ks, .ref kw, .ref kc, .int kwd, .int kbg, .int kme, .ref kq, .ref km, .ref kd, .int ksi, .ref ka, .ref kk])), (ks, .inl (cI, 5, .inl kfs)), (kw, .inl (cI, 14, .inl kfw)), (kq, .inl (cI, 6, .inl kfq)), (km, .inl (cI, 6, .inl kfm))]) [0, 1, 2, 3, 4, 5, 6, 7] (by decide) rfl
    exact W.iret (v := r3) hx hb hr (fun t ht hW => ⟨⟨r3, ((fun u9 => ([(u1.1 0)] : List (Nat → Int32)).getD u9 (fun _ => 0)), (fun u9 => ([(u1.2.1 0)] : List Int32).getD u9 0), (fun u9 => ([] : List Int64).getD u9 0)), rfl, ⟨hu1_0, (show shP i0 i1 kme r3 (u1.1 0) (smF (fun j9 => shC ((u1.1 0) j9) (kfq j9) (kfm j9) (woF (kfs 3) (kfw i1.toNatClampNeg))) 0 6) from (sh_ok hx1_0 rfl hx3_0))⟩, by rw [ht]; exact hP9, hD9⟩, hS.F ht⟩) hS.2.2 dX7_shared_23
  · skip
    refine lv_istore_n (lv' := [(3, .int (-1)), (0, .ref h), (1, .int i0), (2, .int i1)]) hx hb dX7_shared_6 rfl hl (by decide) rfl (fun ls hl => ?_)
    refine lv_iload_n hx hb dX7_shared_7 rfl (lv_at hl 0 rfl) ?_
    refine lv_if_eq (tgt := 15) hx hb dX7_shared_8 (by decide) (fun c4 => absurd c4 (by decide)) (fun c4 => ?_)
    refine lv_iload_n hx hb dX7_shared_11 rfl (lv_at hl 0 rfl) ?_
    refine lv_goto (tgt := 23) hx hb dX7_shared_12 (by decide) ?_
    have hP9 := mx_subP (wc := [(h, .inr (7, [.ref k, .ref d, .ref j, .ref o, .ref f, .ref g, .ref wk, .ref im, .ref kt, .ref dl])), (o, .inr (3, [.ref k, .ref op, .int (u1.2.1 0), .ref oq, .ref ov, .ref os])), (op, .inl (cI, 6, .inl (u1.1 0))), (k, .inr (0, [.ref ks, .ref kw, .ref kc, .int kwd, .int kbg, .int kme, .ref kq, .ref km, .ref kd, .int ksi, .ref ka, .ref kk])), (ks, .inl (cI, 5, .inl kfs)), (kw, .inl (cI, 14, .inl kfw)), (kq, .inl (cI, 6, .inl kfq)), (km, .inl (cI, 6, .inl kfm))]) hP [4, 5, 6, 7, 0, 1, 2, 3] rfl
    have hD9 := hD.sub (ws' := [(h, .inr (7, [.ref k, .ref d, .ref j, .ref o, .ref f, .ref g, .ref wk, .ref im, .ref kt, .ref dl])), (o, .inr (3, [.ref k, .ref op, .int (u1.2.1 0), .ref oq, .ref ov, .ref os])), (op, .inl (cI, 6, .inl (u1.1 0))), (k, .inr (0, [.ref ks, .ref kw, .ref kc, .int kwd, .int kbg, .int kme, .ref kq, .ref km, .ref kd, .int ksi, .ref ka, .ref kk])), (ks, .inl (cI, 5, .inl kfs)), (kw, .inl (cI, 14, .inl kfw)), (kq, .inl (cI, 6, .inl kfq)), (km, .inl (cI, 6, .inl kfm))]) [4, 5, 6, 7, 0, 1, 2, 3] (by decide) rfl
    exact W.iret (v := (-1)) hx hb hr (fun t ht hW => ⟨⟨(-1), ((fun u9 => ([(u1.1 0)] : List (Nat → Int32)).getD u9 (fun _ => 0)), (fun u9 => ([(u1.2.1 0)] : List Int32).getD u9 0), (fun u9 => ([] : List Int64).getD u9 0)), rfl, ⟨hu1_0, (show shP i0 i1 kme ((-1) : Int32) (u1.1 0) (smF (fun j9 => shC ((u1.1 0) j9) (kfq j9) (kfm j9) (woF (kfs 3) (kfw i1.toNatClampNeg))) 0 6) from (sh_or hx1_0 (by decide)))⟩, by rw [ht]; exact hP9, hD9⟩, hS.F ht⟩) hS.2.2 dX7_shared_23
  · skip
    refine lv_istore_n (lv' := [(3, .int (-2)), (0, .ref h), (1, .int i0), (2, .int i1)]) hx hb dX7_shared_6 rfl hl (by decide) rfl (fun ls hl => ?_)
    refine lv_iload_n hx hb dX7_shared_7 rfl (lv_at hl 0 rfl) ?_
    refine lv_if_eq (tgt := 15) hx hb dX7_shared_8 (by decide) (fun c5 => absurd c5 (by decide)) (fun c5 => ?_)
    refine lv_iload_n hx hb dX7_shared_11 rfl (lv_at hl 0 rfl) ?_
    refine lv_goto (tgt := 23) hx hb dX7_shared_12 (by decide) ?_
    have hP9 := mx_subP (wc := [(h, .inr (7, [.ref k, .ref d, .ref j, .ref o, .ref f, .ref g, .ref wk, .ref im, .ref kt, .ref dl])), (o, .inr (3, [.ref k, .ref op, .int (u1.2.1 0), .ref oq, .ref ov, .ref os])), (op, .inl (cI, 6, .inl (u1.1 0))), (k, .inr (0, [.ref ks, .ref kw, .ref kc, .int kwd, .int kbg, .int kme, .ref kq, .ref km, .ref kd, .int ksi, .ref ka, .ref kk])), (ks, .inl (cI, 5, .inl kfs)), (kw, .inl (cI, 14, .inl kfw)), (kq, .inl (cI, 6, .inl kfq)), (km, .inl (cI, 6, .inl kfm))]) hP [4, 5, 6, 7, 0, 1, 2, 3] rfl
    have hD9 := hD.sub (ws' := [(h, .inr (7, [.ref k, .ref d, .ref j, .ref o, .ref f, .ref g, .ref wk, .ref im, .ref kt, .ref dl])), (o, .inr (3, [.ref k, .ref op, .int (u1.2.1 0), .ref oq, .ref ov, .ref os])), (op, .inl (cI, 6, .inl (u1.1 0))), (k, .inr (0, [.ref ks, .ref kw, .ref kc, .int kwd, .int kbg, .int kme, .ref kq, .ref km, .ref kd, .int ksi, .ref ka, .ref kk])), (ks, .inl (cI, 5, .inl kfs)), (kw, .inl (cI, 14, .inl kfw)), (kq, .inl (cI, 6, .inl kfq)), (km, .inl (cI, 6, .inl kfm))]) [4, 5, 6, 7, 0, 1, 2, 3] (by decide) rfl
    exact W.iret (v := (-2)) hx hb hr (fun t ht hW => ⟨⟨(-2), ((fun u9 => ([(u1.1 0)] : List (Nat → Int32)).getD u9 (fun _ => 0)), (fun u9 => ([(u1.2.1 0)] : List Int32).getD u9 0), (fun u9 => ([] : List Int64).getD u9 0)), rfl, ⟨hu1_0, (show shP i0 i1 kme ((-2) : Int32) (u1.1 0) (smF (fun j9 => shC ((u1.1 0) j9) (kfq j9) (kfm j9) (woF (kfs 3) (kfw i1.toNatClampNeg))) 0 6) from (sh_or hx1_0 (by decide)))⟩, by rw [ht]; exact hP9, hD9⟩, hS.F ht⟩) hS.2.2 dX7_shared_23
set_option maxHeartbeats 4000000 in
set_option maxRecDepth 100000 in
theorem c_X7_most (l : Launch) (dC : Nat → ClassId) (dI : Nat → Nat → Nat) (cI cZ cK : ClassId) (tS : Nat) (aK aV : Nat → Nat) (h : Nat) (i0 : Int32) (i1 : Int32) (i2 : Int32) (k : Nat) (d : Nat) (j : Nat) (o : Nat) (f : Nat) (g : Nat) (wk : Nat) (im : Nat) (kt : Nat) (dl : Nat) (op : Nat) (oto : Int32) (oq : Nat) (ov : Nat) (os : Nat) (ofp : Nat → Int32) (ofq : Nat → Int32) (ofv : Nat → Int32) (ks : Nat) (kw : Nat) (kc : Nat) (kwd : Int32) (kbg : Int32) (kme : Int32) (kq : Nat) (km : Nat) (kd : Nat) (ksi : Int32) (ka : Nat) (kk : Nat) (kfs : Nat → Int32) (kfw : Nat → Int32) (kfq : Nat → Int32) (kfm : Nat → Int32) (kfd : Nat → Int32) (sz : Nat) (h_ofp : rg ofp 6 0 9) (h_kfs_4 : 0 ≤ (kfs 4).toInt ∧ (kfs 4).toInt ≤ 13) (h_kfw : rg kfw 14 0 4) : Ci l yX7_most (wq yX7_most cX7_most 5 (some .int)) ({ frames := 8, cells := 0, slots := 0, locals := 213 }) dC dI cI cZ cK tS aK aV [.ref h, .int i0, .int i1, .int i2] sz [(h, .inr (7, [.ref k, .ref d, .ref j, .ref o, .ref f, .ref g, .ref wk, .ref im, .ref kt, .ref dl])), (o, .inr (3, [.ref k, .ref op, .int oto, .ref oq, .ref ov, .ref os])), (op, .inl (cI, 6, .inl ofp)), (oq, .inl (cI, 6, .inl ofq)), (ov, .inl (cI, 6, .inl ofv)), (k, .inr (0, [.ref ks, .ref kw, .ref kc, .int kwd, .int kbg, .int kme, .ref kq, .ref km, .ref kd, .int ksi, .ref ka, .ref kk])), (ks, .inl (cI, 5, .inl kfs)), (kw, .inl (cI, 14, .inl kfw)), (kq, .inl (cI, 6, .inl kfq)), (km, .inl (cI, 6, .inl kfm)), (kd, .inl (cI, 6, .inl kfd))] (fun (r : Int32) (u : (Nat → Nat → Int32) × (Nat → Int32) × (Nat → Int64)) => rg (u.1 0) 6 0 9) (fun u => [(h, .inr (7, [.ref k, .ref d, .ref j, .ref o, .ref f, .ref g, .ref wk, .ref im, .ref kt, .ref dl])), (o, .inr (3, [.ref k, .ref op, .int (u.2.1 0), .ref oq, .ref ov, .ref os])), (op, .inl (cI, 6, .inl (u.1 0))), (oq, .inl (cI, 6, .inl (u.1 1))), (ov, .inl (cI, 6, .inl (u.1 2))), (k, .inr (0, [.ref ks, .ref kw, .ref kc, .int kwd, .int kbg, .int kme, .ref kq, .ref km, .ref kd, .int ksi, .ref ka, .ref kk])), (ks, .inl (cI, 5, .inl kfs)), (kw, .inl (cI, 14, .inl kfw)), (kq, .inl (cI, 6, .inl kfq)), (km, .inl (cI, 6, .inl kfm)), (kd, .inl (cI, 6, .inl kfd))]) := by
  refine Met.ofW (cc := cX7_most) (maxL := 5) (ret := (some .int)) (by decide) rfl ?_
  intro p e s m args below meth c s₁ B hml hv
  obtain ⟨rfl, hsz, hP, hKx, hD0⟩ := hv
  have hx := B.exec
  have hb := B.bytes
  have hr := B.returns
  have hts := atoms_spec (ws := wq yX7_most cX7_most 5 (some .int)) B.pre
  have hown : s.vm.findClass RX7 = some m.cls := findClass_of_methodNamed B.named
  have hlocks := B.notSynchronized
  subst hsz
  have hD := hD0.self (sz := s.heap.size)
  generalize hAe : va_A [(h, .inr (7, [.ref k, .ref d, .ref j, .ref o, .ref f, .ref g, .ref wk, .ref im, .ref kt, .ref dl])), (o, .inr (3, [.ref k, .ref op, .int oto, .ref oq, .ref ov, .ref os])), (op, .inl (cI, 6, .inl ofp)), (oq, .inl (cI, 6, .inl ofq)), (ov, .inl (cI, 6, .inl ofv)), (k, .inr (0, [.ref ks, .ref kw, .ref kc, .int kwd, .int kbg, .int kme, .ref kq, .ref km, .ref kd, .int ksi, .ref ka, .ref kk])), (ks, .inl (cI, 5, .inl kfs)), (kw, .inl (cI, 14, .inl kfw)), (kq, .inl (cI, 6, .inl kfq)), (km, .inl (cI, 6, .inl kfm)), (kd, .inl (cI, 6, .inl kfd))] s.heap.size = A at hD hKx ⊢
  have hA : ∀ q : Nat, s.heap.size ≤ q → A q := fun q h => by rw [← hAe]; exact Or.inr h
  have hS : va_S A s.heap s.heap [] := va_S.rf
  have hP : va_P (dC, dI) vwCl [(h, .inr (7, [.ref k, .ref d, .ref j, .ref o, .ref f, .ref g, .ref wk, .ref im, .ref kt, .ref dl])), (o, .inr (3, [.ref k, .ref op, .int oto, .ref oq, .ref ov, .ref os])), (op, .inl (cI, 6, .inl ofp)), (oq, .inl (cI, 6, .inl ofq)), (ov, .inl (cI, 6, .inl ofv)), (k, .inr (0, [.ref ks, .ref kw, .ref kc, .int kwd, .int kbg, .int kme, .ref kq, .ref km, .ref kd, .int ksi, .ref ka, .ref kk])), (ks, .inl (cI, 5, .inl kfs)), (kw, .inl (cI, 14, .inl kfw)), (kq, .inl (cI, 6, .inl kfq)), (km, .inl (cI, 6, .inl kfm)), (kd, .inl (cI, 6, .inl kfd))] s.heap := hP
  have hl := lv_entry ([.ref h, .int i0, .int i1, .int i2]) (n := 5) (Nat.le_of_ble_eq_true rfl)
  rw [lg_entry_eq]
  generalize (lg_sl ([.ref h, .int i0, .int i1, .int i2]) ++ List.replicate (5 - (lg_sl ([.ref h, .int i0, .int i1, .int i2])).length) Slot.unset).toArray = ls at hl ⊢
  have hl : lv_has ls 5 [(0, .ref h), (1, .int i0), (2, .int i1), (3, .int i2)] := hl
  have hK := hKx.1
  have hin7 := fun w9 h9 => List.mem_cons_of_mem (Cond.code yX7_most cX7_most 5 (some .int)) (inlX7 w9 h9)
  have hw0 := hts (.fieldLink RX7 37 "OneCan" "order" "LOneCan$Order;") (List.mem_cons_of_mem _ wm_27)
  refine lv_iload_n hx hb dX7_most_0 rfl (lv_at hl 3 rfl) ?_
  refine lv_iconst (v := 0) hx hb dX7_most_1 (by decide) ?_
  refine lv_iconst (v := 1) hx hb dX7_most_2 (by decide) ?_
  refine mx_i (wr := [(h, .inr (7, [.ref k, .ref d, .ref j, .ref o, .ref f, .ref g, .ref wk, .ref im, .ref kt, .ref dl])), (o, .inr (3, [.ref k, .ref op, .int oto, .ref oq, .ref ov, .ref os])), (op, .inl (cI, 6, .inl ofp)), (oq, .inl (cI, 6, .inl ofq)), (ov, .inl (cI, 6, .inl ofv)), (k, .inr (0, [.ref ks, .ref kw, .ref kc, .int kwd, .int kbg, .int kme, .ref kq, .ref km, .ref kd, .int ksi, .ref ka, .ref kk])), (ks, .inl (cI, 5, .inl kfs)), (kw, .inl (cI, 14, .inl kfw)), (kq, .inl (cI, 6, .inl kfq)), (km, .inl (cI, 6, .inl kfm)), (kd, .inl (cI, 6, .inl kfd))]) (va_runS (As := [.int i2, .int 0, .int 1]) (rest := []) ⟨hx, hb, hml, hown, hts⟩ (c_X7_isIn l dC dI cI cZ cK tS aK aV i2 0 1 s.heap.size) (va_cwS 3 hts (gw_s (fun _ h9 => List.mem_cons_of_mem _ h9) wm_141 wm_142 wm_2 wm_143) rfl rfl rfl (by decide +kernel) ⟨Nat.le_of_ble_eq_true rfl, Nat.le_of_ble_eq_true rfl⟩) (mx_preS hKx hP hD hS hA [] (by decide) rfl) rfl rfl hl.1 rfl (lv_room (Nat.le_of_ble_eq_true rfl)) dX7_most_3 ⟨Nat.le_of_ble_eq_true rfl, Nat.le_of_ble_eq_true rfl⟩) hP hD hS hA [] [0, 1, 2, 3, 4, 5, 6, 7, 8, 9, 10] rfl rfl (by decide) (by decide) (fun r1 u1 H locs hq1 hP hD hS => ?_)
  replace hP : va_P (dC, dI) vwCl [(h, .inr (7, [.ref k, .ref d, .ref j, .ref o, .ref f, .ref g, .ref wk, .ref im, .ref kt, .ref dl])), (o, .inr (3, [.ref k, .ref op, .int oto, .ref oq, .ref ov, .ref os])), (op, .inl (cI, 6, .inl ofp)), (oq, .inl (cI, 6, .inl ofq)), (ov, .inl (cI, 6, .inl ofv)), (k, .inr (0, [.ref ks, .ref kw, .ref kc, .int kwd, .int kbg, .int kme, .ref kq, .ref km, .ref kd, .int ksi, .ref ka, .ref kk])), (ks, .inl (cI, 5, .inl kfs)), (kw, .inl (cI, 14, .inl kfw)), (kq, .inl (cI, 6, .inl kfq)), (km, .inl (cI, 6, .inl kfm)), (kd, .inl (cI, 6, .inl kfd))] H := hP
  replace hD : va_D A [(h, .inr (7, [.ref k, .ref d, .ref j, .ref o, .ref f, .ref g, .ref wk, .ref im, .ref kt, .ref dl])), (o, .inr (3, [.ref k, .ref op, .int oto, .ref oq, .ref ov, .ref os])), (op, .inl (cI, 6, .inl ofp)), (oq, .inl (cI, 6, .inl ofq)), (ov, .inl (cI, 6, .inl ofv)), (k, .inr (0, [.ref ks, .ref kw, .ref kc, .int kwd, .int kbg, .int kme, .ref kq, .ref km, .ref kd, .int ksi, .ref ka, .ref kk])), (ks, .inl (cI, 5, .inl kfs)), (kw, .inl (cI, 14, .inl kfw)), (kq, .inl (cI, 6, .inl kfq)), (km, .inl (cI, 6, .inl kfm)), (kd, .inl (cI, 6, .inl kfd))] := hD
  rcases hq1 with ⟨rfl, hf1⟩ | ⟨rfl, hf1⟩
  · have hf1 : (0 : Int) ≤ i2.toInt ∧ i2.toInt ≤ (1 : Int) := hf1
    refine lv_if_ne (tgt := 12) hx hb dX7_most_6 (by decide) (fun c2 => ?_) (fun c2 => absurd c2 (by decide))
    refine lv_aload_n hx hb dX7_most_12 rfl (lv_at hl 0 rfl) ?_
    refine lv_iload_n hx hb dX7_most_13 rfl (lv_at hl 1 rfl) ?_
    refine lv_iload_n hx hb dX7_most_14 rfl (lv_at hl 2 rfl) ?_
    refine mx_i (wr := [(oq, .inl (cI, 6, .inl ofq)), (ov, .inl (cI, 6, .inl ofv)), (kw, .inl (cI, 14, .inl kfw)), (kq, .inl (cI, 6, .inl kfq)), (km, .inl (cI, 6, .inl kfm)), (kd, .inl (cI, 6, .inl kfd))]) (va_runV (As := [.int i0, .int i1]) (rest := []) ⟨hx, hb, hml, hown, hts⟩ (c_X7_spreadRefusal l dC dI cI cZ cK tS aK aV h i0 i1 k d j o f g wk im kt dl op oto oq ov os ofp ks kw kc kwd kbg kme kq km kd ksi ka kk kfs H.size h_ofp (by first | omega | decide | assumption | trivial)) (cwV 2 hts (gw_v (fun _ h9 => List.mem_cons_of_mem _ h9) wm_616 wm_617 wm_618 wm_2 wm_619) rfl rfl rfl (by decide +kernel) ⟨Nat.le_of_ble_eq_true rfl, Nat.le_of_ble_eq_true rfl⟩) (mx_preV (C := RX7) (T := TX7) (N := 10) (ci := 7) hKx hP hD hS hA [0, 1, 2, 5, 6] (by decide) rfl rfl rfl) rfl rfl hl.1 rfl (lv_room (Nat.le_of_ble_eq_true rfl)) dX7_most_15 ⟨Nat.le_of_ble_eq_true rfl, Nat.le_of_ble_eq_true rfl⟩) hP hD hS hA [0, 1, 2, 5, 6] [3, 4, 7, 8, 9, 10] rfl rfl (by decide) (by decide) (fun r3 u3 H locs hq3 hP hD hS => ?_)
    replace hP : va_P (dC, dI) vwCl [(oq, .inl (cI, 6, .inl ofq)), (ov, .inl (cI, 6, .inl ofv)), (kw, .inl (cI, 14, .inl kfw)), (kq, .inl (cI, 6, .inl kfq)), (km, .inl (cI, 6, .inl kfm)), (kd, .inl (cI, 6, .inl kfd)), (h, .inr (7, [.ref k, .ref d, .ref j, .ref o, .ref f, .ref g, .ref wk, .ref im, .ref kt, .ref dl])), (o, .inr (3, [.ref k, .ref op, .int (u3.2.1 0), .ref oq, .ref ov, .ref os])), (op, .inl (cI, 6, .inl (u3.1 0))), (k, .inr (0, [.ref ks, .ref kw, .ref kc, .int kwd, .int kbg, .int kme, .ref kq, .ref km, .ref kd, .int ksi, .ref ka, .ref kk])), (ks, .inl (cI, 5, .inl kfs))] H := hP
    replace hD : va_D A [(oq, .inl (cI, 6, .inl ofq)), (ov, .inl (cI, 6, .inl ofv)), (kw, .inl (cI, 14, .inl kfw)), (kq, .inl (cI, 6, .inl kfq)), (km, .inl (cI, 6, .inl kfm)), (kd, .inl (cI, 6, .inl kfd)), (h, .inr (7, [.ref k, .ref d, .ref j, .ref o, .ref f, .ref g, .ref wk, .ref im, .ref kt, .ref dl])), (o, .inr (3, [.ref k, .ref op, .int (u3.2.1 0), .ref oq, .ref ov, .ref os])), (op, .inl (cI, 6, .inl (u3.1 0))), (k, .inr (0, [.ref ks, .ref kw, .ref kc, .int kwd, .int kbg, .int kme, .ref kq, .ref km, .ref kd, .int ksi, .ref ka, .ref kk])), (ks, .inl (cI, 5, .inl kfs))] := hD
    obtain ⟨hu3_0, hr3⟩ := hq3
    rcases hr3 with ⟨rfl, hf3⟩ | ⟨rfl, hf3⟩ | ⟨rfl, hf3⟩ | ⟨rfl, hf3⟩
    · have hf3 : 0 ≤ i1.toInt ∧ i1.toInt ≤ 13 := hf3
      refine lv_istore (lv' := [(4, .int 0), (0, .ref h), (1, .int i0), (2, .int i1), (3, .int i2)]) hx hb dX7_most_18 hl (by decide) rfl (fun ls hl => ?_)
      refine lv_iload hx hb dX7_most_20 (lv_at hl 0 rfl) ?_
      refine lv_if_eq (tgt := 30) hx hb dX7_most_22 (by decide) (fun c4 => ?_) (fun c4 => absurd c4 (by decide))
      refine lv_aload_n hx hb dX7_most_30 rfl (lv_at hl 1 rfl) ?_
      refine va_get (D := (dC, dI)) (ci := 7) (v := .ref o) (C := RX7) (T := TX7) (N := 10) hx hb hts hin7 hown hK hP 6 rfl rfl 3 (by decide) hw0 (fun _ h9 => h9) rfl dX7_most_31 ?_
      refine lv_iload_n hx hb dX7_most_34 rfl (lv_at hl 3 rfl) ?_
      refine lv_iload_n hx hb dX7_most_35 rfl (lv_at hl 4 rfl) ?_
      refine lv_iconst (v := 1) hx hb dX7_most_36 (by decide) ?_
      refine lv_icmp_ne (tgt := 44) hx hb dX7_most_37 (by decide) (fun c5 => ?_) (fun c5 => ?_)
      · have t5 : i2.toInt ≠ (1 : Int) := (tne c5)
        refine lv_iconst (v := 0) hx hb dX7_most_44 (by decide) ?_
        refine mx_i (wr := [(h, .inr (7, [.ref k, .ref d, .ref j, .ref o, .ref f, .ref g, .ref wk, .ref im, .ref kt, .ref dl]))]) (va_runV (As := [.int i1, .int 0]) (rest := []) ⟨hx, hb, hml, hown, hts⟩ (c_X3_mostWithin l dC dI cI cZ cK tS aK aV o i1 0 k op (u3.2.1 0) oq ov os (u3.1 0) ofq ofv ks kw kc kwd kbg kme kq km kd ksi ka kk kfs kfw kfq kfm kfd H.size hu3_0 (by have z8 : (0 : Int32).toInt = 0 := rfl; first | omega | decide | assumption | trivial) h_kfw (by have z8 : (0 : Int32).toInt = 0 := rfl; first | omega | decide | assumption | trivial) (by have z8 : (0 : Int32).toInt = 0 := rfl; first | omega | decide | assumption | trivial)) (cwV 2 hts (gw_v (fun _ h9 => List.mem_cons_of_mem _ h9) wm_621 wm_622 wm_623 wm_26 wm_624) rfl rfl rfl (by decide +kernel) ⟨Nat.le_of_ble_eq_true rfl, Nat.le_of_ble_eq_true rfl⟩) (mx_preV (C := RX3) (T := TX3) (N := 6) (ci := 3) hKx hP hD hS hA [7, 8, 0, 1, 9, 10, 2, 3, 4, 5] (by decide) rfl rfl rfl) rfl rfl hl.1 rfl (lv_room (Nat.le_of_ble_eq_true rfl)) dX7_most_45 ⟨Nat.le_of_ble_eq_true rfl, Nat.le_of_ble_eq_true rfl⟩) hP hD hS hA [7, 8, 0, 1, 9, 10, 2, 3, 4, 5] [6] rfl rfl (by decide) (by decide) (fun r6 u6 H locs hq6 hP hD hS => ?_)
        replace hP : va_P (dC, dI) vwCl [(h, .inr (7, [.ref k, .ref d, .ref j, .ref o, .ref f, .ref g, .ref wk, .ref im, .ref kt, .ref dl])), (o, .inr (3, [.ref k, .ref op, .int (u3.2.1 0), .ref oq, .ref ov, .ref os])), (op, .inl (cI, 6, .inl (u6.1 0))), (oq, .inl (cI, 6, .inl (u6.1 1))), (ov, .inl (cI, 6, .inl (u6.1 2))), (k, .inr (0, [.ref ks, .ref kw, .ref kc, .int kwd, .int kbg, .int kme, .ref kq, .ref km, .ref kd, .int ksi, .ref ka, .ref kk])), (ks, .inl (cI, 5, .inl kfs)), (kw, .inl (cI, 14, .inl kfw)), (kq, .inl (cI, 6, .inl kfq)), (km, .inl (cI, 6, .inl kfm)), (kd, .inl (cI, 6, .inl kfd))] H := hP
        replace hD : va_D A [(h, .inr (7, [.ref k, .ref d, .ref j, .ref o, .ref f, .ref g, .ref wk, .ref im, .ref kt, .ref dl])), (o, .inr (3, [.ref k, .ref op, .int (u3.2.1 0), .ref oq, .ref ov, .ref os])), (op, .inl (cI, 6, .inl (u6.1 0))), (oq, .inl (cI, 6, .inl (u6.1 1))), (ov, .inl (cI, 6, .inl (u6.1 2))), (k, .inr (0, [.ref ks, .ref kw, .ref kc, .int kwd, .int kbg, .int kme, .ref kq, .ref km, .ref kd, .int ksi, .ref ka, .ref kk])), (ks, .inl (cI, 5, .inl kfs)), (kw, .inl (cI, 14, .inl kfw)), (kq, .inl (cI, 6, .inl kfq)), (km, .inl (cI, 6, .inl kfm)), (kd, .inl (cI, 6, .inl kfd))] := hD
        have hu6_0 := hq6
        have hP9 := mx_subP (wc := [(h, .inr (7, [.ref k, .ref d, .ref j, .ref o, .ref f, .ref g, .ref wk, .ref im, .ref kt, .ref dl])), (o, .inr (3, [.ref k, .ref op, .int (u3.2.1 0), .ref oq, .ref ov, .ref os])), (op, .inl (cI, 6, .inl (u6.1 0))), (oq, .inl (cI, 6, .inl (u6.1 1))), (ov, .inl (cI, 6, .inl (u6.1 2))), (k, .inr (0, [.ref ks, .ref kw, .ref kc, .int kwd, .int kbg, .int kme, .ref kq, .ref km, .ref kd, .int ksi, .ref ka, .ref kk])), (ks, .inl (cI, 5, .inl kfs)), (kw, .inl (cI, 14, .inl kfw)), (kq, .inl (cI, 6, .inl kfq)), (km, .inl (cI, 6, .inl kfm)), (kd, .inl (cI, 6, .inl kfd))]) hP [0, 1, 2, 3, 4, 5, 6, 7, 8, 9, 10] rfl
        have hD9 := hD.sub (ws' := [(h, .inr (7, [.ref k, .ref d, .ref j, .ref o, .ref f, .ref g, .ref wk, .ref im, .ref kt, .ref dl])), (o, .inr (3, [.ref k, .ref op, .int (u3.2.1 0), .ref oq, .ref ov, .ref os])), (op, .inl (cI, 6, .inl (u6.1 0))), (oq, .inl (cI, 6, .inl (u6.1 1))), (ov, .inl (cI, 6, .inl (u6.1 2))), (k, .inr (0, [.ref ks, .ref kw, .ref kc, .int kwd, .int kbg, .int kme, .ref kq, .ref km, .ref kd, .int ksi, .ref ka, .ref kk])), (ks, .inl (cI, 5, .inl kfs)), (kw, .inl (cI, 14, .inl kfw)), (kq, .inl (cI, 6, .inl kfq)), (km, .inl (cI, 6, .inl kfm)), (kd, .inl (cI, 6, .inl kfd))]) [0, 1, 2, 3, 4, 5, 6, 7, 8, 9, 10] (by decide) rfl
        exact W.iret (v := r6) hx hb hr (fun t ht hW => ⟨⟨r6, ((fun u9 => ([(u6.1 0), (u6.1 1), (u6.1 2)] : List (Nat → Int32)).getD u9 (fun _ => 0)), (fun u9 => ([(u3.2.1 0)] : List Int32).getD u9 0), (fun u9 => ([] : List Int64).getD u9 0)), rfl, hu6_0, by rw [ht]; exact hP9, hD9⟩, hS.F ht⟩) hS.2.2 dX7_most_48
      · have t5 : i2.toInt = (1 : Int) := (teq c5)
        refine lv_iconst (v := 1) hx hb dX7_most_40 (by decide) ?_
        refine lv_goto (tgt := 45) hx hb dX7_most_41 (by decide) ?_
        refine mx_i (wr := [(h, .inr (7, [.ref k, .ref d, .ref j, .ref o, .ref f, .ref g, .ref wk, .ref im, .ref kt, .ref dl]))]) (va_runV (As := [.int i1, .int 1]) (rest := []) ⟨hx, hb, hml, hown, hts⟩ (c_X3_mostWithin l dC dI cI cZ cK tS aK aV o i1 1 k op (u3.2.1 0) oq ov os (u3.1 0) ofq ofv ks kw kc kwd kbg kme kq km kd ksi ka kk kfs kfw kfq kfm kfd H.size hu3_0 (by have z8 : (1 : Int32).toInt = 1 := rfl; first | omega | decide | assumption | trivial) h_kfw (by have z8 : (1 : Int32).toInt = 1 := rfl; first | omega | decide | assumption | trivial) (by have z8 : (1 : Int32).toInt = 1 := rfl; first | omega | decide | assumption | trivial)) (cwV 2 hts (gw_v (fun _ h9 => List.mem_cons_of_mem _ h9) wm_621 wm_622 wm_623 wm_26 wm_624) rfl rfl rfl (by decide +kernel) ⟨Nat.le_of_ble_eq_true rfl, Nat.le_of_ble_eq_true rfl⟩) (mx_preV (C := RX3) (T := TX3) (N := 6) (ci := 3) hKx hP hD hS hA [7, 8, 0, 1, 9, 10, 2, 3, 4, 5] (by decide) rfl rfl rfl) rfl rfl hl.1 rfl (lv_room (Nat.le_of_ble_eq_true rfl)) dX7_most_45 ⟨Nat.le_of_ble_eq_true rfl, Nat.le_of_ble_eq_true rfl⟩) hP hD hS hA [7, 8, 0, 1, 9, 10, 2, 3, 4, 5] [6] rfl rfl (by decide) (by decide) (fun r7 u7 H locs hq7 hP hD hS => ?_)
        replace hP : va_P (dC, dI) vwCl [(h, .inr (7, [.ref k, .ref d, .ref j, .ref o, .ref f, .ref g, .ref wk, .ref im, .ref kt, .ref dl])), (o, .inr (3, [.ref k, .ref op, .int (u3.2.1 0), .ref oq, .ref ov, .ref os])), (op, .inl (cI, 6, .inl (u7.1 0))), (oq, .inl (cI, 6, .inl (u7.1 1))), (ov, .inl (cI, 6, .inl (u7.1 2))), (k, .inr (0, [.ref ks, .ref kw, .ref kc, .int kwd, .int kbg, .int kme, .ref kq, .ref km, .ref kd, .int ksi, .ref ka, .ref kk])), (ks, .inl (cI, 5, .inl kfs)), (kw, .inl (cI, 14, .inl kfw)), (kq, .inl (cI, 6, .inl kfq)), (km, .inl (cI, 6, .inl kfm)), (kd, .inl (cI, 6, .inl kfd))] H := hP
        replace hD : va_D A [(h, .inr (7, [.ref k, .ref d, .ref j, .ref o, .ref f, .ref g, .ref wk, .ref im, .ref kt, .ref dl])), (o, .inr (3, [.ref k, .ref op, .int (u3.2.1 0), .ref oq, .ref ov, .ref os])), (op, .inl (cI, 6, .inl (u7.1 0))), (oq, .inl (cI, 6, .inl (u7.1 1))), (ov, .inl (cI, 6, .inl (u7.1 2))), (k, .inr (0, [.ref ks, .ref kw, .ref kc, .int kwd, .int kbg, .int kme, .ref kq, .ref km, .ref kd, .int ksi, .ref ka, .ref kk])), (ks, .inl (cI, 5, .inl kfs)), (kw, .inl (cI, 14, .inl kfw)), (kq, .inl (cI, 6, .inl kfq)), (km, .inl (cI, 6, .inl kfm)), (kd, .inl (cI, 6, .inl kfd))] := hD
        have hu7_0 := hq7
        have hP9 := mx_subP (wc := [(h, .inr (7, [.ref k, .ref d, .ref j, .ref o, .ref f, .ref g, .ref wk, .ref im, .ref kt, .ref dl])), (o, .inr (3, [.ref k, .ref op, .int (u3.2.1 0), .ref oq, .ref ov, .ref os])), (op, .inl (cI, 6, .inl (u7.1 0))), (oq, .inl (cI, 6, .inl (u7.1 1))), (ov, .inl (cI, 6, .inl (u7.1 2))), (k, .inr (0, [.ref ks, .ref kw, .ref kc, .int kwd, .int kbg, .int kme, .ref kq, .ref km, .ref kd, .int ksi, .ref ka, .ref kk])), (ks, .inl (cI, 5, .inl kfs)), (kw, .inl (cI, 14, .inl kfw)), (kq, .inl (cI, 6, .inl kfq)), (km, .inl (cI, 6, .inl kfm)), (kd, .inl (cI, 6, .inl kfd))]) hP [0, 1, 2, 3, 4, 5, 6, 7, 8, 9, 10] rfl
        have hD9 := hD.sub (ws' := [(h, .inr (7, [.ref k, .ref d, .ref j, .ref o, .ref f, .ref g, .ref wk, .ref im, .ref kt, .ref dl])), (o, .inr (3, [.ref k, .ref op, .int (u3.2.1 0), .ref oq, .ref ov, .ref os])), (op, .inl (cI, 6, .inl (u7.1 0))), (oq, .inl (cI, 6, .inl (u7.1 1))), (ov, .inl (cI, 6, .inl (u7.1 2))), (k, .inr (0, [.ref ks, .ref kw, .ref kc, .int kwd, .int kbg, .int kme, .ref kq, .ref km, .ref kd, .int ksi, .ref ka, .ref kk])), (ks, .inl (cI, 5, .inl kfs)), (kw, .inl (cI, 14, .inl kfw)), (kq, .inl (cI, 6, .inl kfq)), (km, .inl (cI, 6, .inl kfm)), (kd, .inl (cI, 6, .inl kfd))]) [0, 1, 2, 3, 4, 5, 6, 7, 8, 9, 10] (by decide) rfl
        exact W.iret (v := r7) hx hb hr (fun t ht hW => ⟨⟨r7, ((fun u9 => ([(u7.1 0), (u7.1 1), (u7.1 2)] : List (Nat → Int32)).getD u9 (fun _ => 0)), (fun u9 => ([(u3.2.1 0)] : List Int32).getD u9 0), (fun u9 => ([] : List Int64).getD u9 0)), rfl, hu7_0, by rw [ht]; exact hP9, hD9⟩, hS.F ht⟩) hS.2.2 dX7_most_48
    · skip
      refine lv_istore (lv' := [(4, .int (-1)), (0, .ref h), (1, .int i0), (2, .int i1), (3, .int i2)]) hx hb dX7_most_18 hl (by decide) rfl (fun ls hl => ?_)
      refine lv_iload hx hb dX7_most_20 (lv_at hl 0 rfl) ?_
      refine lv_if_eq (tgt := 30) hx hb dX7_most_22 (by decide) (fun c8 => absurd c8 (by decide)) (fun c8 => ?_)
      refine lv_iload hx hb dX7_most_25 (lv_at hl 0 rfl) ?_
      refine lv_goto (tgt := 48) hx hb dX7_most_27 (by decide) ?_
      have hP9 := mx_subP (wc := [(h, .inr (7, [.ref k, .ref d, .ref j, .ref o, .ref f, .ref g, .ref wk, .ref im, .ref kt, .ref dl])), (o, .inr (3, [.ref k, .ref op, .int (u3.2.1 0), .ref oq, .ref ov, .ref os])), (op, .inl (cI, 6, .inl (u3.1 0))), (oq, .inl (cI, 6, .inl ofq)), (ov, .inl (cI, 6, .inl ofv)), (k, .inr (0, [.ref ks, .ref kw, .ref kc, .int kwd, .int kbg, .int kme, .ref kq, .ref km, .ref kd, .int ksi, .ref ka, .ref kk])), (ks, .inl (cI, 5, .inl kfs)), (kw, .inl (cI, 14, .inl kfw)), (kq, .inl (cI, 6, .inl kfq)), (km, .inl (cI, 6, .inl kfm)), (kd, .inl (cI, 6, .inl kfd))]) hP [6, 7, 8, 0, 1, 9, 10, 2, 3, 4, 5] rfl
      have hD9 := hD.sub (ws' := [(h, .inr (7, [.ref k, .ref d, .ref j, .ref o, .ref f, .ref g, .ref wk, .ref im, .ref kt, .ref dl])), (o, .inr (3, [.ref k, .ref op, .int (u3.2.1 0), .ref oq, .ref ov, .ref os])), (op, .inl (cI, 6, .inl (u3.1 0))), (oq, .inl (cI, 6, .inl ofq)), (ov, .inl (cI, 6, .inl ofv)), (k, .inr (0, [.ref ks, .ref kw, .ref kc, .int kwd, .int kbg, .int kme, .ref kq, .ref km, .ref kd, .int ksi, .ref ka, .ref kk])), (ks, .inl (cI, 5, .inl kfs)), (kw, .inl (cI, 14, .inl kfw)), (kq, .inl (cI, 6, .inl kfq)), (km, .inl (cI, 6, .inl kfm)), (kd, .inl (cI, 6, .inl kfd))]) [6, 7, 8, 0, 1, 9, 10, 2, 3, 4, 5] (by decide) rfl
      exact W.iret (v := (-1)) hx hb hr (fun t ht hW => ⟨⟨(-1), ((fun u9 => ([(u3.1 0), ofq, ofv] : List (Nat → Int32)).getD u9 (fun _ => 0)), (fun u9 => ([(u3.2.1 0)] : List Int32).getD u9 0), (fun u9 => ([] : List Int64).getD u9 0)), rfl, hu3_0, by rw [ht]; exact hP9, hD9⟩, hS.F ht⟩) hS.2.2 dX7_most_48
    · skip
      refine lv_istore (lv' := [(4, .int (-2)), (0, .ref h), (1, .int i0), (2, .int i1), (3, .int i2)]) hx hb dX7_most_18 hl (by decide) rfl (fun ls hl => ?_)
      refine lv_iload hx hb dX7_most_20 (lv_at hl 0 rfl) ?_
      refine lv_if_eq (tgt := 30) hx hb dX7_most_22 (by decide) (fun c9 => absurd c9 (by decide)) (fun c9 => ?_)
      refine lv_iload hx hb dX7_most_25 (lv_at hl 0 rfl) ?_
      refine lv_goto (tgt := 48) hx hb dX7_most_27 (by decide) ?_
      have hP9 := mx_subP (wc := [(h, .inr (7, [.ref k, .ref d, .ref j, .ref o, .ref f, .ref g, .ref wk, .ref im, .ref kt, .ref dl])), (o, .inr (3, [.ref k, .ref op, .int (u3.2.1 0), .ref oq, .ref ov, .ref os])), (op, .inl (cI, 6, .inl (u3.1 0))), (oq, .inl (cI, 6, .inl ofq)), (ov, .inl (cI, 6, .inl ofv)), (k, .inr (0, [.ref ks, .ref kw, .ref kc, .int kwd, .int kbg, .int kme, .ref kq, .ref km, .ref kd, .int ksi, .ref ka, .ref kk])), (ks, .inl (cI, 5, .inl kfs)), (kw, .inl (cI, 14, .inl kfw)), (kq, .inl (cI, 6, .inl kfq)), (km, .inl (cI, 6, .inl kfm)), (kd, .inl (cI, 6, .inl kfd))]) hP [6, 7, 8, 0, 1, 9, 10, 2, 3, 4, 5] rfl
      have hD9 := hD.sub (ws' := [(h, .inr (7, [.ref k, .ref d, .ref j, .ref o, .ref f, .ref g, .ref wk, .ref im, .ref kt, .ref dl])), (o, .inr (3, [.ref k, .ref op, .int (u3.2.1 0), .ref oq, .ref ov, .ref os])), (op, .inl (cI, 6, .inl (u3.1 0))), (oq, .inl (cI, 6, .inl ofq)), (ov, .inl (cI, 6, .inl ofv)), (k, .inr (0, [.ref ks, .ref kw, .ref kc, .int kwd, .int kbg, .int kme, .ref kq, .ref km, .ref kd, .int ksi, .ref ka, .ref kk])), (ks, .inl (cI, 5, .inl kfs)), (kw, .inl (cI, 14, .inl kfw)), (kq, .inl (cI, 6, .inl kfq)), (km, .inl (cI, 6, .inl kfm)), (kd, .inl (cI, 6, .inl kfd))]) [6, 7, 8, 0, 1, 9, 10, 2, 3, 4, 5] (by decide) rfl
      exact W.iret (v := (-2)) hx hb hr (fun t ht hW => ⟨⟨(-2), ((fun u9 => ([(u3.1 0), ofq, ofv] : List (Nat → Int32)).getD u9 (fun _ => 0)), (fun u9 => ([(u3.2.1 0)] : List Int32).getD u9 0), (fun u9 => ([] : List Int64).getD u9 0)), rfl, hu3_0, by rw [ht]; exact hP9, hD9⟩, hS.F ht⟩) hS.2.2 dX7_most_48
    · skip
      refine lv_istore (lv' := [(4, .int (-4)), (0, .ref h), (1, .int i0), (2, .int i1), (3, .int i2)]) hx hb dX7_most_18 hl (by decide) rfl (fun ls hl => ?_)
      refine lv_iload hx hb dX7_most_20 (lv_at hl 0 rfl) ?_
      refine lv_if_eq (tgt := 30) hx hb dX7_most_22 (by decide) (fun c10 => absurd c10 (by decide)) (fun c10 => ?_)
      refine lv_iload hx hb dX7_most_25 (lv_at hl 0 rfl) ?_
      refine lv_goto (tgt := 48) hx hb dX7_most_27 (by decide) ?_
      have hP9 := mx_subP (wc := [(h, .inr (7, [.ref k, .ref d, .ref j, .ref o, .ref f, .ref g, .ref wk, .ref im, .ref kt, .ref dl])), (o, .inr (3, [.ref k, .ref op, .int (u3.2.1 0), .ref oq, .ref ov, .ref os])), (op, .inl (cI, 6, .inl (u3.1 0))), (oq, .inl (cI, 6, .inl ofq)), (ov, .inl (cI, 6, .inl ofv)), (k, .inr (0, [.ref ks, .ref kw, .ref kc, .int kwd, .int kbg, .int kme, .ref kq, .ref km, .ref kd, .int ksi, .ref ka, .ref kk])), (ks, .inl (cI, 5, .inl kfs)), (kw, .inl (cI, 14, .inl kfw)), (kq, .inl (cI, 6, .inl kfq)), (km, .inl (cI, 6, .inl kfm)), (kd, .inl (cI, 6, .inl kfd))]) hP [6, 7, 8, 0, 1, 9, 10, 2, 3, 4, 5] rfl
      have hD9 := hD.sub (ws' := [(h, .inr (7, [.ref k, .ref d, .ref j, .ref o, .ref f, .ref g, .ref wk, .ref im, .ref kt, .ref dl])), (o, .inr (3, [.ref k, .ref op, .int (u3.2.1 0), .ref oq, .ref ov, .ref os])), (op, .inl (cI, 6, .inl (u3.1 0))), (oq, .inl (cI, 6, .inl ofq)), (ov, .inl (cI, 6, .inl ofv)), (k, .inr (0, [.ref ks, .ref kw, .ref kc, .int kwd, .int kbg, .int kme, .ref kq, .ref km, .ref kd, .int ksi, .ref ka, .ref kk])), (ks, .inl (cI, 5, .inl kfs)), (kw, .inl (cI, 14, .inl kfw)), (kq, .inl (cI, 6, .inl kfq)), (km, .inl (cI, 6, .inl kfm)), (kd, .inl (cI, 6, .inl kfd))]) [6, 7, 8, 0, 1, 9, 10, 2, 3, 4, 5] (by decide) rfl
      exact W.iret (v := (-4)) hx hb hr (fun t ht hW => ⟨⟨(-4), ((fun u9 => ([(u3.1 0), ofq, ofv] : List (Nat → Int32)).getD u9 (fun _ => 0)), (fun u9 => ([(u3.2.1 0)] : List Int32).getD u9 0), (fun u9 => ([] : List Int64).getD u9 0)), rfl, hu3_0, by rw [ht]; exact hP9, hD9⟩, hS.F ht⟩) hS.2.2 dX7_most_48
  · have hf1 : i2.toInt < (0 : Int) ∨ (1 : Int) < i2.toInt := hf1
    refine lv_if_ne (tgt := 12) hx hb dX7_most_6 (by decide) (fun c11 => absurd c11 (by decide)) (fun c11 => ?_)
    refine lv_bipush (v := (-2)) hx hb dX7_most_9 (by decide) ?_
    have hP9 := mx_subP (wc := [(h, .inr (7, [.ref k, .ref d, .ref j, .ref o, .ref f, .ref g, .ref wk, .ref im, .ref kt, .ref dl])), (o, .inr (3, [.ref k, .ref op, .int oto, .ref oq, .ref ov, .ref os])), (op, .inl (cI, 6, .inl ofp)), (oq, .inl (cI, 6, .inl ofq)), (ov, .inl (cI, 6, .inl ofv)), (k, .inr (0, [.ref ks, .ref kw, .ref kc, .int kwd, .int kbg, .int kme, .ref kq, .ref km, .ref kd, .int ksi, .ref ka, .ref kk])), (ks, .inl (cI, 5, .inl kfs)), (kw, .inl (cI, 14, .inl kfw)), (kq, .inl (cI, 6, .inl kfq)), (km, .inl (cI, 6, .inl kfm)), (kd, .inl (cI, 6, .inl kfd))]) hP [0, 1, 2, 3, 4, 5, 6, 7, 8, 9, 10] rfl
    have hD9 := hD.sub (ws' := [(h, .inr (7, [.ref k, .ref d, .ref j, .ref o, .ref f, .ref g, .ref wk, .ref im, .ref kt, .ref dl])), (o, .inr (3, [.ref k, .ref op, .int oto, .ref oq, .ref ov, .ref os])), (op, .inl (cI, 6, .inl ofp)), (oq, .inl (cI, 6, .inl ofq)), (ov, .inl (cI, 6, .inl ofv)), (k, .inr (0, [.ref ks, .ref kw, .ref kc, .int kwd, .int kbg, .int kme, .ref kq, .ref km, .ref kd, .int ksi, .ref ka, .ref kk])), (ks, .inl (cI, 5, .inl kfs)), (kw, .inl (cI, 14, .inl kfw)), (kq, .inl (cI, 6, .inl kfq)), (km, .inl (cI, 6, .inl kfm)), (kd, .inl (cI, 6, .inl kfd))]) [0, 1, 2, 3, 4, 5, 6, 7, 8, 9, 10] (by decide) rfl
    exact W.iret (v := (-2)) hx hb hr (fun t ht hW => ⟨⟨(-2), ((fun u9 => ([ofp, ofq, ofv] : List (Nat → Int32)).getD u9 (fun _ => 0)), (fun u9 => ([oto] : List Int32).getD u9 0), (fun u9 => ([] : List Int64).getD u9 0)), rfl, h_ofp, by rw [ht]; exact hP9, hD9⟩, hS.F ht⟩) hS.2.2 dX7_most_11
set_option maxHeartbeats 4000000 in
set_option maxRecDepth 100000 in
theorem c_X7_least (l : Launch) (dC : Nat → ClassId) (dI : Nat → Nat → Nat) (cI cZ cK : ClassId) (tS : Nat) (aK aV : Nat → Nat) (h : Nat) (i0 : Int32) (i1 : Int32) (k : Nat) (d : Nat) (j : Nat) (o : Nat) (f : Nat) (g : Nat) (wk : Nat) (im : Nat) (kt : Nat) (dl : Nat) (op : Nat) (oto : Int32) (oq : Nat) (ov : Nat) (os : Nat) (ofp : Nat → Int32) (ofs : Nat → Int32) (ks : Nat) (kw : Nat) (kc : Nat) (kwd : Int32) (kbg : Int32) (kme : Int32) (kq : Nat) (km : Nat) (kd : Nat) (ksi : Int32) (ka : Nat) (kk : Nat) (kfs : Nat → Int32) (kfw : Nat → Int32) (kfq : Nat → Int32) (kfm : Nat → Int32) (kfd : Nat → Int32) (sz : Nat) (h_ofp : rg ofp 6 0 9) (h_kfs_4 : 0 ≤ (kfs 4).toInt ∧ (kfs 4).toInt ≤ 13) (h_kfw : rg kfw 14 0 4) : Ci l yX7_least (wq yX7_least cX7_least 4 (some .int)) ({ frames := 5, cells := 0, slots := 0, locals := 109 }) dC dI cI cZ cK tS aK aV [.ref h, .int i0, .int i1] sz [(h, .inr (7, [.ref k, .ref d, .ref j, .ref o, .ref f, .ref g, .ref wk, .ref im, .ref kt, .ref dl])), (o, .inr (3, [.ref k, .ref op, .int oto, .ref oq, .ref ov, .ref os])), (op, .inl (cI, 6, .inl ofp)), (os, .inl (cI, 5, .inl ofs)), (k, .inr (0, [.ref ks, .ref kw, .ref kc, .int kwd, .int kbg, .int kme, .ref kq, .ref km, .ref kd, .int ksi, .ref ka, .ref kk])), (ks, .inl (cI, 5, .inl kfs)), (kw, .inl (cI, 14, .inl kfw)), (kq, .inl (cI, 6, .inl kfq)), (km, .inl (cI, 6, .inl kfm)), (kd, .inl (cI, 6, .inl kfd))] (fun (r : Int32) (u : (Nat → Nat → Int32) × (Nat → Int32) × (Nat → Int64)) => rg (u.1 0) 6 0 9) (fun u => [(h, .inr (7, [.ref k, .ref d, .ref j, .ref o, .ref f, .ref g, .ref wk, .ref im, .ref kt, .ref dl])), (o, .inr (3, [.ref k, .ref op, .int (u.2.1 0), .ref oq, .ref ov, .ref os])), (op, .inl (cI, 6, .inl (u.1 0))), (os, .inl (cI, 5, .inl (u.1 1))), (k, .inr (0, [.ref ks, .ref kw, .ref kc, .int kwd, .int kbg, .int kme, .ref kq, .ref km, .ref kd, .int ksi, .ref ka, .ref kk])), (ks, .inl (cI, 5, .inl kfs)), (kw, .inl (cI, 14, .inl kfw)), (kq, .inl (cI, 6, .inl kfq)), (km, .inl (cI, 6, .inl kfm)), (kd, .inl (cI, 6, .inl kfd))]) := by
  refine Met.ofW (cc := cX7_least) (maxL := 4) (ret := (some .int)) (by decide) rfl ?_
  intro p e s m args below meth c s₁ B hml hv
  obtain ⟨rfl, hsz, hP, hKx, hD0⟩ := hv
  have hx := B.exec
  have hb := B.bytes
  have hr := B.returns
  have hts := atoms_spec (ws := wq yX7_least cX7_least 4 (some .int)) B.pre
  have hown : s.vm.findClass RX7 = some m.cls := findClass_of_methodNamed B.named
  have hlocks := B.notSynchronized
  subst hsz
  have hD := hD0.self (sz := s.heap.size)
  generalize hAe : va_A [(h, .inr (7, [.ref k, .ref d, .ref j, .ref o, .ref f, .ref g, .ref wk, .ref im, .ref kt, .ref dl])), (o, .inr (3, [.ref k, .ref op, .int oto, .ref oq, .ref ov, .ref os])), (op, .inl (cI, 6, .inl ofp)), (os, .inl (cI, 5, .inl ofs)), (k, .inr (0, [.ref ks, .ref kw, .ref kc, .int kwd, .int kbg, .int kme, .ref kq, .ref km, .ref kd, .int ksi, .ref ka, .ref kk])), (ks, .inl (cI, 5, .inl kfs)), (kw, .inl (cI, 14, .inl kfw)), (kq, .inl (cI, 6, .inl kfq)), (km, .inl (cI, 6, .inl kfm)), (kd, .inl (cI, 6, .inl kfd))] s.heap.size = A at hD hKx ⊢
  have hA : ∀ q : Nat, s.heap.size ≤ q → A q := fun q h => by rw [← hAe]; exact Or.inr h
  have hS : va_S A s.heap s.heap [] := va_S.rf
  have hP : va_P (dC, dI) vwCl [(h, .inr (7, [.ref k, .ref d, .ref j, .ref o, .ref f, .ref g, .ref wk, .ref im, .ref kt, .ref dl])), (o, .inr (3, [.ref k, .ref op, .int oto, .ref oq, .ref ov, .ref os])), (op, .inl (cI, 6, .inl ofp)), (os, .inl (cI, 5, .inl ofs)), (k, .inr (0, [.ref ks, .ref kw, .ref kc, .int kwd, .int kbg, .int kme, .ref kq, .ref km, .ref kd, .int ksi, .ref ka, .ref kk])), (ks, .inl (cI, 5, .inl kfs)), (kw, .inl (cI, 14, .inl kfw)), (kq, .inl (cI, 6, .inl kfq)), (km, .inl (cI, 6, .inl kfm)), (kd, .inl (cI, 6, .inl kfd))] s.heap := hP
  have hl := lv_entry ([.ref h, .int i0, .int i1]) (n := 4) (Nat.le_of_ble_eq_true rfl)
  rw [lg_entry_eq]
  generalize (lg_sl ([.ref h, .int i0, .int i1]) ++ List.replicate (4 - (lg_sl ([.ref h, .int i0, .int i1])).length) Slot.unset).toArray = ls at hl ⊢
  have hl : lv_has ls 4 [(0, .ref h), (1, .int i0), (2, .int i1)] := hl
  have hK := hKx.1
  have hin7 := fun w9 h9 => List.mem_cons_of_mem (Cond.code yX7_least cX7_least 4 (some .int)) (inlX7 w9 h9)
  have hw0 := hts (.fieldLink RX7 37 "OneCan" "order" "LOneCan$Order;") (List.mem_cons_of_mem _ wm_27)
  refine lv_aload_n hx hb dX7_least_0 rfl (lv_at hl 0 rfl) ?_
  refine lv_iload_n hx hb dX7_least_1 rfl (lv_at hl 1 rfl) ?_
  refine lv_iload_n hx hb dX7_least_2 rfl (lv_at hl 2 rfl) ?_
  refine mx_i (wr := [(os, .inl (cI, 5, .inl ofs)), (kw, .inl (cI, 14, .inl kfw)), (kq, .inl (cI, 6, .inl kfq)), (km, .inl (cI, 6, .inl kfm)), (kd, .inl (cI, 6, .inl kfd))]) (va_runV (As := [.int i0, .int i1]) (rest := []) ⟨hx, hb, hml, hown, hts⟩ (c_X7_spreadRefusal l dC dI cI cZ cK tS aK aV h i0 i1 k d j o f g wk im kt dl op oto oq ov os ofp ks kw kc kwd kbg kme kq km kd ksi ka kk kfs s.heap.size h_ofp (by first | omega | decide | assumption | trivial)) (cwV 2 hts (gw_v (fun _ h9 => List.mem_cons_of_mem _ h9) wm_616 wm_617 wm_618 wm_2 wm_619) rfl rfl rfl (by decide +kernel) ⟨Nat.le_of_ble_eq_true rfl, Nat.le_of_ble_eq_true rfl⟩) (mx_preV (C := RX7) (T := TX7) (N := 10) (ci := 7) hKx hP hD hS hA [0, 1, 2, 4, 5] (by decide) rfl rfl rfl) rfl rfl hl.1 rfl (lv_room (Nat.le_of_ble_eq_true rfl)) dX7_least_3 ⟨Nat.le_of_ble_eq_true rfl, Nat.le_of_ble_eq_true rfl⟩) hP hD hS hA [0, 1, 2, 4, 5] [3, 6, 7, 8, 9] rfl rfl (by decide) (by decide) (fun r1 u1 H locs hq1 hP hD hS => ?_)
  replace hP : va_P (dC, dI) vwCl [(os, .inl (cI, 5, .inl ofs)), (kw, .inl (cI, 14, .inl kfw)), (kq, .inl (cI, 6, .inl kfq)), (km, .inl (cI, 6, .inl kfm)), (kd, .inl (cI, 6, .inl kfd)), (h, .inr (7, [.ref k, .ref d, .ref j, .ref o, .ref f, .ref g, .ref wk, .ref im, .ref kt, .ref dl])), (o, .inr (3, [.ref k, .ref op, .int (u1.2.1 0), .ref oq, .ref ov, .ref os])), (op, .inl (cI, 6, .inl (u1.1 0))), (k, .inr (0, [.ref ks, .ref kw, .ref kc, .int kwd, .int kbg, .int kme, .ref kq, .ref km, .ref kd, .int ksi, .ref ka, .ref kk])), (ks, .inl (cI, 5, .inl kfs))] H := hP
  replace hD : va_D A [(os, .inl (cI, 5, .inl ofs)), (kw, .inl (cI, 14, .inl kfw)), (kq, .inl (cI, 6, .inl kfq)), (km, .inl (cI, 6, .inl kfm)), (kd, .inl (cI, 6, .inl kfd)), (h, .inr (7, [.ref k, .ref d, .ref j, .ref o, .ref f, .ref g, .ref wk, .ref im, .ref kt, .ref dl])), (o, .inr (3, [.ref k, .ref op, .int (u1.2.1 0), .ref oq, .ref ov, .ref os])), (op, .inl (cI, 6, .inl (u1.1 0))), (k, .inr (0, [.ref ks, .ref kw, .ref kc, .int kwd, .int kbg, .int kme, .ref kq, .ref km, .ref kd, .int ksi, .ref ka, .ref kk])), (ks, .inl (cI, 5, .inl kfs))] := hD
  obtain ⟨hu1_0, hr1⟩ := hq1
  rcases hr1 with ⟨rfl, hf1⟩ | ⟨rfl, hf1⟩ | ⟨rfl, hf1⟩ | ⟨rfl, hf1⟩
  · have hf1 : 0 ≤ i1.toInt ∧ i1.toInt ≤ 13 := hf1
    refine lv_istore_n (lv' := [(3, .int 0), (0, .ref h), (1, .int i0), (2, .int i1)]) hx hb dX7_least_6 rfl hl (by decide) rfl (fun ls hl => ?_)
    refine lv_iload_n hx hb dX7_least_7 rfl (lv_at hl 0 rfl) ?_
    refine lv_if_eq (tgt := 15) hx hb dX7_least_8 (by decide) (fun c2 => ?_) (fun c2 => absurd c2 (by decide))
    refine lv_aload_n hx hb dX7_least_15 rfl (lv_at hl 1 rfl) ?_
    refine va_get (D := (dC, dI)) (ci := 7) (v := .ref o) (C := RX7) (T := TX7) (N := 10) hx hb hts hin7 hown hK hP 5 rfl rfl 3 (by decide) hw0 (fun _ h9 => h9) rfl dX7_least_16 ?_
    refine lv_iload_n hx hb dX7_least_19 rfl (lv_at hl 3 rfl) ?_
    refine mx_i (wr := [(h, .inr (7, [.ref k, .ref d, .ref j, .ref o, .ref f, .ref g, .ref wk, .ref im, .ref kt, .ref dl]))]) (va_runV (As := [.int i1]) (rest := []) ⟨hx, hb, hml, hown, hts⟩ (c_X3_leastByTwos l dC dI cI cZ cK tS aK aV o i1 k op (u1.2.1 0) oq ov os (u1.1 0) ofs ks kw kc kwd kbg kme kq km kd ksi ka kk kfs kfw kfq kfm kfd H.size hu1_0 (by first | omega | decide | assumption | trivial) h_kfw (by first | omega | decide | assumption | trivial)) (cwV 1 hts (gw_v (fun _ h9 => List.mem_cons_of_mem _ h9) wm_657 wm_658 wm_659 wm_26 wm_660) rfl rfl rfl (by decide +kernel) ⟨Nat.le_of_ble_eq_true rfl, Nat.le_of_ble_eq_true rfl⟩) (mx_preV (C := RX3) (T := TX3) (N := 6) (ci := 3) hKx hP hD hS hA [6, 7, 0, 8, 9, 1, 2, 3, 4] (by decide) rfl rfl rfl) rfl rfl hl.1 rfl (lv_room (Nat.le_of_ble_eq_true rfl)) dX7_least_20 ⟨Nat.le_of_ble_eq_true rfl, Nat.le_of_ble_eq_true rfl⟩) hP hD hS hA [6, 7, 0, 8, 9, 1, 2, 3, 4] [5] rfl rfl (by decide) (by decide) (fun r3 u3 H locs hq3 hP hD hS => ?_)
    replace hP : va_P (dC, dI) vwCl [(h, .inr (7, [.ref k, .ref d, .ref j, .ref o, .ref f, .ref g, .ref wk, .ref im, .ref kt, .ref dl])), (o, .inr (3, [.ref k, .ref op, .int (u1.2.1 0), .ref oq, .ref ov, .ref os])), (op, .inl (cI, 6, .inl (u1.1 0))), (os, .inl (cI, 5, .inl (u3.1 0))), (k, .inr (0, [.ref ks, .ref kw, .ref kc, .int kwd, .int kbg, .int kme, .ref kq, .ref km, .ref kd, .int ksi, .ref ka, .ref kk])), (ks, .inl (cI, 5, .inl kfs)), (kw, .inl (cI, 14, .inl kfw)), (kq, .inl (cI, 6, .inl kfq)), (km, .inl (cI, 6, .inl kfm)), (kd, .inl (cI, 6, .inl kfd))] H := hP
    replace hD : va_D A [(h, .inr (7, [.ref k, .ref d, .ref j, .ref o, .ref f, .ref g, .ref wk, .ref im, .ref kt, .ref dl])), (o, .inr (3, [.ref k, .ref op, .int (u1.2.1 0), .ref oq, .ref ov, .ref os])), (op, .inl (cI, 6, .inl (u1.1 0))), (os, .inl (cI, 5, .inl (u3.1 0))), (k, .inr (0, [.ref ks, .ref kw, .ref kc, .int kwd, .int kbg, .int kme, .ref kq, .ref km, .ref kd, .int ksi, .ref ka, .ref kk])), (ks, .inl (cI, 5, .inl kfs)), (kw, .inl (cI, 14, .inl kfw)), (kq, .inl (cI, 6, .inl kfq)), (km, .inl (cI, 6, .inl kfm)), (kd, .inl (cI, 6, .inl kfd))] := hD
    have hP9 := mx_subP (wc := [(h, .inr (7, [.ref k, .ref d, .ref j, .ref o, .ref f, .ref g, .ref wk, .ref im, .ref kt, .ref dl])), (o, .inr (3, [.ref k, .ref op, .int (u1.2.1 0), .ref oq, .ref ov, .ref os])), (op, .inl (cI, 6, .inl (u1.1 0))), (os, .inl (cI, 5, .inl (u3.1 0))), (k, .inr (0, [.ref ks, .ref kw, .ref kc, .int kwd, .int kbg, .int kme, .ref kq, .ref km, .ref kd, .int ksi, .ref ka, .ref kk])), (ks, .inl (cI, 5, .inl kfs)), (kw, .inl (cI, 14, .inl kfw)), (kq, .inl (cI, 6, .inl kfq)), (km, .inl (cI, 6, .inl kfm)), (kd, .inl (cI, 6, .inl kfd))]) hP [0, 1, 2, 3, 4, 5, 6, 7, 8, 9] rfl
    have hD9 := hD.sub (ws' := [(h, .inr (7, [.ref k, .ref d, .ref j, .ref o, .ref f, .ref g, .ref wk, .ref im, .ref kt, .ref dl])), (o, .inr (3, [.ref k, .ref op, .int (u1.2.1 0), .ref oq, .ref ov, .ref os])), (op, .inl (cI, 6, .inl (u1.1 0))), (os, .inl (cI, 5, .inl (u3.1 0))), (k, .inr (0, [.ref ks, .ref kw, .ref kc, .int kwd, .int kbg, .int kme, .ref kq, .ref km, .ref kd, .int ksi, .ref ka, .ref kk])), (ks, .inl (cI, 5, .inl kfs)), (kw, .inl (cI, 14, .inl kfw)), (kq, .inl (cI, 6, .inl kfq)), (km, .inl (cI, 6, .inl kfm)), (kd, .inl (cI, 6, .inl kfd))]) [0, 1, 2, 3, 4, 5, 6, 7, 8, 9] (by decide) rfl
    exact W.iret (v := r3) hx hb hr (fun t ht hW => ⟨⟨r3, ((fun u9 => ([(u1.1 0), (u3.1 0)] : List (Nat → Int32)).getD u9 (fun _ => 0)), (fun u9 => ([(u1.2.1 0)] : List Int32).getD u9 0), (fun u9 => ([] : List Int64).getD u9 0)), rfl, hu1_0, by rw [ht]; exact hP9, hD9⟩, hS.F ht⟩) hS.2.2 dX7_least_23
  · skip
    refine lv_istore_n (lv' := [(3, .int (-1)), (0, .ref h), (1, .int i0), (2, .int i1)]) hx hb dX7_least_6 rfl hl (by decide) rfl (fun ls hl => ?_)
    refine lv_iload_n hx hb dX7_least_7 rfl (lv_at hl 0 rfl) ?_
    refine lv_if_eq (tgt := 15) hx hb dX7_least_8 (by decide) (fun c4 => absurd c4 (by decide)) (fun c4 => ?_)
    refine lv_iload_n hx hb dX7_least_11 rfl (lv_at hl 0 rfl) ?_
    refine lv_goto (tgt := 23) hx hb dX7_least_12 (by decide) ?_
    have hP9 := mx_subP (wc := [(h, .inr (7, [.ref k, .ref d, .ref j, .ref o, .ref f, .ref g, .ref wk, .ref im, .ref kt, .ref dl])), (o, .inr (3, [.ref k, .ref op, .int (u1.2.1 0), .ref oq, .ref ov, .ref os])), (op, .inl (cI, 6, .inl (u1.1 0))), (os, .inl (cI, 5, .inl ofs)), (k, .inr (0, [.ref ks, .ref kw, .ref kc, .int kwd, .int kbg, .int kme, .ref kq, .ref km, .ref kd, .int ksi, .ref ka, .ref kk])), (ks, .inl (cI, 5, .inl kfs)), (kw, .inl (cI, 14, .inl kfw)), (kq, .inl (cI, 6, .inl kfq)), (km, .inl (cI, 6, .inl kfm)), (kd, .inl (cI, 6, .inl kfd))]) hP [5, 6, 7, 0, 8, 9, 1, 2, 3, 4] rfl
    have hD9 := hD.sub (ws' := [(h, .inr (7, [.ref k, .ref d, .ref j, .ref o, .ref f, .ref g, .ref wk, .ref im, .ref kt, .ref dl])), (o, .inr (3, [.ref k, .ref op, .int (u1.2.1 0), .ref oq, .ref ov, .ref os])), (op, .inl (cI, 6, .inl (u1.1 0))), (os, .inl (cI, 5, .inl ofs)), (k, .inr (0, [.ref ks, .ref kw, .ref kc, .int kwd, .int kbg, .int kme, .ref kq, .ref km, .ref kd, .int ksi, .ref ka, .ref kk])), (ks, .inl (cI, 5, .inl kfs)), (kw, .inl (cI, 14, .inl kfw)), (kq, .inl (cI, 6, .inl kfq)), (km, .inl (cI, 6, .inl kfm)), (kd, .inl (cI, 6, .inl kfd))]) [5, 6, 7, 0, 8, 9, 1, 2, 3, 4] (by decide) rfl
    exact W.iret (v := (-1)) hx hb hr (fun t ht hW => ⟨⟨(-1), ((fun u9 => ([(u1.1 0), ofs] : List (Nat → Int32)).getD u9 (fun _ => 0)), (fun u9 => ([(u1.2.1 0)] : List Int32).getD u9 0), (fun u9 => ([] : List Int64).getD u9 0)), rfl, hu1_0, by rw [ht]; exact hP9, hD9⟩, hS.F ht⟩) hS.2.2 dX7_least_23
  · skip
    refine lv_istore_n (lv' := [(3, .int (-2)), (0, .ref h), (1, .int i0), (2, .int i1)]) hx hb dX7_least_6 rfl hl (by decide) rfl (fun ls hl => ?_)
    refine lv_iload_n hx hb dX7_least_7 rfl (lv_at hl 0 rfl) ?_
    refine lv_if_eq (tgt := 15) hx hb dX7_least_8 (by decide) (fun c5 => absurd c5 (by decide)) (fun c5 => ?_)
    refine lv_iload_n hx hb dX7_least_11 rfl (lv_at hl 0 rfl) ?_
    refine lv_goto (tgt := 23) hx hb dX7_least_12 (by decide) ?_
    have hP9 := mx_subP (wc := [(h, .inr (7, [.ref k, .ref d, .ref j, .ref o, .ref f, .ref g, .ref wk, .ref im, .ref kt, .ref dl])), (o, .inr (3, [.ref k, .ref op, .int (u1.2.1 0), .ref oq, .ref ov, .ref os])), (op, .inl (cI, 6, .inl (u1.1 0))), (os, .inl (cI, 5, .inl ofs)), (k, .inr (0, [.ref ks, .ref kw, .ref kc, .int kwd, .int kbg, .int kme, .ref kq, .ref km, .ref kd, .int ksi, .ref ka, .ref kk])), (ks, .inl (cI, 5, .inl kfs)), (kw, .inl (cI, 14, .inl kfw)), (kq, .inl (cI, 6, .inl kfq)), (km, .inl (cI, 6, .inl kfm)), (kd, .inl (cI, 6, .inl kfd))]) hP [5, 6, 7, 0, 8, 9, 1, 2, 3, 4] rfl
    have hD9 := hD.sub (ws' := [(h, .inr (7, [.ref k, .ref d, .ref j, .ref o, .ref f, .ref g, .ref wk, .ref im, .ref kt, .ref dl])), (o, .inr (3, [.ref k, .ref op, .int (u1.2.1 0), .ref oq, .ref ov, .ref os])), (op, .inl (cI, 6, .inl (u1.1 0))), (os, .inl (cI, 5, .inl ofs)), (k, .inr (0, [.ref ks, .ref kw, .ref kc, .int kwd, .int kbg, .int kme, .ref kq, .ref km, .ref kd, .int ksi, .ref ka, .ref kk])), (ks, .inl (cI, 5, .inl kfs)), (kw, .inl (cI, 14, .inl kfw)), (kq, .inl (cI, 6, .inl kfq)), (km, .inl (cI, 6, .inl kfm)), (kd, .inl (cI, 6, .inl kfd))]) [5, 6, 7, 0, 8, 9, 1, 2, 3, 4] (by decide) rfl
    exact W.iret (v := (-2)) hx hb hr (fun t ht hW => ⟨⟨(-2), ((fun u9 => ([(u1.1 0), ofs] : List (Nat → Int32)).getD u9 (fun _ => 0)), (fun u9 => ([(u1.2.1 0)] : List Int32).getD u9 0), (fun u9 => ([] : List Int64).getD u9 0)), rfl, hu1_0, by rw [ht]; exact hP9, hD9⟩, hS.F ht⟩) hS.2.2 dX7_least_23
  · skip
    refine lv_istore_n (lv' := [(3, .int (-4)), (0, .ref h), (1, .int i0), (2, .int i1)]) hx hb dX7_least_6 rfl hl (by decide) rfl (fun ls hl => ?_)
    refine lv_iload_n hx hb dX7_least_7 rfl (lv_at hl 0 rfl) ?_
    refine lv_if_eq (tgt := 15) hx hb dX7_least_8 (by decide) (fun c6 => absurd c6 (by decide)) (fun c6 => ?_)
    refine lv_iload_n hx hb dX7_least_11 rfl (lv_at hl 0 rfl) ?_
    refine lv_goto (tgt := 23) hx hb dX7_least_12 (by decide) ?_
    have hP9 := mx_subP (wc := [(h, .inr (7, [.ref k, .ref d, .ref j, .ref o, .ref f, .ref g, .ref wk, .ref im, .ref kt, .ref dl])), (o, .inr (3, [.ref k, .ref op, .int (u1.2.1 0), .ref oq, .ref ov, .ref os])), (op, .inl (cI, 6, .inl (u1.1 0))), (os, .inl (cI, 5, .inl ofs)), (k, .inr (0, [.ref ks, .ref kw, .ref kc, .int kwd, .int kbg, .int kme, .ref kq, .ref km, .ref kd, .int ksi, .ref ka, .ref kk])), (ks, .inl (cI, 5, .inl kfs)), (kw, .inl (cI, 14, .inl kfw)), (kq, .inl (cI, 6, .inl kfq)), (km, .inl (cI, 6, .inl kfm)), (kd, .inl (cI, 6, .inl kfd))]) hP [5, 6, 7, 0, 8, 9, 1, 2, 3, 4] rfl
    have hD9 := hD.sub (ws' := [(h, .inr (7, [.ref k, .ref d, .ref j, .ref o, .ref f, .ref g, .ref wk, .ref im, .ref kt, .ref dl])), (o, .inr (3, [.ref k, .ref op, .int (u1.2.1 0), .ref oq, .ref ov, .ref os])), (op, .inl (cI, 6, .inl (u1.1 0))), (os, .inl (cI, 5, .inl ofs)), (k, .inr (0, [.ref ks, .ref kw, .ref kc, .int kwd, .int kbg, .int kme, .ref kq, .ref km, .ref kd, .int ksi, .ref ka, .ref kk])), (ks, .inl (cI, 5, .inl kfs)), (kw, .inl (cI, 14, .inl kfw)), (kq, .inl (cI, 6, .inl kfq)), (km, .inl (cI, 6, .inl kfm)), (kd, .inl (cI, 6, .inl kfd))]) [5, 6, 7, 0, 8, 9, 1, 2, 3, 4] (by decide) rfl
    exact W.iret (v := (-4)) hx hb hr (fun t ht hW => ⟨⟨(-4), ((fun u9 => ([(u1.1 0), ofs] : List (Nat → Int32)).getD u9 (fun _ => 0)), (fun u9 => ([(u1.2.1 0)] : List Int32).getD u9 0), (fun u9 => ([] : List Int64).getD u9 0)), rfl, hu1_0, by rw [ht]; exact hP9, hD9⟩, hS.F ht⟩) hS.2.2 dX7_least_23
set_option maxHeartbeats 4000000 in
set_option maxRecDepth 100000 in
theorem c_J9_floorDiv_7cf53_10 (l : Launch) (dC : Nat → ClassId) (dI : Nat → Nat → Nat) (cI cZ cK : ClassId) (tS : Nat) (aK aV : Nat → Nat) (i0 : Int32) (sz : Nat) : Ci l yJ9_floorDiv_7cf53 (wq yJ9_floorDiv_7cf53 cJ9_floorDiv_7cf53 3 (some .int)) ({ frames := 0, cells := 0, slots := 0, locals := 0 }) dC dI cI cZ cK tS aK aV [.int i0, .int 10] sz [] (fun (r : Int32) (u : Unit) => True) (fun _ => []) := by
  refine mx_ofWF (cc := cJ9_floorDiv_7cf53) (maxL := 3) (ret := (some .int)) (by decide +kernel) rfl ?_
  intro p e s m args below meth c s₁ B hml hv
  obtain ⟨rfl, hsz, hP, hKx, hD0⟩ := hv
  have hx := B.exec
  have hb := B.bytes
  have hr := B.returns
  have hts := atoms_spec (ws := wq yJ9_floorDiv_7cf53 cJ9_floorDiv_7cf53 3 (some .int)) B.pre
  have hown : s.vm.findClass RJ9 = some m.cls := findClass_of_methodNamed B.named
  have hlocks := B.notSynchronized
  subst hsz
  have hD := hD0.self (sz := s.heap.size)
  generalize hAe : va_A [] s.heap.size = A at hD hKx ⊢
  have hA : ∀ q : Nat, s.heap.size ≤ q → A q := fun q h => by rw [← hAe]; exact Or.inr h
  have hS : va_S A s.heap s.heap [] := va_S.rf
  have hP : va_P (dC, dI) vwCl [] s.heap := hP
  have hl := lv_entry ([.int i0, .int 10]) (n := 3) (Nat.le_of_ble_eq_true rfl)
  rw [lg_entry_eq]
  generalize (lg_sl ([.int i0, .int 10]) ++ List.replicate (3 - (lg_sl ([.int i0, .int 10])).length) Slot.unset).toArray = ls at hl ⊢
  have hl : lv_has ls 3 [(0, .int i0), (1, .int 10)] := hl
  have hK := hKx.1
  refine lv_iload_n hx hb dJ9_floorDiv_7cf53_0 rfl (lv_at hl 0 rfl) ?_
  refine lv_iload_n hx hb dJ9_floorDiv_7cf53_1 rfl (lv_at hl 1 rfl) ?_
  refine lv_idiv hx hb dJ9_floorDiv_7cf53_2 (by decide) ?_
  refine lv_topi (fun x1 e1 => ?_)
  refine lv_istore_n (lv' := [(2, .int x1), (0, .int i0), (1, .int 10)]) hx hb dJ9_floorDiv_7cf53_3 rfl hl (by decide) rfl (fun ls hl => ?_)
  refine lv_iload_n hx hb dJ9_floorDiv_7cf53_4 rfl (lv_at hl 1 rfl) ?_
  refine lv_iload_n hx hb dJ9_floorDiv_7cf53_5 rfl (lv_at hl 2 rfl) ?_
  refine lv_ixor hx hb dJ9_floorDiv_7cf53_6 ?_
  refine lv_topi (fun x2 e2 => ?_)
  refine lv_if_ge (tgt := 21) hx hb dJ9_floorDiv_7cf53_7 (by decide) (fun c3 => ?_) (fun c3 => ?_)
  · have t3 : (0 : Int) ≤ x2.toInt := (tle c3)
    refine lv_iload_n hx hb dJ9_floorDiv_7cf53_21 rfl (lv_at hl 0 rfl) ?_
    have hP9 := mx_subP (wc := []) hP [] rfl
    have hD9 := hD.sub (ws' := []) [] (by decide) rfl
    exact W.iret (v := x1) hx hb hr (fun t ht hW => ⟨⟨x1, (), rfl, trivial, by rw [ht]; exact hP9, hD9⟩, hS.F ht⟩) hS.2.2 dJ9_floorDiv_7cf53_22
  · have t3 : x2.toInt < (0 : Int) := (tnle c3)
    refine lv_iload_n hx hb dJ9_floorDiv_7cf53_10 rfl (lv_at hl 0 rfl) ?_
    refine lv_iload_n hx hb dJ9_floorDiv_7cf53_11 rfl (lv_at hl 2 rfl) ?_
    refine lv_imul hx hb dJ9_floorDiv_7cf53_12 ?_
    refine lv_topi (fun x4 e4 => ?_)
    refine lv_iload_n hx hb dJ9_floorDiv_7cf53_13 rfl (lv_at hl 1 rfl) ?_
    refine lv_icmp_eq (tgt := 21) hx hb dJ9_floorDiv_7cf53_14 (by decide) (fun c5 => ?_) (fun c5 => ?_)
    · have t5 : x4.toInt = i0.toInt := (teq c5)
      refine lv_iload_n hx hb dJ9_floorDiv_7cf53_21 rfl (lv_at hl 0 rfl) ?_
      have hP9 := mx_subP (wc := []) hP [] rfl
      have hD9 := hD.sub (ws' := []) [] (by decide) rfl
      exact W.iret (v := x1) hx hb hr (fun t ht hW => ⟨⟨x1, (), rfl, trivial, by rw [ht]; exact hP9, hD9⟩, hS.F ht⟩) hS.2.2 dJ9_floorDiv_7cf53_22
    · have t5 : x4.toInt ≠ i0.toInt := (tne c5)
      refine lv_iload_n hx hb dJ9_floorDiv_7cf53_17 rfl (lv_at hl 0 rfl) ?_
      refine lv_iconst (v := 1) hx hb dJ9_floorDiv_7cf53_18 (by decide) ?_
      refine lv_isub hx hb dJ9_floorDiv_7cf53_19 ?_
      refine lv_topi (fun x6 e6 => ?_)
      have hP9 := mx_subP (wc := []) hP [] rfl
      have hD9 := hD.sub (ws' := []) [] (by decide) rfl
      exact W.iret (v := x6) hx hb hr (fun t ht hW => ⟨⟨x6, (), rfl, trivial, by rw [ht]; exact hP9, hD9⟩, hS.F ht⟩) hS.2.2 dJ9_floorDiv_7cf53_20
set_option maxHeartbeats 4000000 in
set_option maxRecDepth 100000 in
theorem c_J9_floorDiv_7cf53_200 (l : Launch) (dC : Nat → ClassId) (dI : Nat → Nat → Nat) (cI cZ cK : ClassId) (tS : Nat) (aK aV : Nat → Nat) (i0 : Int32) (sz : Nat) : Ci l yJ9_floorDiv_7cf53 (wq yJ9_floorDiv_7cf53 cJ9_floorDiv_7cf53 3 (some .int)) ({ frames := 0, cells := 0, slots := 0, locals := 0 }) dC dI cI cZ cK tS aK aV [.int i0, .int 200] sz [] (fun (r : Int32) (u : Unit) => True) (fun _ => []) := by
  refine mx_ofWF (cc := cJ9_floorDiv_7cf53) (maxL := 3) (ret := (some .int)) (by decide +kernel) rfl ?_
  intro p e s m args below meth c s₁ B hml hv
  obtain ⟨rfl, hsz, hP, hKx, hD0⟩ := hv
  have hx := B.exec
  have hb := B.bytes
  have hr := B.returns
  have hts := atoms_spec (ws := wq yJ9_floorDiv_7cf53 cJ9_floorDiv_7cf53 3 (some .int)) B.pre
  have hown : s.vm.findClass RJ9 = some m.cls := findClass_of_methodNamed B.named
  have hlocks := B.notSynchronized
  subst hsz
  have hD := hD0.self (sz := s.heap.size)
  generalize hAe : va_A [] s.heap.size = A at hD hKx ⊢
  have hA : ∀ q : Nat, s.heap.size ≤ q → A q := fun q h => by rw [← hAe]; exact Or.inr h
  have hS : va_S A s.heap s.heap [] := va_S.rf
  have hP : va_P (dC, dI) vwCl [] s.heap := hP
  have hl := lv_entry ([.int i0, .int 200]) (n := 3) (Nat.le_of_ble_eq_true rfl)
  rw [lg_entry_eq]
  generalize (lg_sl ([.int i0, .int 200]) ++ List.replicate (3 - (lg_sl ([.int i0, .int 200])).length) Slot.unset).toArray = ls at hl ⊢
  have hl : lv_has ls 3 [(0, .int i0), (1, .int 200)] := hl
  have hK := hKx.1
  refine lv_iload_n hx hb dJ9_floorDiv_7cf53_0 rfl (lv_at hl 0 rfl) ?_
  refine lv_iload_n hx hb dJ9_floorDiv_7cf53_1 rfl (lv_at hl 1 rfl) ?_
  refine lv_idiv hx hb dJ9_floorDiv_7cf53_2 (by decide) ?_
  refine lv_topi (fun x1 e1 => ?_)
  refine lv_istore_n (lv' := [(2, .int x1), (0, .int i0), (1, .int 200)]) hx hb dJ9_floorDiv_7cf53_3 rfl hl (by decide) rfl (fun ls hl => ?_)
  refine lv_iload_n hx hb dJ9_floorDiv_7cf53_4 rfl (lv_at hl 1 rfl) ?_
  refine lv_iload_n hx hb dJ9_floorDiv_7cf53_5 rfl (lv_at hl 2 rfl) ?_
  refine lv_ixor hx hb dJ9_floorDiv_7cf53_6 ?_
  refine lv_topi (fun x2 e2 => ?_)
  refine lv_if_ge (tgt := 21) hx hb dJ9_floorDiv_7cf53_7 (by decide) (fun c3 => ?_) (fun c3 => ?_)
  · have t3 : (0 : Int) ≤ x2.toInt := (tle c3)
    refine lv_iload_n hx hb dJ9_floorDiv_7cf53_21 rfl (lv_at hl 0 rfl) ?_
    have hP9 := mx_subP (wc := []) hP [] rfl
    have hD9 := hD.sub (ws' := []) [] (by decide) rfl
    exact W.iret (v := x1) hx hb hr (fun t ht hW => ⟨⟨x1, (), rfl, trivial, by rw [ht]; exact hP9, hD9⟩, hS.F ht⟩) hS.2.2 dJ9_floorDiv_7cf53_22
  · have t3 : x2.toInt < (0 : Int) := (tnle c3)
    refine lv_iload_n hx hb dJ9_floorDiv_7cf53_10 rfl (lv_at hl 0 rfl) ?_
    refine lv_iload_n hx hb dJ9_floorDiv_7cf53_11 rfl (lv_at hl 2 rfl) ?_
    refine lv_imul hx hb dJ9_floorDiv_7cf53_12 ?_
    refine lv_topi (fun x4 e4 => ?_)
    refine lv_iload_n hx hb dJ9_floorDiv_7cf53_13 rfl (lv_at hl 1 rfl) ?_
    refine lv_icmp_eq (tgt := 21) hx hb dJ9_floorDiv_7cf53_14 (by decide) (fun c5 => ?_) (fun c5 => ?_)
    · have t5 : x4.toInt = i0.toInt := (teq c5)
      refine lv_iload_n hx hb dJ9_floorDiv_7cf53_21 rfl (lv_at hl 0 rfl) ?_
      have hP9 := mx_subP (wc := []) hP [] rfl
      have hD9 := hD.sub (ws' := []) [] (by decide) rfl
      exact W.iret (v := x1) hx hb hr (fun t ht hW => ⟨⟨x1, (), rfl, trivial, by rw [ht]; exact hP9, hD9⟩, hS.F ht⟩) hS.2.2 dJ9_floorDiv_7cf53_22
    · have t5 : x4.toInt ≠ i0.toInt := (tne c5)
      refine lv_iload_n hx hb dJ9_floorDiv_7cf53_17 rfl (lv_at hl 0 rfl) ?_
      refine lv_iconst (v := 1) hx hb dJ9_floorDiv_7cf53_18 (by decide) ?_
      refine lv_isub hx hb dJ9_floorDiv_7cf53_19 ?_
      refine lv_topi (fun x6 e6 => ?_)
      have hP9 := mx_subP (wc := []) hP [] rfl
      have hD9 := hD.sub (ws' := []) [] (by decide) rfl
      exact W.iret (v := x6) hx hb hr (fun t ht hW => ⟨⟨x6, (), rfl, trivial, by rw [ht]; exact hP9, hD9⟩, hS.F ht⟩) hS.2.2 dJ9_floorDiv_7cf53_20
set_option maxHeartbeats 4000000 in
set_option maxRecDepth 100000 in
theorem c_X5_fitting (l : Launch) (dC : Nat → ClassId) (dI : Nat → Nat → Nat) (cI cZ cK : ClassId) (tS : Nat) (aK aV : Nat → Nat) (f : Nat) (i0 : Int32) (k : Nat) (d : Nat) (j : Nat) (fl : Nat) (fh : Nat) (ff : Nat) (fa : Nat) (fm : Nat) (fct : Int32) (frb : Int32) (fsl : Int32) (fff : Nat → Int32) (ffa : Nat → Int32) (sz : Nat) (h_ffa : rg ffa 60 (-2147483648) 200) (h_i0 : 0 ≤ i0.toInt ∧ i0.toInt ≤ 59) : Ci l yX5_fitting (wq yX5_fitting cX5_fitting 2 (some .int)) ({ frames := 1, cells := 0, slots := 0, locals := 21 }) dC dI cI cZ cK tS aK aV [.ref f, .int i0] sz [(f, .inr (5, [.ref k, .ref d, .ref j, .ref fl, .ref fh, .ref ff, .ref fa, .ref fm, .int fct, .int frb, .int fsl])), (ff, .inl (cI, 60, .inl fff)), (fa, .inl (cI, 60, .inl ffa))] (fun (r : Int32) (u : Unit) => True) (fun _ => [(f, .inr (5, [.ref k, .ref d, .ref j, .ref fl, .ref fh, .ref ff, .ref fa, .ref fm, .int fct, .int frb, .int fsl])), (ff, .inl (cI, 60, .inl fff)), (fa, .inl (cI, 60, .inl ffa))]) := by
  refine Met.ofW (cc := cX5_fitting) (maxL := 2) (ret := (some .int)) (by decide) rfl ?_
  intro p e s m args below meth c s₁ B hml hv
  obtain ⟨rfl, hsz, hP, hKx, hD0⟩ := hv
  have hx := B.exec
  have hb := B.bytes
  have hr := B.returns
  have hts := atoms_spec (ws := wq yX5_fitting cX5_fitting 2 (some .int)) B.pre
  have hown : s.vm.findClass RX5 = some m.cls := findClass_of_methodNamed B.named
  have hlocks := B.notSynchronized
  subst hsz
  have hD := hD0.self (sz := s.heap.size)
  generalize hAe : va_A [(f, .inr (5, [.ref k, .ref d, .ref j, .ref fl, .ref fh, .ref ff, .ref fa, .ref fm, .int fct, .int frb, .int fsl])), (ff, .inl (cI, 60, .inl fff)), (fa, .inl (cI, 60, .inl ffa))] s.heap.size = A at hD hKx ⊢
  have hA : ∀ q : Nat, s.heap.size ≤ q → A q := fun q h => by rw [← hAe]; exact Or.inr h
  have hS : va_S A s.heap s.heap [] := va_S.rf
  have hP : va_P (dC, dI) vwCl [(f, .inr (5, [.ref k, .ref d, .ref j, .ref fl, .ref fh, .ref ff, .ref fa, .ref fm, .int fct, .int frb, .int fsl])), (ff, .inl (cI, 60, .inl fff)), (fa, .inl (cI, 60, .inl ffa))] s.heap := hP
  have hl := lv_entry ([.ref f, .int i0]) (n := 2) (Nat.le_of_ble_eq_true rfl)
  rw [lg_entry_eq]
  generalize (lg_sl ([.ref f, .int i0]) ++ List.replicate (2 - (lg_sl ([.ref f, .int i0])).length) Slot.unset).toArray = ls at hl ⊢
  have hl : lv_has ls 2 [(0, .ref f), (1, .int i0)] := hl
  have hK := hKx.1
  have hin5 := fun w9 h9 => List.mem_cons_of_mem (Cond.code yX5_fitting cX5_fitting 2 (some .int)) (inlX5 w9 h9)
  have hw0 := hts (.fieldLink RX5 21 "OneCan$Search" "last" "[I") (List.mem_cons_of_mem _ wm_90)
  have hw1 := hts (.fieldLink RX5 18 "OneCan$Search" "first" "[I") (List.mem_cons_of_mem _ wm_89)
  have hw2 := hts (.methodLink RX5 70 Lib.Math.max.name) (List.mem_cons_of_mem _ wm_740)
  have hw3 := hts (.static Lib.Math.max.name) (List.mem_cons_of_mem _ wm_271)
  have hw4 := hts (.initialized "java/lang/Math") (List.mem_cons_of_mem _ wm_272)
  have hw5 := hts (.code Lib.Math.max.name Lib.Math.max.code 2 (some .int)) (List.mem_cons_of_mem _ wm_273)
  refine lv_iconst (v := 0) hx hb dX5_fitting_0 (by decide) ?_
  refine lv_aload_n hx hb dX5_fitting_1 rfl (lv_at hl 0 rfl) ?_
  refine va_get (D := (dC, dI)) (ci := 5) (v := .ref fa) (C := RX5) (T := TX5) (N := 11) hx hb hts hin5 hown hK hP 0 rfl rfl 6 (by decide) hw0 (fun _ h9 => h9) rfl dX5_fitting_2 ?_
  refine lv_iload_n hx hb dX5_fitting_5 rfl (lv_at hl 1 rfl) ?_
  refine va_iald hx hb hK hP 2 0 rfl rfl (vin (by omega) (by omega)) dX5_fitting_6 ?_
  refine lv_topi (fun x1 e1 => ?_)
  have g1 : (-2147483648) ≤ x1.toInt ∧ x1.toInt ≤ 200 := by rw [e1]; exact rgI h_ffa (by omega) (by omega)
  refine lv_aload_n hx hb dX5_fitting_7 rfl (lv_at hl 0 rfl) ?_
  refine va_get (D := (dC, dI)) (ci := 5) (v := .ref ff) (C := RX5) (T := TX5) (N := 11) hx hb hts hin5 hown hK hP 0 rfl rfl 5 (by decide) hw1 (fun _ h9 => h9) rfl dX5_fitting_8 ?_
  refine lv_iload_n hx hb dX5_fitting_11 rfl (lv_at hl 1 rfl) ?_
  refine va_iald hx hb hK hP 1 0 rfl rfl (vin (by omega) (by omega)) dX5_fitting_12 ?_
  refine lv_topi (fun x2 e2 => ?_)
  refine lv_isub hx hb dX5_fitting_13 ?_
  refine lv_topi (fun x3 e3 => ?_)
  refine lv_iconst (v := 1) hx hb dX5_fitting_14 (by decide) ?_
  refine lv_iadd hx hb dX5_fitting_15 ?_
  refine lv_topi (fun x4 e4 => ?_)
  refine va_mmax hx hb (hml.trans hl.1.symm) hown hw2 hw3 hw4 hw5 (Nat.le_of_ble_eq_true rfl) (Nat.le_of_ble_eq_true rfl) (Nat.le_of_ble_eq_true rfl) (Nat.le_of_ble_eq_true rfl) dX5_fitting_16 ?_
  refine lv_topi (fun x5 e5 => ?_)
  have f5 : x5.toInt ≥ (0 : Int) ∧ x5.toInt ≥ x4.toInt ∧ (x5.toInt = (0 : Int) ∨ x5.toInt = x4.toInt) := by rw [e5]; exact mmmax_t
  have hP9 := mx_subP (wc := [(f, .inr (5, [.ref k, .ref d, .ref j, .ref fl, .ref fh, .ref ff, .ref fa, .ref fm, .int fct, .int frb, .int fsl])), (ff, .inl (cI, 60, .inl fff)), (fa, .inl (cI, 60, .inl ffa))]) hP [0, 1, 2] rfl
  have hD9 := hD.sub (ws' := [(f, .inr (5, [.ref k, .ref d, .ref j, .ref fl, .ref fh, .ref ff, .ref fa, .ref fm, .int fct, .int frb, .int fsl])), (ff, .inl (cI, 60, .inl fff)), (fa, .inl (cI, 60, .inl ffa))]) [0, 1, 2] (by decide) rfl
  exact W.iret (v := x5) hx hb hr (fun t ht hW => ⟨⟨x5, (), rfl, trivial, by rw [ht]; exact hP9, hD9⟩, hS.F ht⟩) hS.2.2 dX5_fitting_19
