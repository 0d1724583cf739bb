set_option maxHeartbeats 4000000 in
set_option maxRecDepth 100000 in
theorem c_X3_leastByTwos0 (l : Launch) (dC : Nat → ClassId) (dI : Nat → Nat → Nat) (cI cZ cK : ClassId) (tS aK aV : Nat) (o : Nat) (k : Nat) (ks : Nat) (kw : Nat) (kc : Nat) (kq : Nat) (km : Nat) (kd : Nat) (ka : Nat) (kk : Nat) (op : Nat) (oq : Nat) (ov : Nat) (os : Nat) (i0 : Int32) (sz : Nat) (hi0 : 0 ≤ i0.toInt ∧ i0.toInt ≤ 13) : Ci l yX3_leastByTwos (wq yX3_leastByTwos cX3_leastByTwos 7 (some .int)) ({ frames := 3, cells := 0, slots := 0, locals := 66 }) dC dI cI cZ cK tS aK aV [.ref o, .int i0] sz [(o, .inr (3, [.ref k, .ref op, .int 0, .ref oq, .ref ov, .ref os])), (op, .inl (cI, 6, .inl (upd (upd (upd (upd (upd (upd (fun _ => 0) 5 0) 4 0) 3 0) 2 0) 1 0) 0 0))), (os, .inl (cI, 5, .inl (fun _ => 0))), (k, .inr (0, [.ref ks, .ref kw, .ref kc, .int (-6), .int 0, .int 0, .ref kq, .ref km, .ref kd, .int 0, .ref ka, .ref kk])), (ks, .inl (cI, 5, .inl (upd (fun _ => 0) 0 800))), (kw, .inl (cI, 14, .inl (fun _ => 0))), (kq, .inl (cI, 6, .inl (fun _ => 0))), (km, .inl (cI, 6, .inl (fun _ => 0)))] (fun (r : Int32) (_ : Unit) => r = 0) (fun _ => []) := by
  refine Met.ofW (cc := cX3_leastByTwos) (maxL := 7) (ret := (some .int)) (by decide) rfl ?_
  intro p e s m args below meth c s₁ B hml hv
  obtain ⟨rfl, hsz, hP, hKx, hD0⟩ := hv
  have hx := B.exec
  have hb := B.bytes
  have hr := B.returns
  have hts := atoms_spec (ws := wq yX3_leastByTwos cX3_leastByTwos 7 (some .int)) B.pre
  have hown : s.vm.findClass RX3 = some m.cls := findClass_of_methodNamed B.named
  have hlocks := B.notSynchronized
  subst hsz
  have hD := hD0.self (sz := s.heap.size)
  generalize hAe : va_A [(o, .inr (3, [.ref k, .ref op, .int 0, .ref oq, .ref ov, .ref os])), (op, .inl (cI, 6, .inl (upd (upd (upd (upd (upd (upd (fun _ => 0) 5 0) 4 0) 3 0) 2 0) 1 0) 0 0))), (os, .inl (cI, 5, .inl (fun _ => 0))), (k, .inr (0, [.ref ks, .ref kw, .ref kc, .int (-6), .int 0, .int 0, .ref kq, .ref km, .ref kd, .int 0, .ref ka, .ref kk])), (ks, .inl (cI, 5, .inl (upd (fun _ => 0) 0 800))), (kw, .inl (cI, 14, .inl (fun _ => 0))), (kq, .inl (cI, 6, .inl (fun _ => 0))), (km, .inl (cI, 6, .inl (fun _ => 0)))] s.heap.size = A at hD hKx ⊢
  have hA : ∀ q : Nat, s.heap.size ≤ q → A q := fun q h => by rw [← hAe]; exact Or.inr h
  have hS : va_S A s.heap s.heap [] := va_S.rf
  have hP : va_P (dC, dI) vwCl [(o, .inr (3, [.ref k, .ref op, .int 0, .ref oq, .ref ov, .ref os])), (op, .inl (cI, 6, .inl (upd (upd (upd (upd (upd (upd (fun _ => 0) 5 0) 4 0) 3 0) 2 0) 1 0) 0 0))), (os, .inl (cI, 5, .inl (fun _ => 0))), (k, .inr (0, [.ref ks, .ref kw, .ref kc, .int (-6), .int 0, .int 0, .ref kq, .ref km, .ref kd, .int 0, .ref ka, .ref kk])), (ks, .inl (cI, 5, .inl (upd (fun _ => 0) 0 800))), (kw, .inl (cI, 14, .inl (fun _ => 0))), (kq, .inl (cI, 6, .inl (fun _ => 0))), (km, .inl (cI, 6, .inl (fun _ => 0)))] s.heap := hP
  have hl := lv_entry ([.ref o, .int i0]) (n := 7) (Nat.le_of_ble_eq_true rfl)
  rw [lg_entry_eq]
  generalize (lg_sl ([.ref o, .int i0]) ++ List.replicate (7 - (lg_sl ([.ref o, .int i0])).length) Slot.unset).toArray = ls at hl ⊢
  have hl : lv_has ls 7 [(0, .ref o), (1, .int i0)] := hl
  have hK := hKx.1
  have hin3 := fun w9 h9 => List.mem_cons_of_mem (Cond.code yX3_leastByTwos cX3_leastByTwos 7 (some .int)) (inlX3 w9 h9)
  have hw0 := hts (.fieldLink RX3 9 "OneCan$Order" "portions" "[I") (List.mem_cons_of_mem _ wm_140)
  have hw1 := hts (.fieldLink RX3 24 "OneCan$Order" "camp" "LOneCan$Camp;") (List.mem_cons_of_mem _ wm_167)
  have hw2 := hts (.fieldLink RX3 21 "OneCan$Order" "slots" "[I") (List.mem_cons_of_mem _ wm_194)
  have hw3 := hts (.methodLink RX3 64 Lib.Math.min.name) (List.mem_cons_of_mem _ wm_173)
  have hw4 := hts (.static Lib.Math.min.name) (List.mem_cons_of_mem _ wm_14)
  have hw5 := hts (.initialized "java/lang/Math") (List.mem_cons_of_mem _ wm_15)
  have hw6 := hts (.code Lib.Math.min.name Lib.Math.min.code 2 (some .int)) (List.mem_cons_of_mem _ wm_16)
  refine lv_iconst (v := 0) hx hb dX3_leastByTwos_0 (by decide) ?_
  refine lv_istore_n (lv' := [(2, .int 0), (0, .ref o), (1, .int i0)]) hx hb dX3_leastByTwos_1 rfl hl (by decide) rfl (fun ls hl => ?_)
  refine lv_iconst (v := 0) hx hb dX3_leastByTwos_2 (by decide) ?_
  refine lv_istore_n (lv' := [(3, .int 0), (2, .int 0), (0, .ref o), (1, .int i0)]) hx hb dX3_leastByTwos_3 rfl hl (by decide) rfl (fun ls hl => ?_)
  refine lv_iload_n hx hb dX3_leastByTwos_4 rfl (lv_at hl 0 rfl) ?_
  refine lv_bipush (v := 6) hx hb dX3_leastByTwos_5 (by decide) ?_
  refine lv_icmp_ge (tgt := 59) hx hb dX3_leastByTwos_7 (by decide) (fun c1 => absurd c1 (by decide)) (fun c1 => ?_)
  refine lv_aload_n hx hb dX3_leastByTwos_10 rfl (lv_at hl 2 rfl) ?_
  refine va_get (D := (dC, dI)) (ci := 3) (v := .ref op) (C := RX3) (T := TX3) (N := 6) hx hb hts hin3 hown hK hP 0 rfl rfl 1 (by decide) hw0 (fun _ h9 => h9) rfl dX3_leastByTwos_11 ?_
  refine lv_iload_n hx hb dX3_leastByTwos_14 rfl (lv_at hl 0 rfl) ?_
  refine va_iald hx hb hK hP 1 0 rfl rfl (vin (by decide) (by decide)) dX3_leastByTwos_15 ?_
  refine lv_topi (fun x2 e2 => ?_)
  obtain rfl : x2 = 0 := e2.trans (by first | rfl | decide)
  refine lv_if_le (tgt := 33) hx hb dX3_leastByTwos_16 (by decide) (fun c3 => ?_) (fun c3 => absurd c3 (by decide))
  refine lv_iload_n hx hb dX3_leastByTwos_33 rfl (lv_at hl 1 rfl) ?_
  refine lv_aload_n hx hb dX3_leastByTwos_34 rfl (lv_at hl 2 rfl) ?_
  refine va_get (D := (dC, dI)) (ci := 3) (v := .ref op) (C := RX3) (T := TX3) (N := 6) hx hb hts hin3 hown hK hP 0 rfl rfl 1 (by decide) hw0 (fun _ h9 => h9) rfl dX3_leastByTwos_35 ?_
  refine lv_iload_n hx hb dX3_leastByTwos_38 rfl (lv_at hl 0 rfl) ?_
  refine va_iald hx hb hK hP 1 0 rfl rfl (vin (by decide) (by decide)) dX3_leastByTwos_39 ?_
  refine lv_topi (fun x4 e4 => ?_)
  obtain rfl : x4 = 0 := e4.trans (by first | rfl | decide)
  refine lv_aload_n hx hb dX3_leastByTwos_40 rfl (lv_at hl 2 rfl) ?_
  refine va_get (D := (dC, dI)) (ci := 3) (v := .ref k) (C := RX3) (T := TX3) (N := 6) hx hb hts hin3 hown hK hP 0 rfl rfl 0 (by decide) hw1 (fun _ h9 => h9) rfl dX3_leastByTwos_41 ?_
  refine lv_iload_n hx hb dX3_leastByTwos_44 rfl (lv_at hl 0 rfl) ?_
  refine lv_iconst (v := 0) hx hb dX3_leastByTwos_45 (by decide) ?_
  refine lv_iconst (v := 0) hx hb dX3_leastByTwos_46 (by decide) ?_
  refine mx_i (wr := [(o, .inr (3, [.ref k, .ref op, .int 0, .ref oq, .ref ov, .ref os])), (op, .inl (cI, 6, .inl (upd (upd (upd (upd (upd (upd (fun _ => 0) 5 0) 4 0) 3 0) 2 0) 1 0) 0 0))), (os, .inl (cI, 5, .inl (fun _ => 0))), (ks, .inl (cI, 5, .inl (upd (fun _ => 0) 0 800))), (kw, .inl (cI, 14, .inl (fun _ => 0)))]) (va_runV (As := [.int 0, .int 0, .int 0]) (rest := [.int 0, .int 0]) ⟨hx, hb, hml, hown, hts⟩ (c_X0_toBoil l dC dI cI cZ cK tS aK aV k ks kw kc kq km kd ka kk 0 s.heap.size (by have z8 : (0 : Int32).toInt = 0 := rfl; first | omega | decide | assumption | trivial)) (cwV 3 hts (gw_v (fun _ h9 => List.mem_cons_of_mem _ h9) wm_175 wm_176 wm_177 wm_10 wm_178) rfl rfl rfl (by decide +kernel) ⟨Nat.le_of_ble_eq_true rfl, Nat.le_of_ble_eq_true rfl⟩) (mx_preV (C := RX0) (T := TX0) (N := 12) (ci := 0) hKx hP hD hS hA [3, 6, 7] (by decide) rfl rfl rfl) rfl rfl hl.1 rfl (lv_room (Nat.le_of_ble_eq_true rfl)) dX3_leastByTwos_47 ⟨Nat.le_of_ble_eq_true rfl, Nat.le_of_ble_eq_true rfl⟩) hP hD hS hA [3, 6, 7] [0, 1, 2, 4, 5] rfl rfl (by decide) (by decide) (fun r5 u5 H locs hq5 hP hD hS => ?_)
  replace hP : va_P (dC, dI) vwCl [(o, .inr (3, [.ref k, .ref op, .int 0, .ref oq, .ref ov, .ref os])), (op, .inl (cI, 6, .inl (upd (upd (upd (upd (upd (upd (fun _ => 0) 5 0) 4 0) 3 0) 2 0) 1 0) 0 0))), (os, .inl (cI, 5, .inl (fun _ => 0))), (ks, .inl (cI, 5, .inl (upd (fun _ => 0) 0 800))), (kw, .inl (cI, 14, .inl (fun _ => 0))), (k, .inr (0, [.ref ks, .ref kw, .ref kc, .int (-6), .int 0, .int 0, .ref kq, .ref km, .ref kd, .int 0, .ref ka, .ref kk])), (kq, .inl (cI, 6, .inl (fun _ => 0))), (km, .inl (cI, 6, .inl (fun _ => 0)))] H := hP
  replace hD : va_D A [(o, .inr (3, [.ref k, .ref op, .int 0, .ref oq, .ref ov, .ref os])), (op, .inl (cI, 6, .inl (upd (upd (upd (upd (upd (upd (fun _ => 0) 5 0) 4 0) 3 0) 2 0) 1 0) 0 0))), (os, .inl (cI, 5, .inl (fun _ => 0))), (ks, .inl (cI, 5, .inl (upd (fun _ => 0) 0 800))), (kw, .inl (cI, 14, .inl (fun _ => 0))), (k, .inr (0, [.ref ks, .ref kw, .ref kc, .int (-6), .int 0, .int 0, .ref kq, .ref km, .ref kd, .int 0, .ref ka, .ref kk])), (kq, .inl (cI, 6, .inl (fun _ => 0))), (km, .inl (cI, 6, .inl (fun _ => 0)))] := hD
  obtain rfl : r5 = 0 := hq5
  refine lv_imul hx hb dX3_leastByTwos_50 ?_
  refine lv_topi (fun x6 e6 => ?_)
  obtain rfl : x6 = 0 := e6.trans (by decide)
  refine lv_iadd hx hb dX3_leastByTwos_51 ?_
  refine lv_topi (fun x7 e7 => ?_)
  obtain rfl : x7 = 0 := e7.trans (by decide)
  refine lv_istore_n (lv' := [(2, .int 0), (3, .int 0), (0, .ref o), (1, .int i0)]) hx hb dX3_leastByTwos_52 rfl hl (by decide) rfl (fun ls hl => ?_)
  refine lv_iinc (v := 1) (lv' := [(3, .int 1), (2, .int 0), (0, .ref o), (1, .int i0)]) hx hb dX3_leastByTwos_53 hl (k := 1) rfl (by decide) (by decide) rfl (fun ls hl => ?_)
  refine lv_goto (tgt := 4) hx hb dX3_leastByTwos_56 (by decide) ?_
  refine lv_iload_n hx hb dX3_leastByTwos_4 rfl (lv_at hl 0 rfl) ?_
  refine lv_bipush (v := 6) hx hb dX3_leastByTwos_5 (by decide) ?_
  refine lv_icmp_ge (tgt := 59) hx hb dX3_leastByTwos_7 (by decide) (fun c8 => absurd c8 (by decide)) (fun c8 => ?_)
  refine lv_aload_n hx hb dX3_leastByTwos_10 rfl (lv_at hl 2 rfl) ?_
  refine va_get (D := (dC, dI)) (ci := 3) (v := .ref op) (C := RX3) (T := TX3) (N := 6) hx hb hts hin3 hown hK hP 0 rfl rfl 1 (by decide) hw0 (fun _ h9 => h9) rfl dX3_leastByTwos_11 ?_
  refine lv_iload_n hx hb dX3_leastByTwos_14 rfl (lv_at hl 0 rfl) ?_
  refine va_iald hx hb hK hP 1 0 rfl rfl (vin (by decide) (by decide)) dX3_leastByTwos_15 ?_
  refine lv_topi (fun x9 e9 => ?_)
  obtain rfl : x9 = 0 := e9.trans (by first | rfl | decide)
  refine lv_if_le (tgt := 33) hx hb dX3_leastByTwos_16 (by decide) (fun c10 => ?_) (fun c10 => absurd c10 (by decide))
  refine lv_iload_n hx hb dX3_leastByTwos_33 rfl (lv_at hl 1 rfl) ?_
  refine lv_aload_n hx hb dX3_leastByTwos_34 rfl (lv_at hl 2 rfl) ?_
  refine va_get (D := (dC, dI)) (ci := 3) (v := .ref op) (C := RX3) (T := TX3) (N := 6) hx hb hts hin3 hown hK hP 0 rfl rfl 1 (by decide) hw0 (fun _ h9 => h9) rfl dX3_leastByTwos_35 ?_
  refine lv_iload_n hx hb dX3_leastByTwos_38 rfl (lv_at hl 0 rfl) ?_
  refine va_iald hx hb hK hP 1 0 rfl rfl (vin (by decide) (by decide)) dX3_leastByTwos_39 ?_
  refine lv_topi (fun x11 e11 => ?_)
  obtain rfl : x11 = 0 := e11.trans (by first | rfl | decide)
  refine lv_aload_n hx hb dX3_leastByTwos_40 rfl (lv_at hl 2 rfl) ?_
  refine va_get (D := (dC, dI)) (ci := 3) (v := .ref k) (C := RX3) (T := TX3) (N := 6) hx hb hts hin3 hown hK hP 0 rfl rfl 0 (by decide) hw1 (fun _ h9 => h9) rfl dX3_leastByTwos_41 ?_
  refine lv_iload_n hx hb dX3_leastByTwos_44 rfl (lv_at hl 0 rfl) ?_
  refine lv_iconst (v := 0) hx hb dX3_leastByTwos_45 (by decide) ?_
  refine lv_iconst (v := 0) hx hb dX3_leastByTwos_46 (by decide) ?_
  refine mx_i (wr := [(o, .inr (3, [.ref k, .ref op, .int 0, .ref oq, .ref ov, .ref os])), (op, .inl (cI, 6, .inl (upd (upd (upd (upd (upd (upd (fun _ => 0) 5 0) 4 0) 3 0) 2 0) 1 0) 0 0))), (os, .inl (cI, 5, .inl (fun _ => 0))), (ks, .inl (cI, 5, .inl (upd (fun _ => 0) 0 800))), (kw, .inl (cI, 14, .inl (fun _ => 0)))]) (va_runV (As := [.int 1, .int 0, .int 0]) (rest := [.int 0, .int 0]) ⟨hx, hb, hml, hown, hts⟩ (c_X0_toBoil l dC dI cI cZ cK tS aK aV k ks kw kc kq km kd ka kk 1 H.size (by have z8 : (1 : Int32).toInt = 1 := rfl; first | omega | decide | assumption | trivial)) (cwV 3 hts (gw_v (fun _ h9 => List.mem_cons_of_mem _ h9) wm_175 wm_176 wm_177 wm_10 wm_178) rfl rfl rfl (by decide +kernel) ⟨Nat.le_of_ble_eq_true rfl, Nat.le_of_ble_eq_true rfl⟩) (mx_preV (C := RX0) (T := TX0) (N := 12) (ci := 0) hKx hP hD hS hA [5, 6, 7] (by decide) rfl rfl rfl) rfl rfl hl.1 rfl (lv_room (Nat.le_of_ble_eq_true rfl)) dX3_leastByTwos_47 ⟨Nat.le_of_ble_eq_true rfl, Nat.le_of_ble_eq_true rfl⟩) hP hD hS hA [5, 6, 7] [0, 1, 2, 3, 4] rfl rfl (by decide) (by decide) (fun r12 u12 H locs hq12 hP hD hS => ?_)
  replace hP : va_P (dC, dI) vwCl [(o, .inr (3, [.ref k, .ref op, .int 0, .ref oq, .ref ov, .ref os])), (op, .inl (cI, 6, .inl (upd (upd (upd (upd (upd (upd (fun _ => 0) 5 0) 4 0) 3 0) 2 0) 1 0) 0 0))), (os, .inl (cI, 5, .inl (fun _ => 0))), (ks, .inl (cI, 5, .inl (upd (fun _ => 0) 0 800))), (kw, .inl (cI, 14, .inl (fun _ => 0))), (k, .inr (0, [.ref ks, .ref kw, .ref kc, .int (-6), .int 0, .int 0, .ref kq, .ref km, .ref kd, .int 0, .ref ka, .ref kk])), (kq, .inl (cI, 6, .inl (fun _ => 0))), (km, .inl (cI, 6, .inl (fun _ => 0)))] H := hP
  replace hD : va_D A [(o, .inr (3, [.ref k, .ref op, .int 0, .ref oq, .ref ov, .ref os])), (op, .inl (cI, 6, .inl (upd (upd (upd (upd (upd (upd (fun _ => 0) 5 0) 4 0) 3 0) 2 0) 1 0) 0 0))), (os, .inl (cI, 5, .inl (fun _ => 0))), (ks, .inl (cI, 5, .inl (upd (fun _ => 0) 0 800))), (kw, .inl (cI, 14, .inl (fun _ => 0))), (k, .inr (0, [.ref ks, .ref kw, .ref kc, .int (-6), .int 0, .int 0, .ref kq, .ref km, .ref kd, .int 0, .ref ka, .ref kk])), (kq, .inl (cI, 6, .inl (fun _ => 0))), (km, .inl (cI, 6, .inl (fun _ => 0)))] := hD
  obtain rfl : r12 = 0 := hq12
  refine lv_imul hx hb dX3_leastByTwos_50 ?_
  refine lv_topi (fun x13 e13 => ?_)
  obtain rfl : x13 = 0 := e13.trans (by decide)
  refine lv_iadd hx hb dX3_leastByTwos_51 ?_
  refine lv_topi (fun x14 e14 => ?_)
  obtain rfl : x14 = 0 := e14.trans (by decide)
  refine lv_istore_n (lv' := [(2, .int 0), (3, .int 1), (0, .ref o), (1, .int i0)]) hx hb dX3_leastByTwos_52 rfl hl (by decide) rfl (fun ls hl => ?_)
  refine lv_iinc (v := 2) (lv' := [(3, .int 2), (2, .int 0), (0, .ref o), (1, .int i0)]) hx hb dX3_leastByTwos_53 hl (k := 1) rfl (by decide) (by decide) rfl (fun ls hl => ?_)
  refine lv_goto (tgt := 4) hx hb dX3_leastByTwos_56 (by decide) ?_
  refine lv_iload_n hx hb dX3_leastByTwos_4 rfl (lv_at hl 0 rfl) ?_
  refine lv_bipush (v := 6) hx hb dX3_leastByTwos_5 (by decide) ?_
  refine lv_icmp_ge (tgt := 59) hx hb dX3_leastByTwos_7 (by decide) (fun c15 => absurd c15 (by decide)) (fun c15 => ?_)
  refine lv_aload_n hx hb dX3_leastByTwos_10 rfl (lv_at hl 2 rfl) ?_
  refine va_get (D := (dC, dI)) (ci := 3) (v := .ref op) (C := RX3) (T := TX3) (N := 6) hx hb hts hin3 hown hK hP 0 rfl rfl 1 (by decide) hw0 (fun _ h9 => h9) rfl dX3_leastByTwos_11 ?_
  refine lv_iload_n hx hb dX3_leastByTwos_14 rfl (lv_at hl 0 rfl) ?_
  refine va_iald hx hb hK hP 1 0 rfl rfl (vin (by decide) (by decide)) dX3_leastByTwos_15 ?_
  refine lv_topi (fun x16 e16 => ?_)
  obtain rfl : x16 = 0 := e16.trans (by first | rfl | decide)
  refine lv_if_le (tgt := 33) hx hb dX3_leastByTwos_16 (by decide) (fun c17 => ?_) (fun c17 => absurd c17 (by decide))
  refine lv_iload_n hx hb dX3_leastByTwos_33 rfl (lv_at hl 1 rfl) ?_
  refine lv_aload_n hx hb dX3_leastByTwos_34 rfl (lv_at hl 2 rfl) ?_
  refine va_get (D := (dC, dI)) (ci := 3) (v := .ref op) (C := RX3) (T := TX3) (N := 6) hx hb hts hin3 hown hK hP 0 rfl rfl 1 (by decide) hw0 (fun _ h9 => h9) rfl dX3_leastByTwos_35 ?_
  refine lv_iload_n hx hb dX3_leastByTwos_38 rfl (lv_at hl 0 rfl) ?_
  refine va_iald hx hb hK hP 1 0 rfl rfl (vin (by decide) (by decide)) dX3_leastByTwos_39 ?_
  refine lv_topi (fun x18 e18 => ?_)
  obtain rfl : x18 = 0 := e18.trans (by first | rfl | decide)
  refine lv_aload_n hx hb dX3_leastByTwos_40 rfl (lv_at hl 2 rfl) ?_
  refine va_get (D := (dC, dI)) (ci := 3) (v := .ref k) (C := RX3) (T := TX3) (N := 6) hx hb hts hin3 hown hK hP 0 rfl rfl 0 (by decide) hw1 (fun _ h9 => h9) rfl dX3_leastByTwos_41 ?_
  refine lv_iload_n hx hb dX3_leastByTwos_44 rfl (lv_at hl 0 rfl) ?_
  refine lv_iconst (v := 0) hx hb dX3_leastByTwos_45 (by decide) ?_
  refine lv_iconst (v := 0) hx hb dX3_leastByTwos_46 (by decide) ?_
  refine mx_i (wr := [(o, .inr (3, [.ref k, .ref op, .int 0, .ref oq, .ref ov, .ref os])), (op, .inl (cI, 6, .inl (upd (upd (upd (upd (upd (upd (fun _ => 0) 5 0) 4 0) 3 0) 2 0) 1 0) 0 0))), (os, .inl (cI, 5, .inl (fun _ => 0))), (ks, .inl (cI, 5, .inl (upd (fun _ => 0) 0 800))), (kw, .inl (cI, 14, .inl (fun _ => 0)))]) (va_runV (As := [.int 2, .int 0, .int 0]) (rest := [.int 0, .int 0]) ⟨hx, hb, hml, hown, hts⟩ (c_X0_toBoil l dC dI cI cZ cK tS aK aV k ks kw kc kq km kd ka kk 2 H.size (by have z8 : (2 : Int32).toInt = 2 := rfl; first | omega | decide | assumption | trivial)) (cwV 3 hts (gw_v (fun _ h9 => List.mem_cons_of_mem _ h9) wm_175 wm_176 wm_177 wm_10 wm_178) rfl rfl rfl (by decide +kernel) ⟨Nat.le_of_ble_eq_true rfl, Nat.le_of_ble_eq_true rfl⟩) (mx_preV (C := RX0) (T := TX0) (N := 12) (ci := 0) hKx hP hD hS hA [5, 6, 7] (by decide) rfl rfl rfl) rfl rfl hl.1 rfl (lv_room (Nat.le_of_ble_eq_true rfl)) dX3_leastByTwos_47 ⟨Nat.le_of_ble_eq_true rfl, Nat.le_of_ble_eq_true rfl⟩) hP hD hS hA [5, 6, 7] [0, 1, 2, 3, 4] rfl rfl (by decide) (by decide) (fun r19 u19 H locs hq19 hP hD hS => ?_)
  replace hP : va_P (dC, dI) vwCl [(o, .inr (3, [.ref k, .ref op, .int 0, .ref oq, .ref ov, .ref os])), (op, .inl (cI, 6, .inl (upd (upd (upd (upd (upd (upd (fun _ => 0) 5 0) 4 0) 3 0) 2 0) 1 0) 0 0))), (os, .inl (cI, 5, .inl (fun _ => 0))), (ks, .inl (cI, 5, .inl (upd (fun _ => 0) 0 800))), (kw, .inl (cI, 14, .inl (fun _ => 0))), (k, .inr (0, [.ref ks, .ref kw, .ref kc, .int (-6), .int 0, .int 0, .ref kq, .ref km, .ref kd, .int 0, .ref ka, .ref kk])), (kq, .inl (cI, 6, .inl (fun _ => 0))), (km, .inl (cI, 6, .inl (fun _ => 0)))] H := hP
  replace hD : va_D A [(o, .inr (3, [.ref k, .ref op, .int 0, .ref oq, .ref ov, .ref os])), (op, .inl (cI, 6, .inl (upd (upd (upd (upd (upd (upd (fun _ => 0) 5 0) 4 0) 3 0) 2 0) 1 0) 0 0))), (os, .inl (cI, 5, .inl (fun _ => 0))), (ks, .inl (cI, 5, .inl (upd (fun _ => 0) 0 800))), (kw, .inl (cI, 14, .inl (fun _ => 0))), (k, .inr (0, [.ref ks, .ref kw, .ref kc, .int (-6), .int 0, .int 0, .ref kq, .ref km, .ref kd, .int 0, .ref ka, .ref kk])), (kq, .inl (cI, 6, .inl (fun _ => 0))), (km, .inl (cI, 6, .inl (fun _ => 0)))] := hD
  obtain rfl : r19 = 0 := hq19
  refine lv_imul hx hb dX3_leastByTwos_50 ?_
  refine lv_topi (fun x20 e20 => ?_)
  obtain rfl : x20 = 0 := e20.trans (by decide)
  refine lv_iadd hx hb dX3_leastByTwos_51 ?_
  refine lv_topi (fun x21 e21 => ?_)
  obtain rfl : x21 = 0 := e21.trans (by decide)
  refine lv_istore_n (lv' := [(2, .int 0), (3, .int 2), (0, .ref o), (1, .int i0)]) hx hb dX3_leastByTwos_52 rfl hl (by decide) rfl (fun ls hl => ?_)
  refine lv_iinc (v := 3) (lv' := [(3, .int 3), (2, .int 0), (0, .ref o), (1, .int i0)]) hx hb dX3_leastByTwos_53 hl (k := 1) rfl (by decide) (by decide) rfl (fun ls hl => ?_)
  refine lv_goto (tgt := 4) hx hb dX3_leastByTwos_56 (by decide) ?_
  refine lv_iload_n hx hb dX3_leastByTwos_4 rfl (lv_at hl 0 rfl) ?_
  refine lv_bipush (v := 6) hx hb dX3_leastByTwos_5 (by decide) ?_
  refine lv_icmp_ge (tgt := 59) hx hb dX3_leastByTwos_7 (by decide) (fun c22 => absurd c22 (by decide)) (fun c22 => ?_)
  refine lv_aload_n hx hb dX3_leastByTwos_10 rfl (lv_at hl 2 rfl) ?_
  refine va_get (D := (dC, dI)) (ci := 3) (v := .ref op) (C := RX3) (T := TX3) (N := 6) hx hb hts hin3 hown hK hP 0 rfl rfl 1 (by decide) hw0 (fun _ h9 => h9) rfl dX3_leastByTwos_11 ?_
  refine lv_iload_n hx hb dX3_leastByTwos_14 rfl (lv_at hl 0 rfl) ?_
  refine va_iald hx hb hK hP 1 0 rfl rfl (vin (by decide) (by decide)) dX3_leastByTwos_15 ?_
  refine lv_topi (fun x23 e23 => ?_)
  obtain rfl : x23 = 0 := e23.trans (by first | rfl | decide)
  refine lv_if_le (tgt := 33) hx hb dX3_leastByTwos_16 (by decide) (fun c24 => ?_) (fun c24 => absurd c24 (by decide))
  refine lv_iload_n hx hb dX3_leastByTwos_33 rfl (lv_at hl 1 rfl) ?_
  refine lv_aload_n hx hb dX3_leastByTwos_34 rfl (lv_at hl 2 rfl) ?_
  refine va_get (D := (dC, dI)) (ci := 3) (v := .ref op) (C := RX3) (T := TX3) (N := 6) hx hb hts hin3 hown hK hP 0 rfl rfl 1 (by decide) hw0 (fun _ h9 => h9) rfl dX3_leastByTwos_35 ?_
  refine lv_iload_n hx hb dX3_leastByTwos_38 rfl (lv_at hl 0 rfl) ?_
  refine va_iald hx hb hK hP 1 0 rfl rfl (vin (by decide) (by decide)) dX3_leastByTwos_39 ?_
  refine lv_topi (fun x25 e25 => ?_)
  obtain rfl : x25 = 0 := e25.trans (by first | rfl | decide)
  refine lv_aload_n hx hb dX3_leastByTwos_40 rfl (lv_at hl 2 rfl) ?_
  refine va_get (D := (dC, dI)) (ci := 3) (v := .ref k) (C := RX3) (T := TX3) (N := 6) hx hb hts hin3 hown hK hP 0 rfl rfl 0 (by decide) hw1 (fun _ h9 => h9) rfl dX3_leastByTwos_41 ?_
  refine lv_iload_n hx hb dX3_leastByTwos_44 rfl (lv_at hl 0 rfl) ?_
  refine lv_iconst (v := 0) hx hb dX3_leastByTwos_45 (by decide) ?_
  refine lv_iconst (v := 0) hx hb dX3_leastByTwos_46 (by decide) ?_
  refine mx_i (wr := [(o, .inr (3, [.ref k, .ref op, .int 0, .ref oq, .ref ov, .ref os])), (op, .inl (cI, 6, .inl (upd (upd (upd (upd (upd (upd (fun _ => 0) 5 0) 4 0) 3 0) 2 0) 1 0) 0 0))), (os, .inl (cI, 5, .inl (fun _ => 0))), (ks, .inl (cI, 5, .inl (upd (fun _ => 0) 0 800))), (kw, .inl (cI, 14, .inl (fun _ => 0)))]) (va_runV (As := [.int 3, .int 0, .int 0]) (rest := [.int 0, .int 0]) ⟨hx, hb, hml, hown, hts⟩ (c_X0_toBoil l dC dI cI cZ cK tS aK aV k ks kw kc kq km kd ka kk 3 H.size (by have z8 : (3 : Int32).toInt = 3 := rfl; first | omega | decide | assumption | trivial)) (cwV 3 hts (gw_v (fun _ h9 => List.mem_cons_of_mem _ h9) wm_175 wm_176 wm_177 wm_10 wm_178) rfl rfl rfl (by decide +kernel) ⟨Nat.le_of_ble_eq_true rfl, Nat.le_of_ble_eq_true rfl⟩) (mx_preV (C := RX0) (T := TX0) (N := 12) (ci := 0) hKx hP hD hS hA [5, 6, 7] (by decide) rfl rfl rfl) rfl rfl hl.1 rfl (lv_room (Nat.le_of_ble_eq_true rfl)) dX3_leastByTwos_47 ⟨Nat.le_of_ble_eq_true rfl, Nat.le_of_ble_eq_true rfl⟩) hP hD hS hA [5, 6, 7] [0, 1, 2, 3, 4] rfl rfl (by decide) (by decide) (fun r26 u26 H locs hq26 hP hD hS => ?_)
  replace hP : va_P (dC, dI) vwCl [(o, .inr (3, [.ref k, .ref op, .int 0, .ref oq, .ref ov, .ref os])), (op, .inl (cI, 6, .inl (upd (upd (upd (upd (upd (upd (fun _ => 0) 5 0) 4 0) 3 0) 2 0) 1 0) 0 0))), (os, .inl (cI, 5, .inl (fun _ => 0))), (ks, .inl (cI, 5, .inl (upd (fun _ => 0) 0 800))), (kw, .inl (cI, 14, .inl (fun _ => 0))), (k, .inr (0, [.ref ks, .ref kw, .ref kc, .int (-6), .int 0, .int 0, .ref kq, .ref km, .ref kd, .int 0, .ref ka, .ref kk])), (kq, .inl (cI, 6, .inl (fun _ => 0))), (km, .inl (cI, 6, .inl (fun _ => 0)))] H := hP
  replace hD : va_D A [(o, .inr (3, [.ref k, .ref op, .int 0, .ref oq, .ref ov, .ref os])), (op, .inl (cI, 6, .inl (upd (upd (upd (upd (upd (upd (fun _ => 0) 5 0) 4 0) 3 0) 2 0) 1 0) 0 0))), (os, .inl (cI, 5, .inl (fun _ => 0))), (ks, .inl (cI, 5, .inl (upd (fun _ => 0) 0 800))), (kw, .inl (cI, 14, .inl (fun _ => 0))), (k, .inr (0, [.ref ks, .ref kw, .ref kc, .int (-6), .int 0, .int 0, .ref kq, .ref km, .ref kd, .int 0, .ref ka, .ref kk])), (kq, .inl (cI, 6, .inl (fun _ => 0))), (km, .inl (cI, 6, .inl (fun _ => 0)))] := hD
  obtain rfl : r26 = 0 := hq26
  refine lv_imul hx hb dX3_leastByTwos_50 ?_
  refine lv_topi (fun x27 e27 => ?_)
  obtain rfl : x27 = 0 := e27.trans (by decide)
  refine lv_iadd hx hb dX3_leastByTwos_51 ?_
  refine lv_topi (fun x28 e28 => ?_)
  obtain rfl : x28 = 0 := e28.trans (by decide)
  refine lv_istore_n (lv' := [(2, .int 0), (3, .int 3), (0, .ref o), (1, .int i0)]) hx hb dX3_leastByTwos_52 rfl hl (by decide) rfl (fun ls hl => ?_)
  refine lv_iinc (v := 4) (lv' := [(3, .int 4), (2, .int 0), (0, .ref o), (1, .int i0)]) hx hb dX3_leastByTwos_53 hl (k := 1) rfl (by decide) (by decide) rfl (fun ls hl => ?_)
  refine lv_goto (tgt := 4) hx hb dX3_leastByTwos_56 (by decide) ?_
  refine lv_iload_n hx hb dX3_leastByTwos_4 rfl (lv_at hl 0 rfl) ?_
  refine lv_bipush (v := 6) hx hb dX3_leastByTwos_5 (by decide) ?_
  refine lv_icmp_ge (tgt := 59) hx hb dX3_leastByTwos_7 (by decide) (fun c29 => absurd c29 (by decide)) (fun c29 => ?_)
  refine lv_aload_n hx hb dX3_leastByTwos_10 rfl (lv_at hl 2 rfl) ?_
  refine va_get (D := (dC, dI)) (ci := 3) (v := .ref op) (C := RX3) (T := TX3) (N := 6) hx hb hts hin3 hown hK hP 0 rfl rfl 1 (by decide) hw0 (fun _ h9 => h9) rfl dX3_leastByTwos_11 ?_
  refine lv_iload_n hx hb dX3_leastByTwos_14 rfl (lv_at hl 0 rfl) ?_
  refine va_iald hx hb hK hP 1 0 rfl rfl (vin (by decide) (by decide)) dX3_leastByTwos_15 ?_
  refine lv_topi (fun x30 e30 => ?_)
  obtain rfl : x30 = 0 := e30.trans (by first | rfl | decide)
  refine lv_if_le (tgt := 33) hx hb dX3_leastByTwos_16 (by decide) (fun c31 => ?_) (fun c31 => absurd c31 (by decide))
  refine lv_iload_n hx hb dX3_leastByTwos_33 rfl (lv_at hl 1 rfl) ?_
  refine lv_aload_n hx hb dX3_leastByTwos_34 rfl (lv_at hl 2 rfl) ?_
  refine va_get (D := (dC, dI)) (ci := 3) (v := .ref op) (C := RX3) (T := TX3) (N := 6) hx hb hts hin3 hown hK hP 0 rfl rfl 1 (by decide) hw0 (fun _ h9 => h9) rfl dX3_leastByTwos_35 ?_
  refine lv_iload_n hx hb dX3_leastByTwos_38 rfl (lv_at hl 0 rfl) ?_
  refine va_iald hx hb hK hP 1 0 rfl rfl (vin (by decide) (by decide)) dX3_leastByTwos_39 ?_
  refine lv_topi (fun x32 e32 => ?_)
  obtain rfl : x32 = 0 := e32.trans (by first | rfl | decide)
  refine lv_aload_n hx hb dX3_leastByTwos_40 rfl (lv_at hl 2 rfl) ?_
  refine va_get (D := (dC, dI)) (ci := 3) (v := .ref k) (C := RX3) (T := TX3) (N := 6) hx hb hts hin3 hown hK hP 0 rfl rfl 0 (by decide) hw1 (fun _ h9 => h9) rfl dX3_leastByTwos_41 ?_
  refine lv_iload_n hx hb dX3_leastByTwos_44 rfl (lv_at hl 0 rfl) ?_
  refine lv_iconst (v := 0) hx hb dX3_leastByTwos_45 (by decide) ?_
  refine lv_iconst (v := 0) hx hb dX3_leastByTwos_46 (by decide) ?_
  refine mx_i (wr := [(o, .inr (3, [.ref k, .ref op, .int 0, .ref oq, .ref ov, .ref os])), (op, .inl (cI, 6, .inl (upd (upd (upd (upd (upd (upd (fun _ => 0) 5 0) 4 0) 3 0) 2 0) 1 0) 0 0))), (os, .inl (cI, 5, .inl (fun _ => 0))), (ks, .inl (cI, 5, .inl (upd (fun _ => 0) 0 800))), (kw, .inl (cI, 14, .inl (fun _ => 0)))]) (va_runV (As := [.int 4, .int 0, .int 0]) (rest := [.int 0, .int 0]) ⟨hx, hb, hml, hown, hts⟩ (c_X0_toBoil l dC dI cI cZ cK tS aK aV k ks kw kc kq km kd ka kk 4 H.size (by have z8 : (4 : Int32).toInt = 4 := rfl; first | omega | decide | assumption | trivial)) (cwV 3 hts (gw_v (fun _ h9 => List.mem_cons_of_mem _ h9) wm_175 wm_176 wm_177 wm_10 wm_178) rfl rfl rfl (by decide +kernel) ⟨Nat.le_of_ble_eq_true rfl, Nat.le_of_ble_eq_true rfl⟩) (mx_preV (C := RX0) (T := TX0) (N := 12) (ci := 0) hKx hP hD hS hA [5, 6, 7] (by decide) rfl rfl rfl) rfl rfl hl.1 rfl (lv_room (Nat.le_of_ble_eq_true rfl)) dX3_leastByTwos_47 ⟨Nat.le_of_ble_eq_true rfl, Nat.le_of_ble_eq_true rfl⟩) hP hD hS hA [5, 6, 7] [0, 1, 2, 3, 4] rfl rfl (by decide) (by decide) (fun r33 u33 H locs hq33 hP hD hS => ?_)
  replace hP : va_P (dC, dI) vwCl [(o, .inr (3, [.ref k, .ref op, .int 0, .ref oq, .ref ov, .ref os])), (op, .inl (cI, 6, .inl (upd (upd (upd (upd (upd (upd (fun _ => 0) 5 0) 4 0) 3 0) 2 0) 1 0) 0 0))), (os, .inl (cI, 5, .inl (fun _ => 0))), (ks, .inl (cI, 5, .inl (upd (fun _ => 0) 0 800))), (kw, .inl (cI, 14, .inl (fun _ => 0))), (k, .inr (0, [.ref ks, .ref kw, .ref kc, .int (-6), .int 0, .int 0, .ref kq, .ref km, .ref kd, .int 0, .ref ka, .ref kk])), (kq, .inl (cI, 6, .inl (fun _ => 0))), (km, .inl (cI, 6, .inl (fun _ => 0)))] H := hP
  replace hD : va_D A [(o, .inr (3, [.ref k, .ref op, .int 0, .ref oq, .ref ov, .ref os])), (op, .inl (cI, 6, .inl (upd (upd (upd (upd (upd (upd (fun _ => 0) 5 0) 4 0) 3 0) 2 0) 1 0) 0 0))), (os, .inl (cI, 5, .inl (fun _ => 0))), (ks, .inl (cI, 5, .inl (upd (fun _ => 0) 0 800))), (kw, .inl (cI, 14, .inl (fun _ => 0))), (k, .inr (0, [.ref ks, .ref kw, .ref kc, .int (-6), .int 0, .int 0, .ref kq, .ref km, .ref kd, .int 0, .ref ka, .ref kk])), (kq, .inl (cI, 6, .inl (fun _ => 0))), (km, .inl (cI, 6, .inl (fun _ => 0)))] := hD
  obtain rfl : r33 = 0 := hq33
  refine lv_imul hx hb dX3_leastByTwos_50 ?_
  refine lv_topi (fun x34 e34 => ?_)
  obtain rfl : x34 = 0 := e34.trans (by decide)
  refine lv_iadd hx hb dX3_leastByTwos_51 ?_
  refine lv_topi (fun x35 e35 => ?_)
  obtain rfl : x35 = 0 := e35.trans (by decide)
  refine lv_istore_n (lv' := [(2, .int 0), (3, .int 4), (0, .ref o), (1, .int i0)]) hx hb dX3_leastByTwos_52 rfl hl (by decide) rfl (fun ls hl => ?_)
  refine lv_iinc (v := 5) (lv' := [(3, .int 5), (2, .int 0), (0, .ref o), (1, .int i0)]) hx hb dX3_leastByTwos_53 hl (k := 1) rfl (by decide) (by decide) rfl (fun ls hl => ?_)
  refine lv_goto (tgt := 4) hx hb dX3_leastByTwos_56 (by decide) ?_
  refine lv_iload_n hx hb dX3_leastByTwos_4 rfl (lv_at hl 0 rfl) ?_
  refine lv_bipush (v := 6) hx hb dX3_leastByTwos_5 (by decide) ?_
  refine lv_icmp_ge (tgt := 59) hx hb dX3_leastByTwos_7 (by decide) (fun c36 => absurd c36 (by decide)) (fun c36 => ?_)
  refine lv_aload_n hx hb dX3_leastByTwos_10 rfl (lv_at hl 2 rfl) ?_
  refine va_get (D := (dC, dI)) (ci := 3) (v := .ref op) (C := RX3) (T := TX3) (N := 6) hx hb hts hin3 hown hK hP 0 rfl rfl 1 (by decide) hw0 (fun _ h9 => h9) rfl dX3_leastByTwos_11 ?_
  refine lv_iload_n hx hb dX3_leastByTwos_14 rfl (lv_at hl 0 rfl) ?_
  refine va_iald hx hb hK hP 1 0 rfl rfl (vin (by decide) (by decide)) dX3_leastByTwos_15 ?_
  refine lv_topi (fun x37 e37 => ?_)
  obtain rfl : x37 = 0 := e37.trans (by first | rfl | decide)
  refine lv_if_le (tgt := 33) hx hb dX3_leastByTwos_16 (by decide) (fun c38 => ?_) (fun c38 => absurd c38 (by decide))
  refine lv_iload_n hx hb dX3_leastByTwos_33 rfl (lv_at hl 1 rfl) ?_
  refine lv_aload_n hx hb dX3_leastByTwos_34 rfl (lv_at hl 2 rfl) ?_
  refine va_get (D := (dC, dI)) (ci := 3) (v := .ref op) (C := RX3) (T := TX3) (N := 6) hx hb hts hin3 hown hK hP 0 rfl rfl 1 (by decide) hw0 (fun _ h9 => h9) rfl dX3_leastByTwos_35 ?_
  refine lv_iload_n hx hb dX3_leastByTwos_38 rfl (lv_at hl 0 rfl) ?_
  refine va_iald hx hb hK hP 1 0 rfl rfl (vin (by decide) (by decide)) dX3_leastByTwos_39 ?_
  refine lv_topi (fun x39 e39 => ?_)
  obtain rfl : x39 = 0 := e39.trans (by first | rfl | decide)
  refine lv_aload_n hx hb dX3_leastByTwos_40 rfl (lv_at hl 2 rfl) ?_
  refine va_get (D := (dC, dI)) (ci := 3) (v := .ref k) (C := RX3) (T := TX3) (N := 6) hx hb hts hin3 hown hK hP 0 rfl rfl 0 (by decide) hw1 (fun _ h9 => h9) rfl dX3_leastByTwos_41 ?_
  refine lv_iload_n hx hb dX3_leastByTwos_44 rfl (lv_at hl 0 rfl) ?_
  refine lv_iconst (v := 0) hx hb dX3_leastByTwos_45 (by decide) ?_
  refine lv_iconst (v := 0) hx hb dX3_leastByTwos_46 (by decide) ?_
  refine mx_i (wr := [(o, .inr (3, [.ref k, .ref op, .int 0, .ref oq, .ref ov, .ref os])), (op, .inl (cI, 6, .inl (upd (upd (upd (upd (upd (upd (fun _ => 0) 5 0) 4 0) 3 0) 2 0) 1 0) 0 0))), (os, .inl (cI, 5, .inl (fun _ => 0))), (ks, .inl (cI, 5, .inl (upd (fun _ => 0) 0 800))), (kw, .inl (cI, 14, .inl (fun _ => 0)))]) (va_runV (As := [.int 5, .int 0, .int 0]) (rest := [.int 0, .int 0]) ⟨hx, hb, hml, hown, hts⟩ (c_X0_toBoil l dC dI cI cZ cK tS aK aV k ks kw kc kq km kd ka kk 5 H.size (by have z8 : (5 : Int32).toInt = 5 := rfl; first | omega | decide | assumption | trivial)) (cwV 3 hts (gw_v (fun _ h9 => List.mem_cons_of_mem _ h9) wm_175 wm_176 wm_177 wm_10 wm_178) rfl rfl rfl (by decide +kernel) ⟨Nat.le_of_ble_eq_true rfl, Nat.le_of_ble_eq_true rfl⟩) (mx_preV (C := RX0) (T := TX0) (N := 12) (ci := 0) hKx hP hD hS hA [5, 6, 7] (by decide) rfl rfl rfl) rfl rfl hl.1 rfl (lv_room (Nat.le_of_ble_eq_true rfl)) dX3_leastByTwos_47 ⟨Nat.le_of_ble_eq_true rfl, Nat.le_of_ble_eq_true rfl⟩) hP hD hS hA [5, 6, 7] [0, 1, 2, 3, 4] rfl rfl (by decide) (by decide) (fun r40 u40 H locs hq40 hP hD hS => ?_)
  replace hP : va_P (dC, dI) vwCl [(o, .inr (3, [.ref k, .ref op, .int 0, .ref oq, .ref ov, .ref os])), (op, .inl (cI, 6, .inl (upd (upd (upd (upd (upd (upd (fun _ => 0) 5 0) 4 0) 3 0) 2 0) 1 0) 0 0))), (os, .inl (cI, 5, .inl (fun _ => 0))), (ks, .inl (cI, 5, .inl (upd (fun _ => 0) 0 800))), (kw, .inl (cI, 14, .inl (fun _ => 0))), (k, .inr (0, [.ref ks, .ref kw, .ref kc, .int (-6), .int 0, .int 0, .ref kq, .ref km, .ref kd, .int 0, .ref ka, .ref kk])), (kq, .inl (cI, 6, .inl (fun _ => 0))), (km, .inl (cI, 6, .inl (fun _ => 0)))] H := hP
  replace hD : va_D A [(o, .inr (3, [.ref k, .ref op, .int 0, .ref oq, .ref ov, .ref os])), (op, .inl (cI, 6, .inl (upd (upd (upd (upd (upd (upd (fun _ => 0) 5 0) 4 0) 3 0) 2 0) 1 0) 0 0))), (os, .inl (cI, 5, .inl (fun _ => 0))), (ks, .inl (cI, 5, .inl (upd (fun _ => 0) 0 800))), (kw, .inl (cI, 14, .inl (fun _ => 0))), (k, .inr (0, [.ref ks, .ref kw, .ref kc, .int (-6), .int 0, .int 0, .ref kq, .ref km, .ref kd, .int 0, .ref ka, .ref kk])), (kq, .inl (cI, 6, .inl (fun _ => 0))), (km, .inl (cI, 6, .inl (fun _ => 0)))] := hD
  obtain rfl : r40 = 0 := hq40
  refine lv_imul hx hb dX3_leastByTwos_50 ?_
  refine lv_topi (fun x41 e41 => ?_)
  obtain rfl : x41 = 0 := e41.trans (by decide)
  refine lv_iadd hx hb dX3_leastByTwos_51 ?_
  refine lv_topi (fun x42 e42 => ?_)
  obtain rfl : x42 = 0 := e42.trans (by decide)
  refine lv_istore_n (lv' := [(2, .int 0), (3, .int 5), (0, .ref o), (1, .int i0)]) hx hb dX3_leastByTwos_52 rfl hl (by decide) rfl (fun ls hl => ?_)
  refine lv_iinc (v := 6) (lv' := [(3, .int 6), (2, .int 0), (0, .ref o), (1, .int i0)]) hx hb dX3_leastByTwos_53 hl (k := 1) rfl (by decide) (by decide) rfl (fun ls hl => ?_)
  refine lv_goto (tgt := 4) hx hb dX3_leastByTwos_56 (by decide) ?_
  refine lv_iload_n hx hb dX3_leastByTwos_4 rfl (lv_at hl 0 rfl) ?_
  refine lv_bipush (v := 6) hx hb dX3_leastByTwos_5 (by decide) ?_
  refine lv_icmp_ge (tgt := 59) hx hb dX3_leastByTwos_7 (by decide) (fun c43 => ?_) (fun c43 => absurd c43 (by decide))
  refine lv_aload_n hx hb dX3_leastByTwos_59 rfl (lv_at hl 2 rfl) ?_
  refine lv_iload_n hx hb dX3_leastByTwos_60 rfl (lv_at hl 3 rfl) ?_
  refine mx_v (wr := [(op, .inl (cI, 6, .inl (upd (upd (upd (upd (upd (upd (fun _ => 0) 5 0) 4 0) 3 0) 2 0) 1 0) 0 0))), (kq, .inl (cI, 6, .inl (fun _ => 0))), (km, .inl (cI, 6, .inl (fun _ => 0)))]) (va_runV (As := [.int i0]) (rest := []) ⟨hx, hb, hml, hown, hts⟩ (c_X3_countSlots0 l dC dI cI cZ cK tS aK aV o k ks kw kc kq km kd ka kk op oq ov os i0 H.size (by first | omega | decide | assumption | trivial)) (cwV 1 hts (gw_v (fun _ h9 => List.mem_cons_of_mem _ h9) wm_195 wm_196 wm_197 wm_146 wm_198) rfl rfl rfl (by decide +kernel) ⟨Nat.le_of_ble_eq_true rfl, Nat.le_of_ble_eq_true rfl⟩) (mx_preV (C := RX3) (T := TX3) (N := 6) (ci := 3) hKx hP hD hS hA [0, 2, 5, 3, 4] (by decide) rfl rfl rfl) rfl rfl hl.1 rfl (lv_room (Nat.le_of_ble_eq_true rfl)) dX3_leastByTwos_61 ⟨Nat.le_of_ble_eq_true rfl, Nat.le_of_ble_eq_true rfl⟩) hP hD hS hA [0, 2, 5, 3, 4] [1, 6, 7] rfl rfl (by decide) (by decide) (fun u44 H locs hq44 hP hD hS => ?_)
  replace hP : va_P (dC, dI) vwCl [(op, .inl (cI, 6, .inl (upd (upd (upd (upd (upd (upd (fun _ => 0) 5 0) 4 0) 3 0) 2 0) 1 0) 0 0))), (kq, .inl (cI, 6, .inl (fun _ => 0))), (km, .inl (cI, 6, .inl (fun _ => 0))), (o, .inr (3, [.ref k, .ref op, .int 0, .ref oq, .ref ov, .ref os])), (os, .inl (cI, 5, .inl u44)), (k, .inr (0, [.ref ks, .ref kw, .ref kc, .int (-6), .int 0, .int 0, .ref kq, .ref km, .ref kd, .int 0, .ref ka, .ref kk])), (ks, .inl (cI, 5, .inl (upd (fun _ => 0) 0 800))), (kw, .inl (cI, 14, .inl (fun _ => 0)))] H := hP
  replace hD : va_D A [(op, .inl (cI, 6, .inl (upd (upd (upd (upd (upd (upd (fun _ => 0) 5 0) 4 0) 3 0) 2 0) 1 0) 0 0))), (kq, .inl (cI, 6, .inl (fun _ => 0))), (km, .inl (cI, 6, .inl (fun _ => 0))), (o, .inr (3, [.ref k, .ref op, .int 0, .ref oq, .ref ov, .ref os])), (os, .inl (cI, 5, .inl u44)), (k, .inr (0, [.ref ks, .ref kw, .ref kc, .int (-6), .int 0, .int 0, .ref kq, .ref km, .ref kd, .int 0, .ref ka, .ref kk])), (ks, .inl (cI, 5, .inl (upd (fun _ => 0) 0 800))), (kw, .inl (cI, 14, .inl (fun _ => 0)))] := hD
  have hf44 : 0 ≤ (u44 0).toInt ∧ (u44 0).toInt ≤ 28 ∧ 0 ≤ (u44 1).toInt ∧ (u44 1).toInt ≤ 28 ∧ 0 ≤ (u44 2).toInt ∧ (u44 2).toInt ≤ 28 ∧ 0 ≤ (u44 3).toInt ∧ (u44 3).toInt ≤ 28 ∧ 0 ≤ (u44 4).toInt ∧ (u44 4).toInt ≤ 28 := hq44
  refine lv_iconst (v := 4) hx hb dX3_leastByTwos_64 (by decide) ?_
  refine lv_istore_n (lv' := [(3, .int 4), (2, .int 0), (0, .ref o), (1, .int i0)]) hx hb dX3_leastByTwos_65 rfl hl (by decide) rfl (fun ls hl => ?_)
  refine lv_iload_n hx hb dX3_leastByTwos_66 rfl (lv_at hl 0 rfl) ?_
  refine lv_iconst (v := 1) hx hb dX3_leastByTwos_67 (by decide) ?_
  refine lv_icmp_lt (tgt := 153) hx hb dX3_leastByTwos_68 (by decide) (fun c45 => absurd c45 (by decide)) (fun c45 => ?_)
  refine lv_aload_n hx hb dX3_leastByTwos_71 rfl (lv_at hl 2 rfl) ?_
  refine lv_iload_n hx hb dX3_leastByTwos_72 rfl (lv_at hl 0 rfl) ?_
  refine mx_i (wr := [(km, .inl (cI, 6, .inl (fun _ => 0))), (os, .inl (cI, 5, .inl u44)), (ks, .inl (cI, 5, .inl (upd (fun _ => 0) 0 800))), (kw, .inl (cI, 14, .inl (fun _ => 0)))]) (va_runV (As := [.int 4]) (rest := []) ⟨hx, hb, hml, hown, hts⟩ (c_X3_portionsOf_4 l dC dI cI cZ cK tS aK aV o k ks kw kc kq km kd ka kk op oq ov os H.size) (cwV 1 hts (gw_v (fun _ h9 => List.mem_cons_of_mem _ h9) wm_199 wm_200 wm_201 wm_146 wm_202) rfl rfl rfl (by decide +kernel) ⟨Nat.le_of_ble_eq_true rfl, Nat.le_of_ble_eq_true rfl⟩) (mx_preV (C := RX3) (T := TX3) (N := 6) (ci := 3) hKx hP hD hS hA [3, 0, 5, 1] (by decide) rfl rfl rfl) rfl rfl hl.1 rfl (lv_room (Nat.le_of_ble_eq_true rfl)) dX3_leastByTwos_73 ⟨Nat.le_of_ble_eq_true rfl, Nat.le_of_ble_eq_true rfl⟩) hP hD hS hA [3, 0, 5, 1] [2, 4, 6, 7] rfl rfl (by decide) (by decide) (fun r46 u46 H locs hq46 hP hD hS => ?_)
  replace hP : va_P (dC, dI) vwCl [(km, .inl (cI, 6, .inl (fun _ => 0))), (os, .inl (cI, 5, .inl u44)), (ks, .inl (cI, 5, .inl (upd (fun _ => 0) 0 800))), (kw, .inl (cI, 14, .inl (fun _ => 0))), (o, .inr (3, [.ref k, .ref op, .int 0, .ref oq, .ref ov, .ref os])), (op, .inl (cI, 6, .inl (upd (upd (upd (upd (upd (upd (fun _ => 0) 5 0) 4 0) 3 0) 2 0) 1 0) 0 0))), (k, .inr (0, [.ref ks, .ref kw, .ref kc, .int (-6), .int 0, .int 0, .ref kq, .ref km, .ref kd, .int 0, .ref ka, .ref kk])), (kq, .inl (cI, 6, .inl (fun _ => 0)))] H := hP
  replace hD : va_D A [(km, .inl (cI, 6, .inl (fun _ => 0))), (os, .inl (cI, 5, .inl u44)), (ks, .inl (cI, 5, .inl (upd (fun _ => 0) 0 800))), (kw, .inl (cI, 14, .inl (fun _ => 0))), (o, .inr (3, [.ref k, .ref op, .int 0, .ref oq, .ref ov, .ref os])), (op, .inl (cI, 6, .inl (upd (upd (upd (upd (upd (upd (fun _ => 0) 5 0) 4 0) 3 0) 2 0) 1 0) 0 0))), (k, .inr (0, [.ref ks, .ref kw, .ref kc, .int (-6), .int 0, .int 0, .ref kq, .ref km, .ref kd, .int 0, .ref ka, .ref kk])), (kq, .inl (cI, 6, .inl (fun _ => 0)))] := hD
  obtain rfl : r46 = 0 := hq46
  refine lv_istore (lv' := [(4, .int 0), (3, .int 4), (2, .int 0), (0, .ref o), (1, .int i0)]) hx hb dX3_leastByTwos_76 hl (by decide) rfl (fun ls hl => ?_)
  refine lv_iconst (v := 0) hx hb dX3_leastByTwos_78 (by decide) ?_
  refine lv_istore (lv' := [(5, .int 0), (4, .int 0), (3, .int 4), (2, .int 0), (0, .ref o), (1, .int i0)]) hx hb dX3_leastByTwos_79 hl (by decide) rfl (fun ls hl => ?_)
  refine lv_iload hx hb dX3_leastByTwos_81 (lv_at hl 0 rfl) ?_
  refine lv_iconst (v := 4) hx hb dX3_leastByTwos_83 (by decide) ?_
  refine lv_icmp_gt (tgt := 139) hx hb dX3_leastByTwos_84 (by decide) (fun c47 => absurd c47 (by decide)) (fun c47 => ?_)
  refine lv_iload hx hb dX3_leastByTwos_87 (lv_at hl 1 rfl) ?_
  refine lv_aload_n hx hb dX3_leastByTwos_89 rfl (lv_at hl 4 rfl) ?_
  refine va_get (D := (dC, dI)) (ci := 3) (v := .ref os) (C := RX3) (T := TX3) (N := 6) hx hb hts hin3 hown hK hP 4 rfl rfl 5 (by decide) hw2 (fun _ h9 => h9) rfl dX3_leastByTwos_90 ?_
  refine lv_iload hx hb dX3_leastByTwos_93 (lv_at hl 0 rfl) ?_
  refine va_iald hx hb hK hP 1 0 rfl rfl (vin (by decide) (by decide)) dX3_leastByTwos_95 ?_
  refine lv_topi (fun y48 e48 => ?_)
  obtain rfl : y48 = u44 0 := e48
  refine va_mmin hx hb (hml.trans hl.1.symm) hown hw3 hw4 hw5 hw6 (Nat.le_of_ble_eq_true rfl) (Nat.le_of_ble_eq_true rfl) (Nat.le_of_ble_eq_true rfl) (Nat.le_of_ble_eq_true rfl) dX3_leastByTwos_96 ?_
  refine lv_topi (fun x49 e49 => ?_)
  obtain rfl : x49 = 0 := e49.trans (mmin1 (by have z8 : (0 : Int32).toInt = 0 := rfl; omega))
  refine lv_istore (lv' := [(6, .int 0), (5, .int 0), (4, .int 0), (3, .int 4), (2, .int 0), (0, .ref o), (1, .int i0)]) hx hb dX3_leastByTwos_99 hl (by decide) rfl (fun ls hl => ?_)
  refine lv_aload_n hx hb dX3_leastByTwos_101 rfl (lv_at hl 5 rfl) ?_
  refine va_get (D := (dC, dI)) (ci := 3) (v := .ref os) (C := RX3) (T := TX3) (N := 6) hx hb hts hin3 hown hK hP 4 rfl rfl 5 (by decide) hw2 (fun _ h9 => h9) rfl dX3_leastByTwos_102 ?_
  refine lv_iload hx hb dX3_leastByTwos_105 (lv_at hl 1 rfl) ?_
  refine lv_dup2_11 hx hb dX3_leastByTwos_107 rfl rfl ?_
  refine va_iald hx hb hK hP 1 0 rfl rfl (vin (by decide) (by decide)) dX3_leastByTwos_108 ?_
  refine lv_topi (fun y50 e50 => ?_)
  obtain rfl : y50 = u44 0 := e50
  refine lv_iload hx hb dX3_leastByTwos_109 (lv_at hl 0 rfl) ?_
  refine lv_isub hx hb dX3_leastByTwos_111 ?_
  refine lv_topi (fun y51 e51 => ?_)
  obtain rfl : y51 = u44 0 := e51.trans (by simp)
  refine va_iast hx hb hK hP hD hS 1 0 rfl rfl (vin (by decide) (by decide)) dX3_leastByTwos_112 (fun H locs hP hD hS => ?_)
  replace hP : va_P (dC, dI) vwCl [(km, .inl (cI, 6, .inl (fun _ => 0))), (os, .inl (cI, 5, .inl (upd u44 0 (u44 0)))), (ks, .inl (cI, 5, .inl (upd (fun _ => 0) 0 800))), (kw, .inl (cI, 14, .inl (fun _ => 0))), (o, .inr (3, [.ref k, .ref op, .int 0, .ref oq, .ref ov, .ref os])), (op, .inl (cI, 6, .inl (upd (upd (upd (upd (upd (upd (fun _ => 0) 5 0) 4 0) 3 0) 2 0) 1 0) 0 0))), (k, .inr (0, [.ref ks, .ref kw, .ref kc, .int (-6), .int 0, .int 0, .ref kq, .ref km, .ref kd, .int 0, .ref ka, .ref kk])), (kq, .inl (cI, 6, .inl (fun _ => 0)))] H := hP
  replace hD : va_D A [(km, .inl (cI, 6, .inl (fun _ => 0))), (os, .inl (cI, 5, .inl (upd u44 0 (u44 0)))), (ks, .inl (cI, 5, .inl (upd (fun _ => 0) 0 800))), (kw, .inl (cI, 14, .inl (fun _ => 0))), (o, .inr (3, [.ref k, .ref op, .int 0, .ref oq, .ref ov, .ref os])), (op, .inl (cI, 6, .inl (upd (upd (upd (upd (upd (upd (fun _ => 0) 5 0) 4 0) 3 0) 2 0) 1 0) 0 0))), (k, .inr (0, [.ref ks, .ref kw, .ref kc, .int (-6), .int 0, .int 0, .ref kq, .ref km, .ref kd, .int 0, .ref ka, .ref kk])), (kq, .inl (cI, 6, .inl (fun _ => 0)))] := hD
  refine lv_iload hx hb dX3_leastByTwos_113 (lv_at hl 2 rfl) ?_
  refine lv_iload hx hb dX3_leastByTwos_115 (lv_at hl 0 rfl) ?_
  refine lv_isub hx hb dX3_leastByTwos_117 ?_
  refine lv_topi (fun x52 e52 => ?_)
  obtain rfl : x52 = 0 := e52.trans (by decide)
  refine lv_istore (lv' := [(4, .int 0), (6, .int 0), (5, .int 0), (3, .int 4), (2, .int 0), (0, .ref o), (1, .int i0)]) hx hb dX3_leastByTwos_118 hl (by decide) rfl (fun ls hl => ?_)
  refine lv_iload_n hx hb dX3_leastByTwos_120 rfl (lv_at hl 4 rfl) ?_
  refine lv_iload hx hb dX3_leastByTwos_121 (lv_at hl 1 rfl) ?_
  refine lv_bipush (v := 11) hx hb dX3_leastByTwos_123 (by decide) ?_
  refine lv_imul hx hb dX3_leastByTwos_125 ?_
  refine lv_topi (fun x53 e53 => ?_)
  obtain rfl : x53 = 0 := e53.trans (by decide)
  refine lv_iload_n hx hb dX3_leastByTwos_126 rfl (lv_at hl 3 rfl) ?_
  refine lv_imul hx hb dX3_leastByTwos_127 ?_
  refine lv_topi (fun x54 e54 => ?_)
  obtain rfl : x54 = 0 := e54.trans (by decide)
  refine lv_iload hx hb dX3_leastByTwos_128 (lv_at hl 2 rfl) ?_
  refine lv_imul hx hb dX3_leastByTwos_130 ?_
  refine lv_topi (fun x55 e55 => ?_)
  obtain rfl : x55 = 0 := e55.trans (by decide)
  refine lv_iadd hx hb dX3_leastByTwos_131 ?_
  refine lv_topi (fun x56 e56 => ?_)
  obtain rfl : x56 = 0 := e56.trans (by decide)
  refine lv_istore_n (lv' := [(2, .int 0), (4, .int 0), (6, .int 0), (5, .int 0), (3, .int 4), (0, .ref o), (1, .int i0)]) hx hb dX3_leastByTwos_132 rfl hl (by decide) rfl (fun ls hl => ?_)
  refine lv_iinc (v := 1) (lv' := [(5, .int 1), (2, .int 0), (4, .int 0), (6, .int 0), (3, .int 4), (0, .ref o), (1, .int i0)]) hx hb dX3_leastByTwos_133 hl (k := 3) rfl (by decide) (by decide) rfl (fun ls hl => ?_)
  refine lv_goto (tgt := 81) hx hb dX3_leastByTwos_136 (by decide) ?_
  refine lv_iload hx hb dX3_leastByTwos_81 (lv_at hl 0 rfl) ?_
  refine lv_iconst (v := 4) hx hb dX3_leastByTwos_83 (by decide) ?_
  refine lv_icmp_gt (tgt := 139) hx hb dX3_leastByTwos_84 (by decide) (fun c57 => absurd c57 (by decide)) (fun c57 => ?_)
  refine lv_iload hx hb dX3_leastByTwos_87 (lv_at hl 2 rfl) ?_
  refine lv_aload_n hx hb dX3_leastByTwos_89 rfl (lv_at hl 5 rfl) ?_
  refine va_get (D := (dC, dI)) (ci := 3) (v := .ref os) (C := RX3) (T := TX3) (N := 6) hx hb hts hin3 hown hK hP 4 rfl rfl 5 (by decide) hw2 (fun _ h9 => h9) rfl dX3_leastByTwos_90 ?_
  refine lv_iload hx hb dX3_leastByTwos_93 (lv_at hl 0 rfl) ?_
  refine va_iald hx hb hK hP 1 0 rfl rfl (vin (by decide) (by decide)) dX3_leastByTwos_95 ?_
  refine lv_topi (fun y58 e58 => ?_)
  obtain rfl : y58 = u44 1 := e58
  refine va_mmin hx hb (hml.trans hl.1.symm) hown hw3 hw4 hw5 hw6 (Nat.le_of_ble_eq_true rfl) (Nat.le_of_ble_eq_true rfl) (Nat.le_of_ble_eq_true rfl) (Nat.le_of_ble_eq_true rfl) dX3_leastByTwos_96 ?_
  refine lv_topi (fun x59 e59 => ?_)
  obtain rfl : x59 = 0 := e59.trans (mmin1 (by have z8 : (0 : Int32).toInt = 0 := rfl; omega))
  refine lv_istore (lv' := [(6, .int 0), (5, .int 1), (2, .int 0), (4, .int 0), (3, .int 4), (0, .ref o), (1, .int i0)]) hx hb dX3_leastByTwos_99 hl (by decide) rfl (fun ls hl => ?_)
  refine lv_aload_n hx hb dX3_leastByTwos_101 rfl (lv_at hl 5 rfl) ?_
  refine va_get (D := (dC, dI)) (ci := 3) (v := .ref os) (C := RX3) (T := TX3) (N := 6) hx hb hts hin3 hown hK hP 4 rfl rfl 5 (by decide) hw2 (fun _ h9 => h9) rfl dX3_leastByTwos_102 ?_
  refine lv_iload hx hb dX3_leastByTwos_105 (lv_at hl 1 rfl) ?_
  refine lv_dup2_11 hx hb dX3_leastByTwos_107 rfl rfl ?_
  refine va_iald hx hb hK hP 1 0 rfl rfl (vin (by decide) (by decide)) dX3_leastByTwos_108 ?_
  refine lv_topi (fun y60 e60 => ?_)
  obtain rfl : y60 = u44 1 := e60
  refine lv_iload hx hb dX3_leastByTwos_109 (lv_at hl 0 rfl) ?_
  refine lv_isub hx hb dX3_leastByTwos_111 ?_
  refine lv_topi (fun y61 e61 => ?_)
  obtain rfl : y61 = u44 1 := e61.trans (by simp)
  refine va_iast hx hb hK hP hD hS 1 0 rfl rfl (vin (by decide) (by decide)) dX3_leastByTwos_112 (fun H locs hP hD hS => ?_)
  replace hP : va_P (dC, dI) vwCl [(km, .inl (cI, 6, .inl (fun _ => 0))), (os, .inl (cI, 5, .inl (upd (upd u44 0 (u44 0)) 1 (u44 1)))), (ks, .inl (cI, 5, .inl (upd (fun _ => 0) 0 800))), (kw, .inl (cI, 14, .inl (fun _ => 0))), (o, .inr (3, [.ref k, .ref op, .int 0, .ref oq, .ref ov, .ref os])), (op, .inl (cI, 6, .inl (upd (upd (upd (upd (upd (upd (fun _ => 0) 5 0) 4 0) 3 0) 2 0) 1 0) 0 0))), (k, .inr (0, [.ref ks, .ref kw, .ref kc, .int (-6), .int 0, .int 0, .ref kq, .ref km, .ref kd, .int 0, .ref ka, .ref kk])), (kq, .inl (cI, 6, .inl (fun _ => 0)))] H := hP
  replace hD : va_D A [(km, .inl (cI, 6, .inl (fun _ => 0))), (os, .inl (cI, 5, .inl (upd (upd u44 0 (u44 0)) 1 (u44 1)))), (ks, .inl (cI, 5, .inl (upd (fun _ => 0) 0 800))), (kw, .inl (cI, 14, .inl (fun _ => 0))), (o, .inr (3, [.ref k, .ref op, .int 0, .ref oq, .ref ov, .ref os])), (op, .inl (cI, 6, .inl (upd (upd (upd (upd (upd (upd (fun _ => 0) 5 0) 4 0) 3 0) 2 0) 1 0) 0 0))), (k, .inr (0, [.ref ks, .ref kw, .ref kc, .int (-6), .int 0, .int 0, .ref kq, .ref km, .ref kd, .int 0, .ref ka, .ref kk])), (kq, .inl (cI, 6, .inl (fun _ => 0)))] := hD
  refine lv_iload hx hb dX3_leastByTwos_113 (lv_at hl 3 rfl) ?_
  refine lv_iload hx hb dX3_leastByTwos_115 (lv_at hl 0 rfl) ?_
  refine lv_isub hx hb dX3_leastByTwos_117 ?_
  refine lv_topi (fun x62 e62 => ?_)
  obtain rfl : x62 = 0 := e62.trans (by decide)
  refine lv_istore (lv' := [(4, .int 0), (6, .int 0), (5, .int 1), (2, .int 0), (3, .int 4), (0, .ref o), (1, .int i0)]) hx hb dX3_leastByTwos_118 hl (by decide) rfl (fun ls hl => ?_)
  refine lv_iload_n hx hb dX3_leastByTwos_120 rfl (lv_at hl 3 rfl) ?_
  refine lv_iload hx hb dX3_leastByTwos_121 (lv_at hl 1 rfl) ?_
  refine lv_bipush (v := 11) hx hb dX3_leastByTwos_123 (by decide) ?_
  refine lv_imul hx hb dX3_leastByTwos_125 ?_
  refine lv_topi (fun x63 e63 => ?_)
  obtain rfl : x63 = 0 := e63.trans (by decide)
  refine lv_iload_n hx hb dX3_leastByTwos_126 rfl (lv_at hl 4 rfl) ?_
  refine lv_imul hx hb dX3_leastByTwos_127 ?_
  refine lv_topi (fun x64 e64 => ?_)
  obtain rfl : x64 = 0 := e64.trans (by decide)
  refine lv_iload hx hb dX3_leastByTwos_128 (lv_at hl 2 rfl) ?_
  refine lv_imul hx hb dX3_leastByTwos_130 ?_
  refine lv_topi (fun x65 e65 => ?_)
  obtain rfl : x65 = 0 := e65.trans (by decide)
  refine lv_iadd hx hb dX3_leastByTwos_131 ?_
  refine lv_topi (fun x66 e66 => ?_)
  obtain rfl : x66 = 0 := e66.trans (by decide)
  refine lv_istore_n (lv' := [(2, .int 0), (4, .int 0), (6, .int 0), (5, .int 1), (3, .int 4), (0, .ref o), (1, .int i0)]) hx hb dX3_leastByTwos_132 rfl hl (by decide) rfl (fun ls hl => ?_)
  refine lv_iinc (v := 2) (lv' := [(5, .int 2), (2, .int 0), (4, .int 0), (6, .int 0), (3, .int 4), (0, .ref o), (1, .int i0)]) hx hb dX3_leastByTwos_133 hl (k := 3) rfl (by decide) (by decide) rfl (fun ls hl => ?_)
  refine lv_goto (tgt := 81) hx hb dX3_leastByTwos_136 (by decide) ?_
  refine lv_iload hx hb dX3_leastByTwos_81 (lv_at hl 0 rfl) ?_
  refine lv_iconst (v := 4) hx hb dX3_leastByTwos_83 (by decide) ?_
  refine lv_icmp_gt (tgt := 139) hx hb dX3_leastByTwos_84 (by decide) (fun c67 => absurd c67 (by decide)) (fun c67 => ?_)
  refine lv_iload hx hb dX3_leastByTwos_87 (lv_at hl 2 rfl) ?_
  refine lv_aload_n hx hb dX3_leastByTwos_89 rfl (lv_at hl 5 rfl) ?_
  refine va_get (D := (dC, dI)) (ci := 3) (v := .ref os) (C := RX3) (T := TX3) (N := 6) hx hb hts hin3 hown hK hP 4 rfl rfl 5 (by decide) hw2 (fun _ h9 => h9) rfl dX3_leastByTwos_90 ?_
  refine lv_iload hx hb dX3_leastByTwos_93 (lv_at hl 0 rfl) ?_
  refine va_iald hx hb hK hP 1 0 rfl rfl (vin (by decide) (by decide)) dX3_leastByTwos_95 ?_
  refine lv_topi (fun y68 e68 => ?_)
  obtain rfl : y68 = u44 2 := e68
  refine va_mmin hx hb (hml.trans hl.1.symm) hown hw3 hw4 hw5 hw6 (Nat.le_of_ble_eq_true rfl) (Nat.le_of_ble_eq_true rfl) (Nat.le_of_ble_eq_true rfl) (Nat.le_of_ble_eq_true rfl) dX3_leastByTwos_96 ?_
  refine lv_topi (fun x69 e69 => ?_)
  obtain rfl : x69 = 0 := e69.trans (mmin1 (by have z8 : (0 : Int32).toInt = 0 := rfl; omega))
  refine lv_istore (lv' := [(6, .int 0), (5, .int 2), (2, .int 0), (4, .int 0), (3, .int 4), (0, .ref o), (1, .int i0)]) hx hb dX3_leastByTwos_99 hl (by decide) rfl (fun ls hl => ?_)
  refine lv_aload_n hx hb dX3_leastByTwos_101 rfl (lv_at hl 5 rfl) ?_
  refine va_get (D := (dC, dI)) (ci := 3) (v := .ref os) (C := RX3) (T := TX3) (N := 6) hx hb hts hin3 hown hK hP 4 rfl rfl 5 (by decide) hw2 (fun _ h9 => h9) rfl dX3_leastByTwos_102 ?_
  refine lv_iload hx hb dX3_leastByTwos_105 (lv_at hl 1 rfl) ?_
  refine lv_dup2_11 hx hb dX3_leastByTwos_107 rfl rfl ?_
  refine va_iald hx hb hK hP 1 0 rfl rfl (vin (by decide) (by decide)) dX3_leastByTwos_108 ?_
  refine lv_topi (fun y70 e70 => ?_)
  obtain rfl : y70 = u44 2 := e70
  refine lv_iload hx hb dX3_leastByTwos_109 (lv_at hl 0 rfl) ?_
  refine lv_isub hx hb dX3_leastByTwos_111 ?_
  refine lv_topi (fun y71 e71 => ?_)
  obtain rfl : y71 = u44 2 := e71.trans (by simp)
  refine va_iast hx hb hK hP hD hS 1 0 rfl rfl (vin (by decide) (by decide)) dX3_leastByTwos_112 (fun H locs hP hD hS => ?_)
  replace hP : va_P (dC, dI) vwCl [(km, .inl (cI, 6, .inl (fun _ => 0))), (os, .inl (cI, 5, .inl (upd (upd (upd u44 0 (u44 0)) 1 (u44 1)) 2 (u44 2)))), (ks, .inl (cI, 5, .inl (upd (fun _ => 0) 0 800))), (kw, .inl (cI, 14, .inl (fun _ => 0))), (o, .inr (3, [.ref k, .ref op, .int 0, .ref oq, .ref ov, .ref os])), (op, .inl (cI, 6, .inl (upd (upd (upd (upd (upd (upd (fun _ => 0) 5 0) 4 0) 3 0) 2 0) 1 0) 0 0))), (k, .inr (0, [.ref ks, .ref kw, .ref kc, .int (-6), .int 0, .int 0, .ref kq, .ref km, .ref kd, .int 0, .ref ka, .ref kk])), (kq, .inl (cI, 6, .inl (fun _ => 0)))] H := hP
  replace hD : va_D A [(km, .inl (cI, 6, .inl (fun _ => 0))), (os, .inl (cI, 5, .inl (upd (upd (upd u44 0 (u44 0)) 1 (u44 1)) 2 (u44 2)))), (ks, .inl (cI, 5, .inl (upd (fun _ => 0) 0 800))), (kw, .inl (cI, 14, .inl (fun _ => 0))), (o, .inr (3, [.ref k, .ref op, .int 0, .ref oq, .ref ov, .ref os])), (op, .inl (cI, 6, .inl (upd (upd (upd (upd (upd (upd (fun _ => 0) 5 0) 4 0) 3 0) 2 0) 1 0) 0 0))), (k, .inr (0, [.ref ks, .ref kw, .ref kc, .int (-6), .int 0, .int 0, .ref kq, .ref km, .ref kd, .int 0, .ref ka, .ref kk])), (kq, .inl (cI, 6, .inl (fun _ => 0)))] := hD
  refine lv_iload hx hb dX3_leastByTwos_113 (lv_at hl 3 rfl) ?_
  refine lv_iload hx hb dX3_leastByTwos_115 (lv_at hl 0 rfl) ?_
  refine lv_isub hx hb dX3_leastByTwos_117 ?_
  refine lv_topi (fun x72 e72 => ?_)
  obtain rfl : x72 = 0 := e72.trans (by decide)
  refine lv_istore (lv' := [(4, .int 0), (6, .int 0), (5, .int 2), (2, .int 0), (3, .int 4), (0, .ref o), (1, .int i0)]) hx hb dX3_leastByTwos_118 hl (by decide) rfl (fun ls hl => ?_)
  refine lv_iload_n hx hb dX3_leastByTwos_120 rfl (lv_at hl 3 rfl) ?_
  refine lv_iload hx hb dX3_leastByTwos_121 (lv_at hl 1 rfl) ?_
  refine lv_bipush (v := 11) hx hb dX3_leastByTwos_123 (by decide) ?_
  refine lv_imul hx hb dX3_leastByTwos_125 ?_
  refine lv_topi (fun x73 e73 => ?_)
  obtain rfl : x73 = 0 := e73.trans (by decide)
  refine lv_iload_n hx hb dX3_leastByTwos_126 rfl (lv_at hl 4 rfl) ?_
  refine lv_imul hx hb dX3_leastByTwos_127 ?_
  refine lv_topi (fun x74 e74 => ?_)
  obtain rfl : x74 = 0 := e74.trans (by decide)
  refine lv_iload hx hb dX3_leastByTwos_128 (lv_at hl 2 rfl) ?_
  refine lv_imul hx hb dX3_leastByTwos_130 ?_
  refine lv_topi (fun x75 e75 => ?_)
  obtain rfl : x75 = 0 := e75.trans (by decide)
  refine lv_iadd hx hb dX3_leastByTwos_131 ?_
  refine lv_topi (fun x76 e76 => ?_)
  obtain rfl : x76 = 0 := e76.trans (by decide)
  refine lv_istore_n (lv' := [(2, .int 0), (4, .int 0), (6, .int 0), (5, .int 2), (3, .int 4), (0, .ref o), (1, .int i0)]) hx hb dX3_leastByTwos_132 rfl hl (by decide) rfl (fun ls hl => ?_)
  refine lv_iinc (v := 3) (lv' := [(5, .int 3), (2, .int 0), (4, .int 0), (6, .int 0), (3, .int 4), (0, .ref o), (1, .int i0)]) hx hb dX3_leastByTwos_133 hl (k := 3) rfl (by decide) (by decide) rfl (fun ls hl => ?_)
  refine lv_goto (tgt := 81) hx hb dX3_leastByTwos_136 (by decide) ?_
  refine lv_iload hx hb dX3_leastByTwos_81 (lv_at hl 0 rfl) ?_
  refine lv_iconst (v := 4) hx hb dX3_leastByTwos_83 (by decide) ?_
  refine lv_icmp_gt (tgt := 139) hx hb dX3_leastByTwos_84 (by decide) (fun c77 => absurd c77 (by decide)) (fun c77 => ?_)
  refine lv_iload hx hb dX3_leastByTwos_87 (lv_at hl 2 rfl) ?_
  refine lv_aload_n hx hb dX3_leastByTwos_89 rfl (lv_at hl 5 rfl) ?_
  refine va_get (D := (dC, dI)) (ci := 3) (v := .ref os) (C := RX3) (T := TX3) (N := 6) hx hb hts hin3 hown hK hP 4 rfl rfl 5 (by decide) hw2 (fun _ h9 => h9) rfl dX3_leastByTwos_90 ?_
  refine lv_iload hx hb dX3_leastByTwos_93 (lv_at hl 0 rfl) ?_
  refine va_iald hx hb hK hP 1 0 rfl rfl (vin (by decide) (by decide)) dX3_leastByTwos_95 ?_
  refine lv_topi (fun y78 e78 => ?_)
  obtain rfl : y78 = u44 3 := e78
  refine va_mmin hx hb (hml.trans hl.1.symm) hown hw3 hw4 hw5 hw6 (Nat.le_of_ble_eq_true rfl) (Nat.le_of_ble_eq_true rfl) (Nat.le_of_ble_eq_true rfl) (Nat.le_of_ble_eq_true rfl) dX3_leastByTwos_96 ?_
  refine lv_topi (fun x79 e79 => ?_)
  obtain rfl : x79 = 0 := e79.trans (mmin1 (by have z8 : (0 : Int32).toInt = 0 := rfl; omega))
  refine lv_istore (lv' := [(6, .int 0), (5, .int 3), (2, .int 0), (4, .int 0), (3, .int 4), (0, .ref o), (1, .int i0)]) hx hb dX3_leastByTwos_99 hl (by decide) rfl (fun ls hl => ?_)
  refine lv_aload_n hx hb dX3_leastByTwos_101 rfl (lv_at hl 5 rfl) ?_
  refine va_get (D := (dC, dI)) (ci := 3) (v := .ref os) (C := RX3) (T := TX3) (N := 6) hx hb hts hin3 hown hK hP 4 rfl rfl 5 (by decide) hw2 (fun _ h9 => h9) rfl dX3_leastByTwos_102 ?_
  refine lv_iload hx hb dX3_leastByTwos_105 (lv_at hl 1 rfl) ?_
  refine lv_dup2_11 hx hb dX3_leastByTwos_107 rfl rfl ?_
  refine va_iald hx hb hK hP 1 0 rfl rfl (vin (by decide) (by decide)) dX3_leastByTwos_108 ?_
  refine lv_topi (fun y80 e80 => ?_)
  obtain rfl : y80 = u44 3 := e80
  refine lv_iload hx hb dX3_leastByTwos_109 (lv_at hl 0 rfl) ?_
  refine lv_isub hx hb dX3_leastByTwos_111 ?_
  refine lv_topi (fun y81 e81 => ?_)
  obtain rfl : y81 = u44 3 := e81.trans (by simp)
  refine va_iast hx hb hK hP hD hS 1 0 rfl rfl (vin (by decide) (by decide)) dX3_leastByTwos_112 (fun H locs hP hD hS => ?_)
  replace hP : va_P (dC, dI) vwCl [(km, .inl (cI, 6, .inl (fun _ => 0))), (os, .inl (cI, 5, .inl (upd (upd (upd (upd u44 0 (u44 0)) 1 (u44 1)) 2 (u44 2)) 3 (u44 3)))), (ks, .inl (cI, 5, .inl (upd (fun _ => 0) 0 800))), (kw, .inl (cI, 14, .inl (fun _ => 0))), (o, .inr (3, [.ref k, .ref op, .int 0, .ref oq, .ref ov, .ref os])), (op, .inl (cI, 6, .inl (upd (upd (upd (upd (upd (upd (fun _ => 0) 5 0) 4 0) 3 0) 2 0) 1 0) 0 0))), (k, .inr (0, [.ref ks, .ref kw, .ref kc, .int (-6), .int 0, .int 0, .ref kq, .ref km, .ref kd, .int 0, .ref ka, .ref kk])), (kq, .inl (cI, 6, .inl (fun _ => 0)))] H := hP
  replace hD : va_D A [(km, .inl (cI, 6, .inl (fun _ => 0))), (os, .inl (cI, 5, .inl (upd (upd (upd (upd u44 0 (u44 0)) 1 (u44 1)) 2 (u44 2)) 3 (u44 3)))), (ks, .inl (cI, 5, .inl (upd (fun _ => 0) 0 800))), (kw, .inl (cI, 14, .inl (fun _ => 0))), (o, .inr (3, [.ref k, .ref op, .int 0, .ref oq, .ref ov, .ref os])), (op, .inl (cI, 6, .inl (upd (upd (upd (upd (upd (upd (fun _ => 0) 5 0) 4 0) 3 0) 2 0) 1 0) 0 0))), (k, .inr (0, [.ref ks, .ref kw, .ref kc, .int (-6), .int 0, .int 0, .ref kq, .ref km, .ref kd, .int 0, .ref ka, .ref kk])), (kq, .inl (cI, 6, .inl (fun _ => 0)))] := hD
  refine lv_iload hx hb dX3_leastByTwos_113 (lv_at hl 3 rfl) ?_
  refine lv_iload hx hb dX3_leastByTwos_115 (lv_at hl 0 rfl) ?_
  refine lv_isub hx hb dX3_leastByTwos_117 ?_
  refine lv_topi (fun x82 e82 => ?_)
  obtain rfl : x82 = 0 := e82.trans (by decide)
  refine lv_istore (lv' := [(4, .int 0), (6, .int 0), (5, .int 3), (2, .int 0), (3, .int 4), (0, .ref o), (1, .int i0)]) hx hb dX3_leastByTwos_118 hl (by decide) rfl (fun ls hl => ?_)
  refine lv_iload_n hx hb dX3_leastByTwos_120 rfl (lv_at hl 3 rfl) ?_
  refine lv_iload hx hb dX3_leastByTwos_121 (lv_at hl 1 rfl) ?_
  refine lv_bipush (v := 11) hx hb dX3_leastByTwos_123 (by decide) ?_
  refine lv_imul hx hb dX3_leastByTwos_125 ?_
  refine lv_topi (fun x83 e83 => ?_)
  obtain rfl : x83 = 0 := e83.trans (by decide)
  refine lv_iload_n hx hb dX3_leastByTwos_126 rfl (lv_at hl 4 rfl) ?_
  refine lv_imul hx hb dX3_leastByTwos_127 ?_
  refine lv_topi (fun x84 e84 => ?_)
  obtain rfl : x84 = 0 := e84.trans (by decide)
  refine lv_iload hx hb dX3_leastByTwos_128 (lv_at hl 2 rfl) ?_
  refine lv_imul hx hb dX3_leastByTwos_130 ?_
  refine lv_topi (fun x85 e85 => ?_)
  obtain rfl : x85 = 0 := e85.trans (by decide)
  refine lv_iadd hx hb dX3_leastByTwos_131 ?_
  refine lv_topi (fun x86 e86 => ?_)
  obtain rfl : x86 = 0 := e86.trans (by decide)
  refine lv_istore_n (lv' := [(2, .int 0), (4, .int 0), (6, .int 0), (5, .int 3), (3, .int 4), (0, .ref o), (1, .int i0)]) hx hb dX3_leastByTwos_132 rfl hl (by decide) rfl (fun ls hl => ?_)
  refine lv_iinc (v := 4) (lv' := [(5, .int 4), (2, .int 0), (4, .int 0), (6, .int 0), (3, .int 4), (0, .ref o), (1, .int i0)]) hx hb dX3_leastByTwos_133 hl (k := 3) rfl (by decide) (by decide) rfl (fun ls hl => ?_)
  refine lv_goto (tgt := 81) hx hb dX3_leastByTwos_136 (by decide) ?_
  refine lv_iload hx hb dX3_leastByTwos_81 (lv_at hl 0 rfl) ?_
  refine lv_iconst (v := 4) hx hb dX3_leastByTwos_83 (by decide) ?_
  refine lv_icmp_gt (tgt := 139) hx hb dX3_leastByTwos_84 (by decide) (fun c87 => absurd c87 (by decide)) (fun c87 => ?_)
  refine lv_iload hx hb dX3_leastByTwos_87 (lv_at hl 2 rfl) ?_
  refine lv_aload_n hx hb dX3_leastByTwos_89 rfl (lv_at hl 5 rfl) ?_
  refine va_get (D := (dC, dI)) (ci := 3) (v := .ref os) (C := RX3) (T := TX3) (N := 6) hx hb hts hin3 hown hK hP 4 rfl rfl 5 (by decide) hw2 (fun _ h9 => h9) rfl dX3_leastByTwos_90 ?_
  refine lv_iload hx hb dX3_leastByTwos_93 (lv_at hl 0 rfl) ?_
  refine va_iald hx hb hK hP 1 0 rfl rfl (vin (by decide) (by decide)) dX3_leastByTwos_95 ?_
  refine lv_topi (fun y88 e88 => ?_)
  obtain rfl : y88 = u44 4 := e88
  refine va_mmin hx hb (hml.trans hl.1.symm) hown hw3 hw4 hw5 hw6 (Nat.le_of_ble_eq_true rfl) (Nat.le_of_ble_eq_true rfl) (Nat.le_of_ble_eq_true rfl) (Nat.le_of_ble_eq_true rfl) dX3_leastByTwos_96 ?_
  refine lv_topi (fun x89 e89 => ?_)
  obtain rfl : x89 = 0 := e89.trans (mmin1 (by have z8 : (0 : Int32).toInt = 0 := rfl; omega))
  refine lv_istore (lv' := [(6, .int 0), (5, .int 4), (2, .int 0), (4, .int 0), (3, .int 4), (0, .ref o), (1, .int i0)]) hx hb dX3_leastByTwos_99 hl (by decide) rfl (fun ls hl => ?_)
  refine lv_aload_n hx hb dX3_leastByTwos_101 rfl (lv_at hl 5 rfl) ?_
  refine va_get (D := (dC, dI)) (ci := 3) (v := .ref os) (C := RX3) (T := TX3) (N := 6) hx hb hts hin3 hown hK hP 4 rfl rfl 5 (by decide) hw2 (fun _ h9 => h9) rfl dX3_leastByTwos_102 ?_
  refine lv_iload hx hb dX3_leastByTwos_105 (lv_at hl 1 rfl) ?_
  refine lv_dup2_11 hx hb dX3_leastByTwos_107 rfl rfl ?_
  refine va_iald hx hb hK hP 1 0 rfl rfl (vin (by decide) (by decide)) dX3_leastByTwos_108 ?_
  refine lv_topi (fun y90 e90 => ?_)
  obtain rfl : y90 = u44 4 := e90
  refine lv_iload hx hb dX3_leastByTwos_109 (lv_at hl 0 rfl) ?_
  refine lv_isub hx hb dX3_leastByTwos_111 ?_
  refine lv_topi (fun y91 e91 => ?_)
  obtain rfl : y91 = u44 4 := e91.trans (by simp)
  refine va_iast hx hb hK hP hD hS 1 0 rfl rfl (vin (by decide) (by decide)) dX3_leastByTwos_112 (fun H locs hP hD hS => ?_)
  replace hP : va_P (dC, dI) vwCl [(km, .inl (cI, 6, .inl (fun _ => 0))), (os, .inl (cI, 5, .inl (upd (upd (upd (upd (upd u44 0 (u44 0)) 1 (u44 1)) 2 (u44 2)) 3 (u44 3)) 4 (u44 4)))), (ks, .inl (cI, 5, .inl (upd (fun _ => 0) 0 800))), (kw, .inl (cI, 14, .inl (fun _ => 0))), (o, .inr (3, [.ref k, .ref op, .int 0, .ref oq, .ref ov, .ref os])), (op, .inl (cI, 6, .inl (upd (upd (upd (upd (upd (upd (fun _ => 0) 5 0) 4 0) 3 0) 2 0) 1 0) 0 0))), (k, .inr (0, [.ref ks, .ref kw, .ref kc, .int (-6), .int 0, .int 0, .ref kq, .ref km, .ref kd, .int 0, .ref ka, .ref kk])), (kq, .inl (cI, 6, .inl (fun _ => 0)))] H := hP
  replace hD : va_D A [(km, .inl (cI, 6, .inl (fun _ => 0))), (os, .inl (cI, 5, .inl (upd (upd (upd (upd (upd u44 0 (u44 0)) 1 (u44 1)) 2 (u44 2)) 3 (u44 3)) 4 (u44 4)))), (ks, .inl (cI, 5, .inl (upd (fun _ => 0) 0 800))), (kw, .inl (cI, 14, .inl (fun _ => 0))), (o, .inr (3, [.ref k, .ref op, .int 0, .ref oq, .ref ov, .ref os])), (op, .inl (cI, 6, .inl (upd (upd (upd (upd (upd (upd (fun _ => 0) 5 0) 4 0) 3 0) 2 0) 1 0) 0 0))), (k, .inr (0, [.ref ks, .ref kw, .ref kc, .int (-6), .int 0, .int 0, .ref kq, .ref km, .ref kd, .int 0, .ref ka, .ref kk])), (kq, .inl (cI, 6, .inl (fun _ => 0)))] := hD
  refine lv_iload hx hb dX3_leastByTwos_113 (lv_at hl 3 rfl) ?_
  refine lv_iload hx hb dX3_leastByTwos_115 (lv_at hl 0 rfl) ?_
  refine lv_isub hx hb dX3_leastByTwos_117 ?_
  refine lv_topi (fun x92 e92 => ?_)
  obtain rfl : x92 = 0 := e92.trans (by decide)
  refine lv_istore (lv' := [(4, .int 0), (6, .int 0), (5, .int 4), (2, .int 0), (3, .int 4), (0, .ref o), (1, .int i0)]) hx hb dX3_leastByTwos_118 hl (by decide) rfl (fun ls hl => ?_)
  refine lv_iload_n hx hb dX3_leastByTwos_120 rfl (lv_at hl 3 rfl) ?_
  refine lv_iload hx hb dX3_leastByTwos_121 (lv_at hl 1 rfl) ?_
  refine lv_bipush (v := 11) hx hb dX3_leastByTwos_123 (by decide) ?_
  refine lv_imul hx hb dX3_leastByTwos_125 ?_
  refine lv_topi (fun x93 e93 => ?_)
  obtain rfl : x93 = 0 := e93.trans (by decide)
  refine lv_iload_n hx hb dX3_leastByTwos_126 rfl (lv_at hl 4 rfl) ?_
  refine lv_imul hx hb dX3_leastByTwos_127 ?_
  refine lv_topi (fun x94 e94 => ?_)
  obtain rfl : x94 = 0 := e94.trans (by decide)
  refine lv_iload hx hb dX3_leastByTwos_128 (lv_at hl 2 rfl) ?_
  refine lv_imul hx hb dX3_leastByTwos_130 ?_
  refine lv_topi (fun x95 e95 => ?_)
  obtain rfl : x95 = 0 := e95.trans (by decide)
  refine lv_iadd hx hb dX3_leastByTwos_131 ?_
  refine lv_topi (fun x96 e96 => ?_)
  obtain rfl : x96 = 0 := e96.trans (by decide)
  refine lv_istore_n (lv' := [(2, .int 0), (4, .int 0), (6, .int 0), (5, .int 4), (3, .int 4), (0, .ref o), (1, .int i0)]) hx hb dX3_leastByTwos_132 rfl hl (by decide) rfl (fun ls hl => ?_)
  refine lv_iinc (v := 5) (lv' := [(5, .int 5), (2, .int 0), (4, .int 0), (6, .int 0), (3, .int 4), (0, .ref o), (1, .int i0)]) hx hb dX3_leastByTwos_133 hl (k := 3) rfl (by decide) (by decide) rfl (fun ls hl => ?_)
  refine lv_goto (tgt := 81) hx hb dX3_leastByTwos_136 (by decide) ?_
  refine lv_iload hx hb dX3_leastByTwos_81 (lv_at hl 0 rfl) ?_
  refine lv_iconst (v := 4) hx hb dX3_leastByTwos_83 (by decide) ?_
  refine lv_icmp_gt (tgt := 139) hx hb dX3_leastByTwos_84 (by decide) (fun c97 => ?_) (fun c97 => absurd c97 (by decide))
  refine lv_iload hx hb dX3_leastByTwos_139 (lv_at hl 2 rfl) ?_
  refine lv_if_le (tgt := 147) hx hb dX3_leastByTwos_141 (by decide) (fun c98 => ?_) (fun c98 => absurd c98 (by decide))
  refine lv_iinc (v := 3) (lv' := [(3, .int 3), (5, .int 5), (2, .int 0), (4, .int 0), (6, .int 0), (0, .ref o), (1, .int i0)]) hx hb dX3_leastByTwos_147 hl (k := 4) rfl (by decide) (by decide) rfl (fun ls hl => ?_)
  refine lv_goto (tgt := 66) hx hb dX3_leastByTwos_150 (by decide) ?_
  refine lv_iload_n hx hb dX3_leastByTwos_66 rfl (lv_at hl 0 rfl) ?_
  refine lv_iconst (v := 1) hx hb dX3_leastByTwos_67 (by decide) ?_
  refine lv_icmp_lt (tgt := 153) hx hb dX3_leastByTwos_68 (by decide) (fun c99 => absurd c99 (by decide)) (fun c99 => ?_)
  refine lv_aload_n hx hb dX3_leastByTwos_71 rfl (lv_at hl 5 rfl) ?_
  refine lv_iload_n hx hb dX3_leastByTwos_72 rfl (lv_at hl 0 rfl) ?_
  refine mx_i (wr := [(km, .inl (cI, 6, .inl (fun _ => 0))), (os, .inl (cI, 5, .inl (upd (upd (upd (upd (upd u44 0 (u44 0)) 1 (u44 1)) 2 (u44 2)) 3 (u44 3)) 4 (u44 4)))), (ks, .inl (cI, 5, .inl (upd (fun _ => 0) 0 800))), (kw, .inl (cI, 14, .inl (fun _ => 0)))]) (va_runV (As := [.int 3]) (rest := []) ⟨hx, hb, hml, hown, hts⟩ (c_X3_portionsOf_3 l dC dI cI cZ cK tS aK aV o k ks kw kc kq km kd ka kk op oq ov os H.size) (cwV 1 hts (gw_v (fun _ h9 => List.mem_cons_of_mem _ h9) wm_199 wm_200 wm_201 wm_146 wm_202) rfl rfl rfl (by decide +kernel) ⟨Nat.le_of_ble_eq_true rfl, Nat.le_of_ble_eq_true rfl⟩) (mx_preV (C := RX3) (T := TX3) (N := 6) (ci := 3) hKx hP hD hS hA [4, 5, 6, 7] (by decide) rfl rfl rfl) rfl rfl hl.1 rfl (lv_room (Nat.le_of_ble_eq_true rfl)) dX3_leastByTwos_73 ⟨Nat.le_of_ble_eq_true rfl, Nat.le_of_ble_eq_true rfl⟩) hP hD hS hA [4, 5, 6, 7] [0, 1, 2, 3] rfl rfl (by decide) (by decide) (fun r100 u100 H locs hq100 hP hD hS => ?_)
  replace hP : va_P (dC, dI) vwCl [(km, .inl (cI, 6, .inl (fun _ => 0))), (os, .inl (cI, 5, .inl (upd (upd (upd (upd (upd u44 0 (u44 0)) 1 (u44 1)) 2 (u44 2)) 3 (u44 3)) 4 (u44 4)))), (ks, .inl (cI, 5, .inl (upd (fun _ => 0) 0 800))), (kw, .inl (cI, 14, .inl (fun _ => 0))), (o, .inr (3, [.ref k, .ref op, .int 0, .ref oq, .ref ov, .ref os])), (op, .inl (cI, 6, .inl (upd (upd (upd (upd (upd (upd (fun _ => 0) 5 0) 4 0) 3 0) 2 0) 1 0) 0 0))), (k, .inr (0, [.ref ks, .ref kw, .ref kc, .int (-6), .int 0, .int 0, .ref kq, .ref km, .ref kd, .int 0, .ref ka, .ref kk])), (kq, .inl (cI, 6, .inl (fun _ => 0)))] H := hP
  replace hD : va_D A [(km, .inl (cI, 6, .inl (fun _ => 0))), (os, .inl (cI, 5, .inl (upd (upd (upd (upd (upd u44 0 (u44 0)) 1 (u44 1)) 2 (u44 2)) 3 (u44 3)) 4 (u44 4)))), (ks, .inl (cI, 5, .inl (upd (fun _ => 0) 0 800))), (kw, .inl (cI, 14, .inl (fun _ => 0))), (o, .inr (3, [.ref k, .ref op, .int 0, .ref oq, .ref ov, .ref os])), (op, .inl (cI, 6, .inl (upd (upd (upd (upd (upd (upd (fun _ => 0) 5 0) 4 0) 3 0) 2 0) 1 0) 0 0))), (k, .inr (0, [.ref ks, .ref kw, .ref kc, .int (-6), .int 0, .int 0, .ref kq, .ref km, .ref kd, .int 0, .ref ka, .ref kk])), (kq, .inl (cI, 6, .inl (fun _ => 0)))] := hD
  obtain rfl : r100 = 0 := hq100
  refine lv_istore (lv' := [(4, .int 0), (3, .int 3), (5, .int 5), (2, .int 0), (6, .int 0), (0, .ref o), (1, .int i0)]) hx hb dX3_leastByTwos_76 hl (by decide) rfl (fun ls hl => ?_)
  refine lv_iconst (v := 0) hx hb dX3_leastByTwos_78 (by decide) ?_
  refine lv_istore (lv' := [(5, .int 0), (4, .int 0), (3, .int 3), (2, .int 0), (6, .int 0), (0, .ref o), (1, .int i0)]) hx hb dX3_leastByTwos_79 hl (by decide) rfl (fun ls hl => ?_)
  refine lv_iload hx hb dX3_leastByTwos_81 (lv_at hl 0 rfl) ?_
  refine lv_iconst (v := 4) hx hb dX3_leastByTwos_83 (by decide) ?_
  refine lv_icmp_gt (tgt := 139) hx hb dX3_leastByTwos_84 (by decide) (fun c101 => absurd c101 (by decide)) (fun c101 => ?_)
  refine lv_iload hx hb dX3_leastByTwos_87 (lv_at hl 1 rfl) ?_
  refine lv_aload_n hx hb dX3_leastByTwos_89 rfl (lv_at hl 5 rfl) ?_
  refine va_get (D := (dC, dI)) (ci := 3) (v := .ref os) (C := RX3) (T := TX3) (N := 6) hx hb hts hin3 hown hK hP 4 rfl rfl 5 (by decide) hw2 (fun _ h9 => h9) rfl dX3_leastByTwos_90 ?_
  refine lv_iload hx hb dX3_leastByTwos_93 (lv_at hl 0 rfl) ?_
  refine va_iald hx hb hK hP 1 0 rfl rfl (vin (by decide) (by decide)) dX3_leastByTwos_95 ?_
  refine lv_topi (fun y102 e102 => ?_)
  obtain rfl : y102 = u44 0 := e102
  refine va_mmin hx hb (hml.trans hl.1.symm) hown hw3 hw4 hw5 hw6 (Nat.le_of_ble_eq_true rfl) (Nat.le_of_ble_eq_true rfl) (Nat.le_of_ble_eq_true rfl) (Nat.le_of_ble_eq_true rfl) dX3_leastByTwos_96 ?_
  refine lv_topi (fun x103 e103 => ?_)
  obtain rfl : x103 = 0 := e103.trans (mmin1 (by have z8 : (0 : Int32).toInt = 0 := rfl; omega))
  refine lv_istore (lv' := [(6, .int 0), (5, .int 0), (4, .int 0), (3, .int 3), (2, .int 0), (0, .ref o), (1, .int i0)]) hx hb dX3_leastByTwos_99 hl (by decide) rfl (fun ls hl => ?_)
  refine lv_aload_n hx hb dX3_leastByTwos_101 rfl (lv_at hl 5 rfl) ?_
  refine va_get (D := (dC, dI)) (ci := 3) (v := .ref os) (C := RX3) (T := TX3) (N := 6) hx hb hts hin3 hown hK hP 4 rfl rfl 5 (by decide) hw2 (fun _ h9 => h9) rfl dX3_leastByTwos_102 ?_
  refine lv_iload hx hb dX3_leastByTwos_105 (lv_at hl 1 rfl) ?_
  refine lv_dup2_11 hx hb dX3_leastByTwos_107 rfl rfl ?_
  refine va_iald hx hb hK hP 1 0 rfl rfl (vin (by decide) (by decide)) dX3_leastByTwos_108 ?_
  refine lv_topi (fun y104 e104 => ?_)
  obtain rfl : y104 = u44 0 := e104
  refine lv_iload hx hb dX3_leastByTwos_109 (lv_at hl 0 rfl) ?_
  refine lv_isub hx hb dX3_leastByTwos_111 ?_
  refine lv_topi (fun y105 e105 => ?_)
  obtain rfl : y105 = u44 0 := e105.trans (by simp)
  refine va_iast hx hb hK hP hD hS 1 0 rfl rfl (vin (by decide) (by decide)) dX3_leastByTwos_112 (fun H locs hP hD hS => ?_)
  replace hP : va_P (dC, dI) vwCl [(km, .inl (cI, 6, .inl (fun _ => 0))), (os, .inl (cI, 5, .inl (upd (upd (upd (upd (upd (upd u44 0 (u44 0)) 1 (u44 1)) 2 (u44 2)) 3 (u44 3)) 4 (u44 4)) 0 (u44 0)))), (ks, .inl (cI, 5, .inl (upd (fun _ => 0) 0 800))), (kw, .inl (cI, 14, .inl (fun _ => 0))), (o, .inr (3, [.ref k, .ref op, .int 0, .ref oq, .ref ov, .ref os])), (op, .inl (cI, 6, .inl (upd (upd (upd (upd (upd (upd (fun _ => 0) 5 0) 4 0) 3 0) 2 0) 1 0) 0 0))), (k, .inr (0, [.ref ks, .ref kw, .ref kc, .int (-6), .int 0, .int 0, .ref kq, .ref km, .ref kd, .int 0, .ref ka, .ref kk])), (kq, .inl (cI, 6, .inl (fun _ => 0)))] H := hP
  replace hD : va_D A [(km, .inl (cI, 6, .inl (fun _ => 0))), (os, .inl (cI, 5, .inl (upd (upd (upd (upd (upd (upd u44 0 (u44 0)) 1 (u44 1)) 2 (u44 2)) 3 (u44 3)) 4 (u44 4)) 0 (u44 0)))), (ks, .inl (cI, 5, .inl (upd (fun _ => 0) 0 800))), (kw, .inl (cI, 14, .inl (fun _ => 0))), (o, .inr (3, [.ref k, .ref op, .int 0, .ref oq, .ref ov, .ref os])), (op, .inl (cI, 6, .inl (upd (upd (upd (upd (upd (upd (fun _ => 0) 5 0) 4 0) 3 0) 2 0) 1 0) 0 0))), (k, .inr (0, [.ref ks, .ref kw, .ref kc, .int (-6), .int 0, .int 0, .ref kq, .ref km, .ref kd, .int 0, .ref ka, .ref kk])), (kq, .inl (cI, 6, .inl (fun _ => 0)))] := hD
  refine lv_iload hx hb dX3_leastByTwos_113 (lv_at hl 2 rfl) ?_
  refine lv_iload hx hb dX3_leastByTwos_115 (lv_at hl 0 rfl) ?_
  refine lv_isub hx hb dX3_leastByTwos_117 ?_
  refine lv_topi (fun x106 e106 => ?_)
  obtain rfl : x106 = 0 := e106.trans (by decide)
  refine lv_istore (lv' := [(4, .int 0), (6, .int 0), (5, .int 0), (3, .int 3), (2, .int 0), (0, .ref o), (1, .int i0)]) hx hb dX3_leastByTwos_118 hl (by decide) rfl (fun ls hl => ?_)
  refine lv_iload_n hx hb dX3_leastByTwos_120 rfl (lv_at hl 4 rfl) ?_
  refine lv_iload hx hb dX3_leastByTwos_121 (lv_at hl 1 rfl) ?_
  refine lv_bipush (v := 11) hx hb dX3_leastByTwos_123 (by decide) ?_
  refine lv_imul hx hb dX3_leastByTwos_125 ?_
  refine lv_topi (fun x107 e107 => ?_)
  obtain rfl : x107 = 0 := e107.trans (by decide)
  refine lv_iload_n hx hb dX3_leastByTwos_126 rfl (lv_at hl 3 rfl) ?_
  refine lv_imul hx hb dX3_leastByTwos_127 ?_
  refine lv_topi (fun x108 e108 => ?_)
  obtain rfl : x108 = 0 := e108.trans (by decide)
  refine lv_iload hx hb dX3_leastByTwos_128 (lv_at hl 2 rfl) ?_
  refine lv_imul hx hb dX3_leastByTwos_130 ?_
  refine lv_topi (fun x109 e109 => ?_)
  obtain rfl : x109 = 0 := e109.trans (by decide)
  refine lv_iadd hx hb dX3_leastByTwos_131 ?_
  refine lv_topi (fun x110 e110 => ?_)
  obtain rfl : x110 = 0 := e110.trans (by decide)
  refine lv_istore_n (lv' := [(2, .int 0), (4, .int 0), (6, .int 0), (5, .int 0), (3, .int 3), (0, .ref o), (1, .int i0)]) hx hb dX3_leastByTwos_132 rfl hl (by decide) rfl (fun ls hl => ?_)
  refine lv_iinc (v := 1) (lv' := [(5, .int 1), (2, .int 0), (4, .int 0), (6, .int 0), (3, .int 3), (0, .ref o), (1, .int i0)]) hx hb dX3_leastByTwos_133 hl (k := 3) rfl (by decide) (by decide) rfl (fun ls hl => ?_)
  refine lv_goto (tgt := 81) hx hb dX3_leastByTwos_136 (by decide) ?_
  refine lv_iload hx hb dX3_leastByTwos_81 (lv_at hl 0 rfl) ?_
  refine lv_iconst (v := 4) hx hb dX3_leastByTwos_83 (by decide) ?_
  refine lv_icmp_gt (tgt := 139) hx hb dX3_leastByTwos_84 (by decide) (fun c111 => absurd c111 (by decide)) (fun c111 => ?_)
  refine lv_iload hx hb dX3_leastByTwos_87 (lv_at hl 2 rfl) ?_
  refine lv_aload_n hx hb dX3_leastByTwos_89 rfl (lv_at hl 5 rfl) ?_
  refine va_get (D := (dC, dI)) (ci := 3) (v := .ref os) (C := RX3) (T := TX3) (N := 6) hx hb hts hin3 hown hK hP 4 rfl rfl 5 (by decide) hw2 (fun _ h9 => h9) rfl dX3_leastByTwos_90 ?_
  refine lv_iload hx hb dX3_leastByTwos_93 (lv_at hl 0 rfl) ?_
  refine va_iald hx hb hK hP 1 0 rfl rfl (vin (by decide) (by decide)) dX3_leastByTwos_95 ?_
  refine lv_topi (fun y112 e112 => ?_)
  obtain rfl : y112 = u44 1 := e112
  refine va_mmin hx hb (hml.trans hl.1.symm) hown hw3 hw4 hw5 hw6 (Nat.le_of_ble_eq_true rfl) (Nat.le_of_ble_eq_true rfl) (Nat.le_of_ble_eq_true rfl) (Nat.le_of_ble_eq_true rfl) dX3_leastByTwos_96 ?_
  refine lv_topi (fun x113 e113 => ?_)
  obtain rfl : x113 = 0 := e113.trans (mmin1 (by have z8 : (0 : Int32).toInt = 0 := rfl; omega))
  refine lv_istore (lv' := [(6, .int 0), (5, .int 1), (2, .int 0), (4, .int 0), (3, .int 3), (0, .ref o), (1, .int i0)]) hx hb dX3_leastByTwos_99 hl (by decide) rfl (fun ls hl => ?_)
  refine lv_aload_n hx hb dX3_leastByTwos_101 rfl (lv_at hl 5 rfl) ?_
  refine va_get (D := (dC, dI)) (ci := 3) (v := .ref os) (C := RX3) (T := TX3) (N := 6) hx hb hts hin3 hown hK hP 4 rfl rfl 5 (by decide) hw2 (fun _ h9 => h9) rfl dX3_leastByTwos_102 ?_
  refine lv_iload hx hb dX3_leastByTwos_105 (lv_at hl 1 rfl) ?_
  refine lv_dup2_11 hx hb dX3_leastByTwos_107 rfl rfl ?_
  refine va_iald hx hb hK hP 1 0 rfl rfl (vin (by decide) (by decide)) dX3_leastByTwos_108 ?_
  refine lv_topi (fun y114 e114 => ?_)
  obtain rfl : y114 = u44 1 := e114
  refine lv_iload hx hb dX3_leastByTwos_109 (lv_at hl 0 rfl) ?_
  refine lv_isub hx hb dX3_leastByTwos_111 ?_
  refine lv_topi (fun y115 e115 => ?_)
  obtain rfl : y115 = u44 1 := e115.trans (by simp)
  refine va_iast hx hb hK hP hD hS 1 0 rfl rfl (vin (by decide) (by decide)) dX3_leastByTwos_112 (fun H locs hP hD hS => ?_)
  replace hP : va_P (dC, dI) vwCl [(km, .inl (cI, 6, .inl (fun _ => 0))), (os, .inl (cI, 5, .inl (upd (upd (upd (upd (upd (upd (upd u44 0 (u44 0)) 1 (u44 1)) 2 (u44 2)) 3 (u44 3)) 4 (u44 4)) 0 (u44 0)) 1 (u44 1)))), (ks, .inl (cI, 5, .inl (upd (fun _ => 0) 0 800))), (kw, .inl (cI, 14, .inl (fun _ => 0))), (o, .inr (3, [.ref k, .ref op, .int 0, .ref oq, .ref ov, .ref os])), (op, .inl (cI, 6, .inl (upd (upd (upd (upd (upd (upd (fun _ => 0) 5 0) 4 0) 3 0) 2 0) 1 0) 0 0))), (k, .inr (0, [.ref ks, .ref kw, .ref kc, .int (-6), .int 0, .int 0, .ref kq, .ref km, .ref kd, .int 0, .ref ka, .ref kk])), (kq, .inl (cI, 6, .inl (fun _ => 0)))] H := hP
  replace hD : va_D A [(km, .inl (cI, 6, .inl (fun _ => 0))), (os, .inl (cI, 5, .inl (upd (upd (upd (upd (upd (upd (upd u44 0 (u44 0)) 1 (u44 1)) 2 (u44 2)) 3 (u44 3)) 4 (u44 4)) 0 (u44 0)) 1 (u44 1)))), (ks, .inl (cI, 5, .inl (upd (fun _ => 0) 0 800))), (kw, .inl (cI, 14, .inl (fun _ => 0))), (o, .inr (3, [.ref k, .ref op, .int 0, .ref oq, .ref ov, .ref os])), (op, .inl (cI, 6, .inl (upd (upd (upd (upd (upd (upd (fun _ => 0) 5 0) 4 0) 3 0) 2 0) 1 0) 0 0))), (k, .inr (0, [.ref ks, .ref kw, .ref kc, .int (-6), .int 0, .int 0, .ref kq, .ref km, .ref kd, .int 0, .ref ka, .ref kk])), (kq, .inl (cI, 6, .inl (fun _ => 0)))] := hD
  refine lv_iload hx hb dX3_leastByTwos_113 (lv_at hl 3 rfl) ?_
  refine lv_iload hx hb dX3_leastByTwos_115 (lv_at hl 0 rfl) ?_
  refine lv_isub hx hb dX3_leastByTwos_117 ?_
  refine lv_topi (fun x116 e116 => ?_)
  obtain rfl : x116 = 0 := e116.trans (by decide)
  refine lv_istore (lv' := [(4, .int 0), (6, .int 0), (5, .int 1), (2, .int 0), (3, .int 3), (0, .ref o), (1, .int i0)]) hx hb dX3_leastByTwos_118 hl (by decide) rfl (fun ls hl => ?_)
  refine lv_iload_n hx hb dX3_leastByTwos_120 rfl (lv_at hl 3 rfl) ?_
  refine lv_iload hx hb dX3_leastByTwos_121 (lv_at hl 1 rfl) ?_
  refine lv_bipush (v := 11) hx hb dX3_leastByTwos_123 (by decide) ?_
  refine lv_imul hx hb dX3_leastByTwos_125 ?_
  refine lv_topi (fun x117 e117 => ?_)
  obtain rfl : x117 = 0 := e117.trans (by decide)
  refine lv_iload_n hx hb dX3_leastByTwos_126 rfl (lv_at hl 4 rfl) ?_
  refine lv_imul hx hb dX3_leastByTwos_127 ?_
  refine lv_topi (fun x118 e118 => ?_)
  obtain rfl : x118 = 0 := e118.trans (by decide)
  refine lv_iload hx hb dX3_leastByTwos_128 (lv_at hl 2 rfl) ?_
  refine lv_imul hx hb dX3_leastByTwos_130 ?_
  refine lv_topi (fun x119 e119 => ?_)
  obtain rfl : x119 = 0 := e119.trans (by decide)
  refine lv_iadd hx hb dX3_leastByTwos_131 ?_
  refine lv_topi (fun x120 e120 => ?_)
  obtain rfl : x120 = 0 := e120.trans (by decide)
  refine lv_istore_n (lv' := [(2, .int 0), (4, .int 0), (6, .int 0), (5, .int 1), (3, .int 3), (0, .ref o), (1, .int i0)]) hx hb dX3_leastByTwos_132 rfl hl (by decide) rfl (fun ls hl => ?_)
  refine lv_iinc (v := 2) (lv' := [(5, .int 2), (2, .int 0), (4, .int 0), (6, .int 0), (3, .int 3), (0, .ref o), (1, .int i0)]) hx hb dX3_leastByTwos_133 hl (k := 3) rfl (by decide) (by decide) rfl (fun ls hl => ?_)
  refine lv_goto (tgt := 81) hx hb dX3_leastByTwos_136 (by decide) ?_
  refine lv_iload hx hb dX3_leastByTwos_81 (lv_at hl 0 rfl) ?_
  refine lv_iconst (v := 4) hx hb dX3_leastByTwos_83 (by decide) ?_
  refine lv_icmp_gt (tgt := 139) hx hb dX3_leastByTwos_84 (by decide) (fun c121 => absurd c121 (by decide)) (fun c121 => ?_)
  refine lv_iload hx hb dX3_leastByTwos_87 (lv_at hl 2 rfl) ?_
  refine lv_aload_n hx hb dX3_leastByTwos_89 rfl (lv_at hl 5 rfl) ?_
  refine va_get (D := (dC, dI)) (ci := 3) (v := .ref os) (C := RX3) (T := TX3) (N := 6) hx hb hts hin3 hown hK hP 4 rfl rfl 5 (by decide) hw2 (fun _ h9 => h9) rfl dX3_leastByTwos_90 ?_
  refine lv_iload hx hb dX3_leastByTwos_93 (lv_at hl 0 rfl) ?_
  refine va_iald hx hb hK hP 1 0 rfl rfl (vin (by decide) (by decide)) dX3_leastByTwos_95 ?_
  refine lv_topi (fun y122 e122 => ?_)
  obtain rfl : y122 = u44 2 := e122
  refine va_mmin hx hb (hml.trans hl.1.symm) hown hw3 hw4 hw5 hw6 (Nat.le_of_ble_eq_true rfl) (Nat.le_of_ble_eq_true rfl) (Nat.le_of_ble_eq_true rfl) (Nat.le_of_ble_eq_true rfl) dX3_leastByTwos_96 ?_
  refine lv_topi (fun x123 e123 => ?_)
  obtain rfl : x123 = 0 := e123.trans (mmin1 (by have z8 : (0 : Int32).toInt = 0 := rfl; omega))
  refine lv_istore (lv' := [(6, .int 0), (5, .int 2), (2, .int 0), (4, .int 0), (3, .int 3), (0, .ref o), (1, .int i0)]) hx hb dX3_leastByTwos_99 hl (by decide) rfl (fun ls hl => ?_)
  refine lv_aload_n hx hb dX3_leastByTwos_101 rfl (lv_at hl 5 rfl) ?_
  refine va_get (D := (dC, dI)) (ci := 3) (v := .ref os) (C := RX3) (T := TX3) (N := 6) hx hb hts hin3 hown hK hP 4 rfl rfl 5 (by decide) hw2 (fun _ h9 => h9) rfl dX3_leastByTwos_102 ?_
  refine lv_iload hx hb dX3_leastByTwos_105 (lv_at hl 1 rfl) ?_
  refine lv_dup2_11 hx hb dX3_leastByTwos_107 rfl rfl ?_
  refine va_iald hx hb hK hP 1 0 rfl rfl (vin (by decide) (by decide)) dX3_leastByTwos_108 ?_
  refine lv_topi (fun y124 e124 => ?_)
  obtain rfl : y124 = u44 2 := e124
  refine lv_iload hx hb dX3_leastByTwos_109 (lv_at hl 0 rfl) ?_
  refine lv_isub hx hb dX3_leastByTwos_111 ?_
  refine lv_topi (fun y125 e125 => ?_)
  obtain rfl : y125 = u44 2 := e125.trans (by simp)
  refine va_iast hx hb hK hP hD hS 1 0 rfl rfl (vin (by decide) (by decide)) dX3_leastByTwos_112 (fun H locs hP hD hS => ?_)
  replace hP : va_P (dC, dI) vwCl [(km, .inl (cI, 6, .inl (fun _ => 0))), (os, .inl (cI, 5, .inl (upd (upd (upd (upd (upd (upd (upd (upd u44 0 (u44 0)) 1 (u44 1)) 2 (u44 2)) 3 (u44 3)) 4 (u44 4)) 0 (u44 0)) 1 (u44 1)) 2 (u44 2)))), (ks, .inl (cI, 5, .inl (upd (fun _ => 0) 0 800))), (kw, .inl (cI, 14, .inl (fun _ => 0))), (o, .inr (3, [.ref k, .ref op, .int 0, .ref oq, .ref ov, .ref os])), (op, .inl (cI, 6, .inl (upd (upd (upd (upd (upd (upd (fun _ => 0) 5 0) 4 0) 3 0) 2 0) 1 0) 0 0))), (k, .inr (0, [.ref ks, .ref kw, .ref kc, .int (-6), .int 0, .int 0, .ref kq, .ref km, .ref kd, .int 0, .ref ka, .ref kk])), (kq, .inl (cI, 6, .inl (fun _ => 0)))] H := hP
  replace hD : va_D A [(km, .inl (cI, 6, .inl (fun _ => 0))), (os, .inl (cI, 5, .inl (upd (upd (upd (upd (upd (upd (upd (upd u44 0 (u44 0)) 1 (u44 1)) 2 (u44 2)) 3 (u44 3)) 4 (u44 4)) 0 (u44 0)) 1 (u44 1)) 2 (u44 2)))), (ks, .inl (cI, 5, .inl (upd (fun _ => 0) 0 800))), (kw, .inl (cI, 14, .inl (fun _ => 0))), (o, .inr (3, [.ref k, .ref op, .int 0, .ref oq, .ref ov, .ref os])), (op, .inl (cI, 6, .inl (upd (upd (upd (upd (upd (upd (fun _ => 0) 5 0) 4 0) 3 0) 2 0) 1 0) 0 0))), (k, .inr (0, [.ref ks, .ref kw, .ref kc, .int (-6), .int 0, .int 0, .ref kq, .ref km, .ref kd, .int 0, .ref ka, .ref kk])), (kq, .inl (cI, 6, .inl (fun _ => 0)))] := hD
  refine lv_iload hx hb dX3_leastByTwos_113 (lv_at hl 3 rfl) ?_
  refine lv_iload hx hb dX3_leastByTwos_115 (lv_at hl 0 rfl) ?_
  refine lv_isub hx hb dX3_leastByTwos_117 ?_
  refine lv_topi (fun x126 e126 => ?_)
  obtain rfl : x126 = 0 := e126.trans (by decide)
  refine lv_istore (lv' := [(4, .int 0), (6, .int 0), (5, .int 2), (2, .int 0), (3, .int 3), (0, .ref o), (1, .int i0)]) hx hb dX3_leastByTwos_118 hl (by decide) rfl (fun ls hl => ?_)
  refine lv_iload_n hx hb dX3_leastByTwos_120 rfl (lv_at hl 3 rfl) ?_
  refine lv_iload hx hb dX3_leastByTwos_121 (lv_at hl 1 rfl) ?_
  refine lv_bipush (v := 11) hx hb dX3_leastByTwos_123 (by decide) ?_
  refine lv_imul hx hb dX3_leastByTwos_125 ?_
  refine lv_topi (fun x127 e127 => ?_)
  obtain rfl : x127 = 0 := e127.trans (by decide)
  refine lv_iload_n hx hb dX3_leastByTwos_126 rfl (lv_at hl 4 rfl) ?_
  refine lv_imul hx hb dX3_leastByTwos_127 ?_
  refine lv_topi (fun x128 e128 => ?_)
  obtain rfl : x128 = 0 := e128.trans (by decide)
  refine lv_iload hx hb dX3_leastByTwos_128 (lv_at hl 2 rfl) ?_
  refine lv_imul hx hb dX3_leastByTwos_130 ?_
  refine lv_topi (fun x129 e129 => ?_)
  obtain rfl : x129 = 0 := e129.trans (by decide)
  refine lv_iadd hx hb dX3_leastByTwos_131 ?_
  refine lv_topi (fun x130 e130 => ?_)
  obtain rfl : x130 = 0 := e130.trans (by decide)
  refine lv_istore_n (lv' := [(2, .int 0), (4, .int 0), (6, .int 0), (5, .int 2), (3, .int 3), (0, .ref o), (1, .int i0)]) hx hb dX3_leastByTwos_132 rfl hl (by decide) rfl (fun ls hl => ?_)
  refine lv_iinc (v := 3) (lv' := [(5, .int 3), (2, .int 0), (4, .int 0), (6, .int 0), (3, .int 3), (0, .ref o), (1, .int i0)]) hx hb dX3_leastByTwos_133 hl (k := 3) rfl (by decide) (by decide) rfl (fun ls hl => ?_)
  refine lv_goto (tgt := 81) hx hb dX3_leastByTwos_136 (by decide) ?_
  refine lv_iload hx hb dX3_leastByTwos_81 (lv_at hl 0 rfl) ?_
  refine lv_iconst (v := 4) hx hb dX3_leastByTwos_83 (by decide) ?_
  refine lv_icmp_gt (tgt := 139) hx hb dX3_leastByTwos_84 (by decide) (fun c131 => absurd c131 (by decide)) (fun c131 => ?_)
  refine lv_iload hx hb dX3_leastByTwos_87 (lv_at hl 2 rfl) ?_
  refine lv_aload_n hx hb dX3_leastByTwos_89 rfl (lv_at hl 5 rfl) ?_
  refine va_get (D := (dC, dI)) (ci := 3) (v := .ref os) (C := RX3) (T := TX3) (N := 6) hx hb hts hin3 hown hK hP 4 rfl rfl 5 (by decide) hw2 (fun _ h9 => h9) rfl dX3_leastByTwos_90 ?_
  refine lv_iload hx hb dX3_leastByTwos_93 (lv_at hl 0 rfl) ?_
  refine va_iald hx hb hK hP 1 0 rfl rfl (vin (by decide) (by decide)) dX3_leastByTwos_95 ?_
  refine lv_topi (fun y132 e132 => ?_)
  obtain rfl : y132 = u44 3 := e132
  refine va_mmin hx hb (hml.trans hl.1.symm) hown hw3 hw4 hw5 hw6 (Nat.le_of_ble_eq_true rfl) (Nat.le_of_ble_eq_true rfl) (Nat.le_of_ble_eq_true rfl) (Nat.le_of_ble_eq_true rfl) dX3_leastByTwos_96 ?_
  refine lv_topi (fun x133 e133 => ?_)
  obtain rfl : x133 = 0 := e133.trans (mmin1 (by have z8 : (0 : Int32).toInt = 0 := rfl; omega))
  refine lv_istore (lv' := [(6, .int 0), (5, .int 3), (2, .int 0), (4, .int 0), (3, .int 3), (0, .ref o), (1, .int i0)]) hx hb dX3_leastByTwos_99 hl (by decide) rfl (fun ls hl => ?_)
  refine lv_aload_n hx hb dX3_leastByTwos_101 rfl (lv_at hl 5 rfl) ?_
  refine va_get (D := (dC, dI)) (ci := 3) (v := .ref os) (C := RX3) (T := TX3) (N := 6) hx hb hts hin3 hown hK hP 4 rfl rfl 5 (by decide) hw2 (fun _ h9 => h9) rfl dX3_leastByTwos_102 ?_
  refine lv_iload hx hb dX3_leastByTwos_105 (lv_at hl 1 rfl) ?_
  refine lv_dup2_11 hx hb dX3_leastByTwos_107 rfl rfl ?_
  refine va_iald hx hb hK hP 1 0 rfl rfl (vin (by decide) (by decide)) dX3_leastByTwos_108 ?_
  refine lv_topi (fun y134 e134 => ?_)
  obtain rfl : y134 = u44 3 := e134
  refine lv_iload hx hb dX3_leastByTwos_109 (lv_at hl 0 rfl) ?_
  refine lv_isub hx hb dX3_leastByTwos_111 ?_
  refine lv_topi (fun y135 e135 => ?_)
  obtain rfl : y135 = u44 3 := e135.trans (by simp)
  refine va_iast hx hb hK hP hD hS 1 0 rfl rfl (vin (by decide) (by decide)) dX3_leastByTwos_112 (fun H locs hP hD hS => ?_)
  replace hP : va_P (dC, dI) vwCl [(km, .inl (cI, 6, .inl (fun _ => 0))), (os, .inl (cI, 5, .inl (upd (upd (upd (upd (upd (upd (upd (upd (upd u44 0 (u44 0)) 1 (u44 1)) 2 (u44 2)) 3 (u44 3)) 4 (u44 4)) 0 (u44 0)) 1 (u44 1)) 2 (u44 2)) 3 (u44 3)))), (ks, .inl (cI, 5, .inl (upd (fun _ => 0) 0 800))), (kw, .inl (cI, 14, .inl (fun _ => 0))), (o, .inr (3, [.ref k, .ref op, .int 0, .ref oq, .ref ov, .ref os])), (op, .inl (cI, 6, .inl (upd (upd (upd (upd (upd (upd (fun _ => 0) 5 0) 4 0) 3 0) 2 0) 1 0) 0 0))), (k, .inr (0, [.ref ks, .ref kw, .ref kc, .int (-6), .int 0, .int 0, .ref kq, .ref km, .ref kd, .int 0, .ref ka, .ref kk])), (kq, .inl (cI, 6, .inl (fun _ => 0)))] H := hP
  replace hD : va_D A [(km, .inl (cI, 6, .inl (fun _ => 0))), (os, .inl (cI, 5, .inl (upd (upd (upd (upd (upd (upd (upd (upd (upd u44 0 (u44 0)) 1 (u44 1)) 2 (u44 2)) 3 (u44 3)) 4 (u44 4)) 0 (u44 0)) 1 (u44 1)) 2 (u44 2)) 3 (u44 3)))), (ks, .inl (cI, 5, .inl (upd (fun _ => 0) 0 800))), (kw, .inl (cI, 14, .inl (fun _ => 0))), (o, .inr (3, [.ref k, .ref op, .int 0, .ref oq, .ref ov, .ref os])), (op, .inl (cI, 6, .inl (upd (upd (upd (upd (upd (upd (fun _ => 0) 5 0) 4 0) 3 0) 2 0) 1 0) 0 0))), (k, .inr (0, [.ref ks, .ref kw, .ref kc, .int (-6), .int 0, .int 0, .ref kq, .ref km, .ref kd, .int 0, .ref ka, .ref kk])), (kq, .inl (cI, 6, .inl (fun _ => 0)))] := hD
  refine lv_iload hx hb dX3_leastByTwos_113 (lv_at hl 3 rfl) ?_
  refine lv_iload hx hb dX3_leastByTwos_115 (lv_at hl 0 rfl) ?_
  refine lv_isub hx hb dX3_leastByTwos_117 ?_
  refine lv_topi (fun x136 e136 => ?_)
  obtain rfl : x136 = 0 := e136.trans (by decide)
  refine lv_istore (lv' := [(4, .int 0), (6, .int 0), (5, .int 3), (2, .int 0), (3, .int 3), (0, .ref o), (1, .int i0)]) hx hb dX3_leastByTwos_118 hl (by decide) rfl (fun ls hl => ?_)
  refine lv_iload_n hx hb dX3_leastByTwos_120 rfl (lv_at hl 3 rfl) ?_
  refine lv_iload hx hb dX3_leastByTwos_121 (lv_at hl 1 rfl) ?_
  refine lv_bipush (v := 11) hx hb dX3_leastByTwos_123 (by decide) ?_
  refine lv_imul hx hb dX3_leastByTwos_125 ?_
  refine lv_topi (fun x137 e137 => ?_)
  obtain rfl : x137 = 0 := e137.trans (by decide)
  refine lv_iload_n hx hb dX3_leastByTwos_126 rfl (lv_at hl 4 rfl) ?_
  refine lv_imul hx hb dX3_leastByTwos_127 ?_
  refine lv_topi (fun x138 e138 => ?_)
  obtain rfl : x138 = 0 := e138.trans (by decide)
  refine lv_iload hx hb dX3_leastByTwos_128 (lv_at hl 2 rfl) ?_
  refine lv_imul hx hb dX3_leastByTwos_130 ?_
  refine lv_topi (fun x139 e139 => ?_)
  obtain rfl : x139 = 0 := e139.trans (by decide)
  refine lv_iadd hx hb dX3_leastByTwos_131 ?_
  refine lv_topi (fun x140 e140 => ?_)
  obtain rfl : x140 = 0 := e140.trans (by decide)
  refine lv_istore_n (lv' := [(2, .int 0), (4, .int 0), (6, .int 0), (5, .int 3), (3, .int 3), (0, .ref o), (1, .int i0)]) hx hb dX3_leastByTwos_132 rfl hl (by decide) rfl (fun ls hl => ?_)
  refine lv_iinc (v := 4) (lv' := [(5, .int 4), (2, .int 0), (4, .int 0), (6, .int 0), (3, .int 3), (0, .ref o), (1, .int i0)]) hx hb dX3_leastByTwos_133 hl (k := 3) rfl (by decide) (by decide) rfl (fun ls hl => ?_)
  refine lv_goto (tgt := 81) hx hb dX3_leastByTwos_136 (by decide) ?_
  refine lv_iload hx hb dX3_leastByTwos_81 (lv_at hl 0 rfl) ?_
  refine lv_iconst (v := 4) hx hb dX3_leastByTwos_83 (by decide) ?_
  refine lv_icmp_gt (tgt := 139) hx hb dX3_leastByTwos_84 (by decide) (fun c141 => absurd c141 (by decide)) (fun c141 => ?_)
  refine lv_iload hx hb dX3_leastByTwos_87 (lv_at hl 2 rfl) ?_
  refine lv_aload_n hx hb dX3_leastByTwos_89 rfl (lv_at hl 5 rfl) ?_
  refine va_get (D := (dC, dI)) (ci := 3) (v := .ref os) (C := RX3) (T := TX3) (N := 6) hx hb hts hin3 hown hK hP 4 rfl rfl 5 (by decide) hw2 (fun _ h9 => h9) rfl dX3_leastByTwos_90 ?_
  refine lv_iload hx hb dX3_leastByTwos_93 (lv_at hl 0 rfl) ?_
  refine va_iald hx hb hK hP 1 0 rfl rfl (vin (by decide) (by decide)) dX3_leastByTwos_95 ?_
  refine lv_topi (fun y142 e142 => ?_)
  obtain rfl : y142 = u44 4 := e142
  refine va_mmin hx hb (hml.trans hl.1.symm) hown hw3 hw4 hw5 hw6 (Nat.le_of_ble_eq_true rfl) (Nat.le_of_ble_eq_true rfl) (Nat.le_of_ble_eq_true rfl) (Nat.le_of_ble_eq_true rfl) dX3_leastByTwos_96 ?_
  refine lv_topi (fun x143 e143 => ?_)
  obtain rfl : x143 = 0 := e143.trans (mmin1 (by have z8 : (0 : Int32).toInt = 0 := rfl; omega))
  refine lv_istore (lv' := [(6, .int 0), (5, .int 4), (2, .int 0), (4, .int 0), (3, .int 3), (0, .ref o), (1, .int i0)]) hx hb dX3_leastByTwos_99 hl (by decide) rfl (fun ls hl => ?_)
  refine lv_aload_n hx hb dX3_leastByTwos_101 rfl (lv_at hl 5 rfl) ?_
  refine va_get (D := (dC, dI)) (ci := 3) (v := .ref os) (C := RX3) (T := TX3) (N := 6) hx hb hts hin3 hown hK hP 4 rfl rfl 5 (by decide) hw2 (fun _ h9 => h9) rfl dX3_leastByTwos_102 ?_
  refine lv_iload hx hb dX3_leastByTwos_105 (lv_at hl 1 rfl) ?_
  refine lv_dup2_11 hx hb dX3_leastByTwos_107 rfl rfl ?_
  refine va_iald hx hb hK hP 1 0 rfl rfl (vin (by decide) (by decide)) dX3_leastByTwos_108 ?_
  refine lv_topi (fun y144 e144 => ?_)
  obtain rfl : y144 = u44 4 := e144
  refine lv_iload hx hb dX3_leastByTwos_109 (lv_at hl 0 rfl) ?_
  refine lv_isub hx hb dX3_leastByTwos_111 ?_
  refine lv_topi (fun y145 e145 => ?_)
  obtain rfl : y145 = u44 4 := e145.trans (by simp)
  refine va_iast hx hb hK hP hD hS 1 0 rfl rfl (vin (by decide) (by decide)) dX3_leastByTwos_112 (fun H locs hP hD hS => ?_)
  replace hP : va_P (dC, dI) vwCl [(km, .inl (cI, 6, .inl (fun _ => 0))), (os, .inl (cI, 5, .inl (upd (upd (upd (upd (upd (upd (upd (upd (upd (upd u44 0 (u44 0)) 1 (u44 1)) 2 (u44 2)) 3 (u44 3)) 4 (u44 4)) 0 (u44 0)) 1 (u44 1)) 2 (u44 2)) 3 (u44 3)) 4 (u44 4)))), (ks, .inl (cI, 5, .inl (upd (fun _ => 0) 0 800))), (kw, .inl (cI, 14, .inl (fun _ => 0))), (o, .inr (3, [.ref k, .ref op, .int 0, .ref oq, .ref ov, .ref os])), (op, .inl (cI, 6, .inl (upd (upd (upd (upd (upd (upd (fun _ => 0) 5 0) 4 0) 3 0) 2 0) 1 0) 0 0))), (k, .inr (0, [.ref ks, .ref kw, .ref kc, .int (-6), .int 0, .int 0, .ref kq, .ref km, .ref kd, .int 0, .ref ka, .ref kk])), (kq, .inl (cI, 6, .inl (fun _ => 0)))] H := hP
  replace hD : va_D A [(km, .inl (cI, 6, .inl (fun _ => 0))), (os, .inl (cI, 5, .inl (upd (upd (upd (upd (upd (upd (upd (upd (upd (upd u44 0 (u44 0)) 1 (u44 1)) 2 (u44 2)) 3 (u44 3)) 4 (u44 4)) 0 (u44 0)) 1 (u44 1)) 2 (u44 2)) 3 (u44 3)) 4 (u44 4)))), (ks, .inl (cI, 5, .inl (upd (fun _ => 0) 0 800))), (kw, .inl (cI, 14, .inl (fun _ => 0))), (o, .inr (3, [.ref k, .ref op, .int 0, .ref oq, .ref ov, .ref os])), (op, .inl (cI, 6, .inl (upd (upd (upd (upd (upd (upd (fun _ => 0) 5 0) 4 0) 3 0) 2 0) 1 0) 0 0))), (k, .inr (0, [.ref ks, .ref kw, .ref kc, .int (-6), .int 0, .int 0, .ref kq, .ref km, .ref kd, .int 0, .ref ka, .ref kk])), (kq, .inl (cI, 6, .inl (fun _ => 0)))] := hD
  refine lv_iload hx hb dX3_leastByTwos_113 (lv_at hl 3 rfl) ?_
  refine lv_iload hx hb dX3_leastByTwos_115 (lv_at hl 0 rfl) ?_
  refine lv_isub hx hb dX3_leastByTwos_117 ?_
  refine lv_topi (fun x146 e146 => ?_)
  obtain rfl : x146 = 0 := e146.trans (by decide)
  refine lv_istore (lv' := [(4, .int 0), (6, .int 0), (5, .int 4), (2, .int 0), (3, .int 3), (0, .ref o), (1, .int i0)]) hx hb dX3_leastByTwos_118 hl (by decide) rfl (fun ls hl => ?_)
  refine lv_iload_n hx hb dX3_leastByTwos_120 rfl (lv_at hl 3 rfl) ?_
  refine lv_iload hx hb dX3_leastByTwos_121 (lv_at hl 1 rfl) ?_
  refine lv_bipush (v := 11) hx hb dX3_leastByTwos_123 (by decide) ?_
  refine lv_imul hx hb dX3_leastByTwos_125 ?_
  refine lv_topi (fun x147 e147 => ?_)
  obtain rfl : x147 = 0 := e147.trans (by decide)
  refine lv_iload_n hx hb dX3_leastByTwos_126 rfl (lv_at hl 4 rfl) ?_
  refine lv_imul hx hb dX3_leastByTwos_127 ?_
  refine lv_topi (fun x148 e148 => ?_)
  obtain rfl : x148 = 0 := e148.trans (by decide)
  refine lv_iload hx hb dX3_leastByTwos_128 (lv_at hl 2 rfl) ?_
  refine lv_imul hx hb dX3_leastByTwos_130 ?_
  refine lv_topi (fun x149 e149 => ?_)
  obtain rfl : x149 = 0 := e149.trans (by decide)
  refine lv_iadd hx hb dX3_leastByTwos_131 ?_
  refine lv_topi (fun x150 e150 => ?_)
  obtain rfl : x150 = 0 := e150.trans (by decide)
  refine lv_istore_n (lv' := [(2, .int 0), (4, .int 0), (6, .int 0), (5, .int 4), (3, .int 3), (0, .ref o), (1, .int i0)]) hx hb dX3_leastByTwos_132 rfl hl (by decide) rfl (fun ls hl => ?_)
  refine lv_iinc (v := 5) (lv' := [(5, .int 5), (2, .int 0), (4, .int 0), (6, .int 0), (3, .int 3), (0, .ref o), (1, .int i0)]) hx hb dX3_leastByTwos_133 hl (k := 3) rfl (by decide) (by decide) rfl (fun ls hl => ?_)
  refine lv_goto (tgt := 81) hx hb dX3_leastByTwos_136 (by decide) ?_
  refine lv_iload hx hb dX3_leastByTwos_81 (lv_at hl 0 rfl) ?_
  refine lv_iconst (v := 4) hx hb dX3_leastByTwos_83 (by decide) ?_
  refine lv_icmp_gt (tgt := 139) hx hb dX3_leastByTwos_84 (by decide) (fun c151 => ?_) (fun c151 => absurd c151 (by decide))
  refine lv_iload hx hb dX3_leastByTwos_139 (lv_at hl 2 rfl) ?_
  refine lv_if_le (tgt := 147) hx hb dX3_leastByTwos_141 (by decide) (fun c152 => ?_) (fun c152 => absurd c152 (by decide))
  refine lv_iinc (v := 2) (lv' := [(3, .int 2), (5, .int 5), (2, .int 0), (4, .int 0), (6, .int 0), (0, .ref o), (1, .int i0)]) hx hb dX3_leastByTwos_147 hl (k := 4) rfl (by decide) (by decide) rfl (fun ls hl => ?_)
  refine lv_goto (tgt := 66) hx hb dX3_leastByTwos_150 (by decide) ?_
  refine lv_iload_n hx hb dX3_leastByTwos_66 rfl (lv_at hl 0 rfl) ?_
  refine lv_iconst (v := 1) hx hb dX3_leastByTwos_67 (by decide) ?_
  refine lv_icmp_lt (tgt := 153) hx hb dX3_leastByTwos_68 (by decide) (fun c153 => absurd c153 (by decide)) (fun c153 => ?_)
  refine lv_aload_n hx hb dX3_leastByTwos_71 rfl (lv_at hl 5 rfl) ?_
  refine lv_iload_n hx hb dX3_leastByTwos_72 rfl (lv_at hl 0 rfl) ?_
  refine mx_i (wr := [(km, .inl (cI, 6, .inl (fun _ => 0))), (os, .inl (cI, 5, .inl (upd (upd (upd (upd (upd (upd (upd (upd (upd (upd u44 0 (u44 0)) 1 (u44 1)) 2 (u44 2)) 3 (u44 3)) 4 (u44 4)) 0 (u44 0)) 1 (u44 1)) 2 (u44 2)) 3 (u44 3)) 4 (u44 4)))), (ks, .inl (cI, 5, .inl (upd (fun _ => 0) 0 800))), (kw, .inl (cI, 14, .inl (fun _ => 0)))]) (va_runV (As := [.int 2]) (rest := []) ⟨hx, hb, hml, hown, hts⟩ (c_X3_portionsOf_2 l dC dI cI cZ cK tS aK aV o k ks kw kc kq km kd ka kk op oq ov os H.size) (cwV 1 hts (gw_v (fun _ h9 => List.mem_cons_of_mem _ h9) wm_199 wm_200 wm_201 wm_146 wm_202) rfl rfl rfl (by decide +kernel) ⟨Nat.le_of_ble_eq_true rfl, Nat.le_of_ble_eq_true rfl⟩) (mx_preV (C := RX3) (T := TX3) (N := 6) (ci := 3) hKx hP hD hS hA [4, 5, 6, 7] (by decide) rfl rfl rfl) rfl rfl hl.1 rfl (lv_room (Nat.le_of_ble_eq_true rfl)) dX3_leastByTwos_73 ⟨Nat.le_of_ble_eq_true rfl, Nat.le_of_ble_eq_true rfl⟩) hP hD hS hA [4, 5, 6, 7] [0, 1, 2, 3] rfl rfl (by decide) (by decide) (fun r154 u154 H locs hq154 hP hD hS => ?_)
  replace hP : va_P (dC, dI) vwCl [(km, .inl (cI, 6, .inl (fun _ => 0))), (os, .inl (cI, 5, .inl (upd (upd (upd (upd (upd (upd (upd (upd (upd (upd u44 0 (u44 0)) 1 (u44 1)) 2 (u44 2)) 3 (u44 3)) 4 (u44 4)) 0 (u44 0)) 1 (u44 1)) 2 (u44 2)) 3 (u44 3)) 4 (u44 4)))), (ks, .inl (cI, 5, .inl (upd (fun _ => 0) 0 800))), (kw, .inl (cI, 14, .inl (fun _ => 0))), (o, .inr (3, [.ref k, .ref op, .int 0, .ref oq, .ref ov, .ref os])), (op, .inl (cI, 6, .inl (upd (upd (upd (upd (upd (upd (fun _ => 0) 5 0) 4 0) 3 0) 2 0) 1 0) 0 0))), (k, .inr (0, [.ref ks, .ref kw, .ref kc, .int (-6), .int 0, .int 0, .ref kq, .ref km, .ref kd, .int 0, .ref ka, .ref kk])), (kq, .inl (cI, 6, .inl (fun _ => 0)))] H := hP
  replace hD : va_D A [(km, .inl (cI, 6, .inl (fun _ => 0))), (os, .inl (cI, 5, .inl (upd (upd (upd (upd (upd (upd (upd (upd (upd (upd u44 0 (u44 0)) 1 (u44 1)) 2 (u44 2)) 3 (u44 3)) 4 (u44 4)) 0 (u44 0)) 1 (u44 1)) 2 (u44 2)) 3 (u44 3)) 4 (u44 4)))), (ks, .inl (cI, 5, .inl (upd (fun _ => 0) 0 800))), (kw, .inl (cI, 14, .inl (fun _ => 0))), (o, .inr (3, [.ref k, .ref op, .int 0, .ref oq, .ref ov, .ref os])), (op, .inl (cI, 6, .inl (upd (upd (upd (upd (upd (upd (fun _ => 0) 5 0) 4 0) 3 0) 2 0) 1 0) 0 0))), (k, .inr (0, [.ref ks, .ref kw, .ref kc, .int (-6), .int 0, .int 0, .ref kq, .ref km, .ref kd, .int 0, .ref ka, .ref kk])), (kq, .inl (cI, 6, .inl (fun _ => 0)))] := hD
  obtain rfl : r154 = 0 := hq154
  refine lv_istore (lv' := [(4, .int 0), (3, .int 2), (5, .int 5), (2, .int 0), (6, .int 0), (0, .ref o), (1, .int i0)]) hx hb dX3_leastByTwos_76 hl (by decide) rfl (fun ls hl => ?_)
  refine lv_iconst (v := 0) hx hb dX3_leastByTwos_78 (by decide) ?_
  refine lv_istore (lv' := [(5, .int 0), (4, .int 0), (3, .int 2), (2, .int 0), (6, .int 0), (0, .ref o), (1, .int i0)]) hx hb dX3_leastByTwos_79 hl (by decide) rfl (fun ls hl => ?_)
  refine lv_iload hx hb dX3_leastByTwos_81 (lv_at hl 0 rfl) ?_
  refine lv_iconst (v := 4) hx hb dX3_leastByTwos_83 (by decide) ?_
  refine lv_icmp_gt (tgt := 139) hx hb dX3_leastByTwos_84 (by decide) (fun c155 => absurd c155 (by decide)) (fun c155 => ?_)
  refine lv_iload hx hb dX3_leastByTwos_87 (lv_at hl 1 rfl) ?_
  refine lv_aload_n hx hb dX3_leastByTwos_89 rfl (lv_at hl 5 rfl) ?_
  refine va_get (D := (dC, dI)) (ci := 3) (v := .ref os) (C := RX3) (T := TX3) (N := 6) hx hb hts hin3 hown hK hP 4 rfl rfl 5 (by decide) hw2 (fun _ h9 => h9) rfl dX3_leastByTwos_90 ?_
  refine lv_iload hx hb dX3_leastByTwos_93 (lv_at hl 0 rfl) ?_
  refine va_iald hx hb hK hP 1 0 rfl rfl (vin (by decide) (by decide)) dX3_leastByTwos_95 ?_
  refine lv_topi (fun y156 e156 => ?_)
  obtain rfl : y156 = u44 0 := e156
  refine va_mmin hx hb (hml.trans hl.1.symm) hown hw3 hw4 hw5 hw6 (Nat.le_of_ble_eq_true rfl) (Nat.le_of_ble_eq_true rfl) (Nat.le_of_ble_eq_true rfl) (Nat.le_of_ble_eq_true rfl) dX3_leastByTwos_96 ?_
  refine lv_topi (fun x157 e157 => ?_)
  obtain rfl : x157 = 0 := e157.trans (mmin1 (by have z8 : (0 : Int32).toInt = 0 := rfl; omega))
  refine lv_istore (lv' := [(6, .int 0), (5, .int 0), (4, .int 0), (3, .int 2), (2, .int 0), (0, .ref o), (1, .int i0)]) hx hb dX3_leastByTwos_99 hl (by decide) rfl (fun ls hl => ?_)
  refine lv_aload_n hx hb dX3_leastByTwos_101 rfl (lv_at hl 5 rfl) ?_
  refine va_get (D := (dC, dI)) (ci := 3) (v := .ref os) (C := RX3) (T := TX3) (N := 6) hx hb hts hin3 hown hK hP 4 rfl rfl 5 (by decide) hw2 (fun _ h9 => h9) rfl dX3_leastByTwos_102 ?_
  refine lv_iload hx hb dX3_leastByTwos_105 (lv_at hl 1 rfl) ?_
  refine lv_dup2_11 hx hb dX3_leastByTwos_107 rfl rfl ?_
  refine va_iald hx hb hK hP 1 0 rfl rfl (vin (by decide) (by decide)) dX3_leastByTwos_108 ?_
  refine lv_topi (fun y158 e158 => ?_)
  obtain rfl : y158 = u44 0 := e158
  refine lv_iload hx hb dX3_leastByTwos_109 (lv_at hl 0 rfl) ?_
  refine lv_isub hx hb dX3_leastByTwos_111 ?_
  refine lv_topi (fun y159 e159 => ?_)
  obtain rfl : y159 = u44 0 := e159.trans (by simp)
  refine va_iast hx hb hK hP hD hS 1 0 rfl rfl (vin (by decide) (by decide)) dX3_leastByTwos_112 (fun H locs hP hD hS => ?_)
  replace hP : va_P (dC, dI) vwCl [(km, .inl (cI, 6, .inl (fun _ => 0))), (os, .inl (cI, 5, .inl (upd (upd (upd (upd (upd (upd (upd (upd (upd (upd (upd u44 0 (u44 0)) 1 (u44 1)) 2 (u44 2)) 3 (u44 3)) 4 (u44 4)) 0 (u44 0)) 1 (u44 1)) 2 (u44 2)) 3 (u44 3)) 4 (u44 4)) 0 (u44 0)))), (ks, .inl (cI, 5, .inl (upd (fun _ => 0) 0 800))), (kw, .inl (cI, 14, .inl (fun _ => 0))), (o, .inr (3, [.ref k, .ref op, .int 0, .ref oq, .ref ov, .ref os])), (op, .inl (cI, 6, .inl (upd (upd (upd (upd (upd (upd (fun _ => 0) 5 0) 4 0) 3 0) 2 0) 1 0) 0 0))), (k, .inr (0, [.ref ks, .ref kw, .ref kc, .int (-6), .int 0, .int 0, .ref kq, .ref km, .ref kd, .int 0, .ref ka, .ref kk])), (kq, .inl (cI, 6, .inl (fun _ => 0)))] H := hP
  replace hD : va_D A [(km, .inl (cI, 6, .inl (fun _ => 0))), (os, .inl (cI, 5, .inl (upd (upd (upd (upd (upd (upd (upd (upd (upd (upd (upd u44 0 (u44 0)) 1 (u44 1)) 2 (u44 2)) 3 (u44 3)) 4 (u44 4)) 0 (u44 0)) 1 (u44 1)) 2 (u44 2)) 3 (u44 3)) 4 (u44 4)) 0 (u44 0)))), (ks, .inl (cI, 5, .inl (upd (fun _ => 0) 0 800))), (kw, .inl (cI, 14, .inl (fun _ => 0))), (o, .inr (3, [.ref k, .ref op, .int 0, .ref oq, .ref ov, .ref os])), (op, .inl (cI, 6, .inl (upd (upd (upd (upd (upd (upd (fun _ => 0) 5 0) 4 0) 3 0) 2 0) 1 0) 0 0))), (k, .inr (0, [.ref ks, .ref kw, .ref kc, .int (-6), .int 0, .int 0, .ref kq, .ref km, .ref kd, .int 0, .ref ka, .ref kk])), (kq, .inl (cI, 6, .inl (fun _ => 0)))] := hD
  refine lv_iload hx hb dX3_leastByTwos_113 (lv_at hl 2 rfl) ?_
  refine lv_iload hx hb dX3_leastByTwos_115 (lv_at hl 0 rfl) ?_
  refine lv_isub hx hb dX3_leastByTwos_117 ?_
  refine lv_topi (fun x160 e160 => ?_)
  obtain rfl : x160 = 0 := e160.trans (by decide)
  refine lv_istore (lv' := [(4, .int 0), (6, .int 0), (5, .int 0), (3, .int 2), (2, .int 0), (0, .ref o), (1, .int i0)]) hx hb dX3_leastByTwos_118 hl (by decide) rfl (fun ls hl => ?_)
  refine lv_iload_n hx hb dX3_leastByTwos_120 rfl (lv_at hl 4 rfl) ?_
  refine lv_iload hx hb dX3_leastByTwos_121 (lv_at hl 1 rfl) ?_
  refine lv_bipush (v := 11) hx hb dX3_leastByTwos_123 (by decide) ?_
  refine lv_imul hx hb dX3_leastByTwos_125 ?_
  refine lv_topi (fun x161 e161 => ?_)
  obtain rfl : x161 = 0 := e161.trans (by decide)
  refine lv_iload_n hx hb dX3_leastByTwos_126 rfl (lv_at hl 3 rfl) ?_
  refine lv_imul hx hb dX3_leastByTwos_127 ?_
  refine lv_topi (fun x162 e162 => ?_)
  obtain rfl : x162 = 0 := e162.trans (by decide)
  refine lv_iload hx hb dX3_leastByTwos_128 (lv_at hl 2 rfl) ?_
  refine lv_imul hx hb dX3_leastByTwos_130 ?_
  refine lv_topi (fun x163 e163 => ?_)
  obtain rfl : x163 = 0 := e163.trans (by decide)
  refine lv_iadd hx hb dX3_leastByTwos_131 ?_
  refine lv_topi (fun x164 e164 => ?_)
  obtain rfl : x164 = 0 := e164.trans (by decide)
  refine lv_istore_n (lv' := [(2, .int 0), (4, .int 0), (6, .int 0), (5, .int 0), (3, .int 2), (0, .ref o), (1, .int i0)]) hx hb dX3_leastByTwos_132 rfl hl (by decide) rfl (fun ls hl => ?_)
  refine lv_iinc (v := 1) (lv' := [(5, .int 1), (2, .int 0), (4, .int 0), (6, .int 0), (3, .int 2), (0, .ref o), (1, .int i0)]) hx hb dX3_leastByTwos_133 hl (k := 3) rfl (by decide) (by decide) rfl (fun ls hl => ?_)
  refine lv_goto (tgt := 81) hx hb dX3_leastByTwos_136 (by decide) ?_
  refine lv_iload hx hb dX3_leastByTwos_81 (lv_at hl 0 rfl) ?_
  refine lv_iconst (v := 4) hx hb dX3_leastByTwos_83 (by decide) ?_
  refine lv_icmp_gt (tgt := 139) hx hb dX3_leastByTwos_84 (by decide) (fun c165 => absurd c165 (by decide)) (fun c165 => ?_)
  refine lv_iload hx hb dX3_leastByTwos_87 (lv_at hl 2 rfl) ?_
  refine lv_aload_n hx hb dX3_leastByTwos_89 rfl (lv_at hl 5 rfl) ?_
  refine va_get (D := (dC, dI)) (ci := 3) (v := .ref os) (C := RX3) (T := TX3) (N := 6) hx hb hts hin3 hown hK hP 4 rfl rfl 5 (by decide) hw2 (fun _ h9 => h9) rfl dX3_leastByTwos_90 ?_
  refine lv_iload hx hb dX3_leastByTwos_93 (lv_at hl 0 rfl) ?_
  refine va_iald hx hb hK hP 1 0 rfl rfl (vin (by decide) (by decide)) dX3_leastByTwos_95 ?_
  refine lv_topi (fun y166 e166 => ?_)
  obtain rfl : y166 = u44 1 := e166
  refine va_mmin hx hb (hml.trans hl.1.symm) hown hw3 hw4 hw5 hw6 (Nat.le_of_ble_eq_true rfl) (Nat.le_of_ble_eq_true rfl) (Nat.le_of_ble_eq_true rfl) (Nat.le_of_ble_eq_true rfl) dX3_leastByTwos_96 ?_
  refine lv_topi (fun x167 e167 => ?_)
  obtain rfl : x167 = 0 := e167.trans (mmin1 (by have z8 : (0 : Int32).toInt = 0 := rfl; omega))
  refine lv_istore (lv' := [(6, .int 0), (5, .int 1), (2, .int 0), (4, .int 0), (3, .int 2), (0, .ref o), (1, .int i0)]) hx hb dX3_leastByTwos_99 hl (by decide) rfl (fun ls hl => ?_)
  refine lv_aload_n hx hb dX3_leastByTwos_101 rfl (lv_at hl 5 rfl) ?_
  refine va_get (D := (dC, dI)) (ci := 3) (v := .ref os) (C := RX3) (T := TX3) (N := 6) hx hb hts hin3 hown hK hP 4 rfl rfl 5 (by decide) hw2 (fun _ h9 => h9) rfl dX3_leastByTwos_102 ?_
  refine lv_iload hx hb dX3_leastByTwos_105 (lv_at hl 1 rfl) ?_
  refine lv_dup2_11 hx hb dX3_leastByTwos_107 rfl rfl ?_
  refine va_iald hx hb hK hP 1 0 rfl rfl (vin (by decide) (by decide)) dX3_leastByTwos_108 ?_
  refine lv_topi (fun y168 e168 => ?_)
  obtain rfl : y168 = u44 1 := e168
  refine lv_iload hx hb dX3_leastByTwos_109 (lv_at hl 0 rfl) ?_
  refine lv_isub hx hb dX3_leastByTwos_111 ?_
  refine lv_topi (fun y169 e169 => ?_)
  obtain rfl : y169 = u44 1 := e169.trans (by simp)
  refine va_iast hx hb hK hP hD hS 1 0 rfl rfl (vin (by decide) (by decide)) dX3_leastByTwos_112 (fun H locs hP hD hS => ?_)
  replace hP : va_P (dC, dI) vwCl [(km, .inl (cI, 6, .inl (fun _ => 0))), (os, .inl (cI, 5, .inl (upd (upd (upd (upd (upd (upd (upd (upd (upd (upd (upd (upd u44 0 (u44 0)) 1 (u44 1)) 2 (u44 2)) 3 (u44 3)) 4 (u44 4)) 0 (u44 0)) 1 (u44 1)) 2 (u44 2)) 3 (u44 3)) 4 (u44 4)) 0 (u44 0)) 1 (u44 1)))), (ks, .inl (cI, 5, .inl (upd (fun _ => 0) 0 800))), (kw, .inl (cI, 14, .inl (fun _ => 0))), (o, .inr (3, [.ref k, .ref op, .int 0, .ref oq, .ref ov, .ref os])), (op, .inl (cI, 6, .inl (upd (upd (upd (upd (upd (upd (fun _ => 0) 5 0) 4 0) 3 0) 2 0) 1 0) 0 0))), (k, .inr (0, [.ref ks, .ref kw, .ref kc, .int (-6), .int 0, .int 0, .ref kq, .ref km, .ref kd, .int 0, .ref ka, .ref kk])), (kq, .inl (cI, 6, .inl (fun _ => 0)))] H := hP
  replace hD : va_D A [(km, .inl (cI, 6, .inl (fun _ => 0))), (os, .inl (cI, 5, .inl (upd (upd (upd (upd (upd (upd (upd (upd (upd (upd (upd (upd u44 0 (u44 0)) 1 (u44 1)) 2 (u44 2)) 3 (u44 3)) 4 (u44 4)) 0 (u44 0)) 1 (u44 1)) 2 (u44 2)) 3 (u44 3)) 4 (u44 4)) 0 (u44 0)) 1 (u44 1)))), (ks, .inl (cI, 5, .inl (upd (fun _ => 0) 0 800))), (kw, .inl (cI, 14, .inl (fun _ => 0))), (o, .inr (3, [.ref k, .ref op, .int 0, .ref oq, .ref ov, .ref os])), (op, .inl (cI, 6, .inl (upd (upd (upd (upd (upd (upd (fun _ => 0) 5 0) 4 0) 3 0) 2 0) 1 0) 0 0))), (k, .inr (0, [.ref ks, .ref kw, .ref kc, .int (-6), .int 0, .int 0, .ref kq, .ref km, .ref kd, .int 0, .ref ka, .ref kk])), (kq, .inl (cI, 6, .inl (fun _ => 0)))] := hD
  refine lv_iload hx hb dX3_leastByTwos_113 (lv_at hl 3 rfl) ?_
  refine lv_iload hx hb dX3_leastByTwos_115 (lv_at hl 0 rfl) ?_
  refine lv_isub hx hb dX3_leastByTwos_117 ?_
  refine lv_topi (fun x170 e170 => ?_)
  obtain rfl : x170 = 0 := e170.trans (by decide)
  refine lv_istore (lv' := [(4, .int 0), (6, .int 0), (5, .int 1), (2, .int 0), (3, .int 2), (0, .ref o), (1, .int i0)]) hx hb dX3_leastByTwos_118 hl (by decide) rfl (fun ls hl => ?_)
  refine lv_iload_n hx hb dX3_leastByTwos_120 rfl (lv_at hl 3 rfl) ?_
  refine lv_iload hx hb dX3_leastByTwos_121 (lv_at hl 1 rfl) ?_
  refine lv_bipush (v := 11) hx hb dX3_leastByTwos_123 (by decide) ?_
  refine lv_imul hx hb dX3_leastByTwos_125 ?_
  refine lv_topi (fun x171 e171 => ?_)
  obtain rfl : x171 = 0 := e171.trans (by decide)
  refine lv_iload_n hx hb dX3_leastByTwos_126 rfl (lv_at hl 4 rfl) ?_
  refine lv_imul hx hb dX3_leastByTwos_127 ?_
  refine lv_topi (fun x172 e172 => ?_)
  obtain rfl : x172 = 0 := e172.trans (by decide)
  refine lv_iload hx hb dX3_leastByTwos_128 (lv_at hl 2 rfl) ?_
  refine lv_imul hx hb dX3_leastByTwos_130 ?_
  refine lv_topi (fun x173 e173 => ?_)
  obtain rfl : x173 = 0 := e173.trans (by decide)
  refine lv_iadd hx hb dX3_leastByTwos_131 ?_
  refine lv_topi (fun x174 e174 => ?_)
  obtain rfl : x174 = 0 := e174.trans (by decide)
  refine lv_istore_n (lv' := [(2, .int 0), (4, .int 0), (6, .int 0), (5, .int 1), (3, .int 2), (0, .ref o), (1, .int i0)]) hx hb dX3_leastByTwos_132 rfl hl (by decide) rfl (fun ls hl => ?_)
  refine lv_iinc (v := 2) (lv' := [(5, .int 2), (2, .int 0), (4, .int 0), (6, .int 0), (3, .int 2), (0, .ref o), (1, .int i0)]) hx hb dX3_leastByTwos_133 hl (k := 3) rfl (by decide) (by decide) rfl (fun ls hl => ?_)
  refine lv_goto (tgt := 81) hx hb dX3_leastByTwos_136 (by decide) ?_
  refine lv_iload hx hb dX3_leastByTwos_81 (lv_at hl 0 rfl) ?_
  refine lv_iconst (v := 4) hx hb dX3_leastByTwos_83 (by decide) ?_
  refine lv_icmp_gt (tgt := 139) hx hb dX3_leastByTwos_84 (by decide) (fun c175 => absurd c175 (by decide)) (fun c175 => ?_)
  refine lv_iload hx hb dX3_leastByTwos_87 (lv_at hl 2 rfl) ?_
  refine lv_aload_n hx hb dX3_leastByTwos_89 rfl (lv_at hl 5 rfl) ?_
  refine va_get (D := (dC, dI)) (ci := 3) (v := .ref os) (C := RX3) (T := TX3) (N := 6) hx hb hts hin3 hown hK hP 4 rfl rfl 5 (by decide) hw2 (fun _ h9 => h9) rfl dX3_leastByTwos_90 ?_
  refine lv_iload hx hb dX3_leastByTwos_93 (lv_at hl 0 rfl) ?_
  refine va_iald hx hb hK hP 1 0 rfl rfl (vin (by decide) (by decide)) dX3_leastByTwos_95 ?_
  refine lv_topi (fun y176 e176 => ?_)
  obtain rfl : y176 = u44 2 := e176
  refine va_mmin hx hb (hml.trans hl.1.symm) hown hw3 hw4 hw5 hw6 (Nat.le_of_ble_eq_true rfl) (Nat.le_of_ble_eq_true rfl) (Nat.le_of_ble_eq_true rfl) (Nat.le_of_ble_eq_true rfl) dX3_leastByTwos_96 ?_
  refine lv_topi (fun x177 e177 => ?_)
  obtain rfl : x177 = 0 := e177.trans (mmin1 (by have z8 : (0 : Int32).toInt = 0 := rfl; omega))
  refine lv_istore (lv' := [(6, .int 0), (5, .int 2), (2, .int 0), (4, .int 0), (3, .int 2), (0, .ref o), (1, .int i0)]) hx hb dX3_leastByTwos_99 hl (by decide) rfl (fun ls hl => ?_)
  refine lv_aload_n hx hb dX3_leastByTwos_101 rfl (lv_at hl 5 rfl) ?_
  refine va_get (D := (dC, dI)) (ci := 3) (v := .ref os) (C := RX3) (T := TX3) (N := 6) hx hb hts hin3 hown hK hP 4 rfl rfl 5 (by decide) hw2 (fun _ h9 => h9) rfl dX3_leastByTwos_102 ?_
  refine lv_iload hx hb dX3_leastByTwos_105 (lv_at hl 1 rfl) ?_
  refine lv_dup2_11 hx hb dX3_leastByTwos_107 rfl rfl ?_
  refine va_iald hx hb hK hP 1 0 rfl rfl (vin (by decide) (by decide)) dX3_leastByTwos_108 ?_
  refine lv_topi (fun y178 e178 => ?_)
  obtain rfl : y178 = u44 2 := e178
  refine lv_iload hx hb dX3_leastByTwos_109 (lv_at hl 0 rfl) ?_
  refine lv_isub hx hb dX3_leastByTwos_111 ?_
  refine lv_topi (fun y179 e179 => ?_)
  obtain rfl : y179 = u44 2 := e179.trans (by simp)
  refine va_iast hx hb hK hP hD hS 1 0 rfl rfl (vin (by decide) (by decide)) dX3_leastByTwos_112 (fun H locs hP hD hS => ?_)
  replace hP : va_P (dC, dI) vwCl [(km, .inl (cI, 6, .inl (fun _ => 0))), (os, .inl (cI, 5, .inl (upd (upd (upd (upd (upd (upd (upd (upd (upd (upd (upd (upd (upd u44 0 (u44 0)) 1 (u44 1)) 2 (u44 2)) 3 (u44 3)) 4 (u44 4)) 0 (u44 0)) 1 (u44 1)) 2 (u44 2)) 3 (u44 3)) 4 (u44 4)) 0 (u44 0)) 1 (u44 1)) 2 (u44 2)))), (ks, .inl (cI, 5, .inl (upd (fun _ => 0) 0 800))), (kw, .inl (cI, 14, .inl (fun _ => 0))), (o, .inr (3, [.ref k, .ref op, .int 0, .ref oq, .ref ov, .ref os])), (op, .inl (cI, 6, .inl (upd (upd (upd (upd (upd (upd (fun _ => 0) 5 0) 4 0) 3 0) 2 0) 1 0) 0 0))), (k, .inr (0, [.ref ks, .ref kw, .ref kc, .int (-6), .int 0, .int 0, .ref kq, .ref km, .ref kd, .int 0, .ref ka, .ref kk])), (kq, .inl (cI, 6, .inl (fun _ => 0)))] H := hP
  replace hD : va_D A [(km, .inl (cI, 6, .inl (fun _ => 0))), (os, .inl (cI, 5, .inl (upd (upd (upd (upd (upd (upd (upd (upd (upd (upd (upd (upd (upd u44 0 (u44 0)) 1 (u44 1)) 2 (u44 2)) 3 (u44 3)) 4 (u44 4)) 0 (u44 0)) 1 (u44 1)) 2 (u44 2)) 3 (u44 3)) 4 (u44 4)) 0 (u44 0)) 1 (u44 1)) 2 (u44 2)))), (ks, .inl (cI, 5, .inl (upd (fun _ => 0) 0 800))), (kw, .inl (cI, 14, .inl (fun _ => 0))), (o, .inr (3, [.ref k, .ref op, .int 0, .ref oq, .ref ov, .ref os])), (op, .inl (cI, 6, .inl (upd (upd (upd (upd (upd (upd (fun _ => 0) 5 0) 4 0) 3 0) 2 0) 1 0) 0 0))), (k, .inr (0, [.ref ks, .ref kw, .ref kc, .int (-6), .int 0, .int 0, .ref kq, .ref km, .ref kd, .int 0, .ref ka, .ref kk])), (kq, .inl (cI, 6, .inl (fun _ => 0)))] := hD
  refine lv_iload hx hb dX3_leastByTwos_113 (lv_at hl 3 rfl) ?_
  refine lv_iload hx hb dX3_leastByTwos_115 (lv_at hl 0 rfl) ?_
  refine lv_isub hx hb dX3_leastByTwos_117 ?_
  refine lv_topi (fun x180 e180 => ?_)
  obtain rfl : x180 = 0 := e180.trans (by decide)
  refine lv_istore (lv' := [(4, .int 0), (6, .int 0), (5, .int 2), (2, .int 0), (3, .int 2), (0, .ref o), (1, .int i0)]) hx hb dX3_leastByTwos_118 hl (by decide) rfl (fun ls hl => ?_)
  refine lv_iload_n hx hb dX3_leastByTwos_120 rfl (lv_at hl 3 rfl) ?_
  refine lv_iload hx hb dX3_leastByTwos_121 (lv_at hl 1 rfl) ?_
  refine lv_bipush (v := 11) hx hb dX3_leastByTwos_123 (by decide) ?_
  refine lv_imul hx hb dX3_leastByTwos_125 ?_
  refine lv_topi (fun x181 e181 => ?_)
  obtain rfl : x181 = 0 := e181.trans (by decide)
  refine lv_iload_n hx hb dX3_leastByTwos_126 rfl (lv_at hl 4 rfl) ?_
  refine lv_imul hx hb dX3_leastByTwos_127 ?_
  refine lv_topi (fun x182 e182 => ?_)
  obtain rfl : x182 = 0 := e182.trans (by decide)
  refine lv_iload hx hb dX3_leastByTwos_128 (lv_at hl 2 rfl) ?_
  refine lv_imul hx hb dX3_leastByTwos_130 ?_
  refine lv_topi (fun x183 e183 => ?_)
  obtain rfl : x183 = 0 := e183.trans (by decide)
  refine lv_iadd hx hb dX3_leastByTwos_131 ?_
  refine lv_topi (fun x184 e184 => ?_)
  obtain rfl : x184 = 0 := e184.trans (by decide)
  refine lv_istore_n (lv' := [(2, .int 0), (4, .int 0), (6, .int 0), (5, .int 2), (3, .int 2), (0, .ref o), (1, .int i0)]) hx hb dX3_leastByTwos_132 rfl hl (by decide) rfl (fun ls hl => ?_)
  refine lv_iinc (v := 3) (lv' := [(5, .int 3), (2, .int 0), (4, .int 0), (6, .int 0), (3, .int 2), (0, .ref o), (1, .int i0)]) hx hb dX3_leastByTwos_133 hl (k := 3) rfl (by decide) (by decide) rfl (fun ls hl => ?_)
  refine lv_goto (tgt := 81) hx hb dX3_leastByTwos_136 (by decide) ?_
  refine lv_iload hx hb dX3_leastByTwos_81 (lv_at hl 0 rfl) ?_
  refine lv_iconst (v := 4) hx hb dX3_leastByTwos_83 (by decide) ?_
  refine lv_icmp_gt (tgt := 139) hx hb dX3_leastByTwos_84 (by decide) (fun c185 => absurd c185 (by decide)) (fun c185 => ?_)
  refine lv_iload hx hb dX3_leastByTwos_87 (lv_at hl 2 rfl) ?_
  refine lv_aload_n hx hb dX3_leastByTwos_89 rfl (lv_at hl 5 rfl) ?_
  refine va_get (D := (dC, dI)) (ci := 3) (v := .ref os) (C := RX3) (T := TX3) (N := 6) hx hb hts hin3 hown hK hP 4 rfl rfl 5 (by decide) hw2 (fun _ h9 => h9) rfl dX3_leastByTwos_90 ?_
  refine lv_iload hx hb dX3_leastByTwos_93 (lv_at hl 0 rfl) ?_
  refine va_iald hx hb hK hP 1 0 rfl rfl (vin (by decide) (by decide)) dX3_leastByTwos_95 ?_
  refine lv_topi (fun y186 e186 => ?_)
  obtain rfl : y186 = u44 3 := e186
  refine va_mmin hx hb (hml.trans hl.1.symm) hown hw3 hw4 hw5 hw6 (Nat.le_of_ble_eq_true rfl) (Nat.le_of_ble_eq_true rfl) (Nat.le_of_ble_eq_true rfl) (Nat.le_of_ble_eq_true rfl) dX3_leastByTwos_96 ?_
  refine lv_topi (fun x187 e187 => ?_)
  obtain rfl : x187 = 0 := e187.trans (mmin1 (by have z8 : (0 : Int32).toInt = 0 := rfl; omega))
  refine lv_istore (lv' := [(6, .int 0), (5, .int 3), (2, .int 0), (4, .int 0), (3, .int 2), (0, .ref o), (1, .int i0)]) hx hb dX3_leastByTwos_99 hl (by decide) rfl (fun ls hl => ?_)
  refine lv_aload_n hx hb dX3_leastByTwos_101 rfl (lv_at hl 5 rfl) ?_
  refine va_get (D := (dC, dI)) (ci := 3) (v := .ref os) (C := RX3) (T := TX3) (N := 6) hx hb hts hin3 hown hK hP 4 rfl rfl 5 (by decide) hw2 (fun _ h9 => h9) rfl dX3_leastByTwos_102 ?_
  refine lv_iload hx hb dX3_leastByTwos_105 (lv_at hl 1 rfl) ?_
  refine lv_dup2_11 hx hb dX3_leastByTwos_107 rfl rfl ?_
  refine va_iald hx hb hK hP 1 0 rfl rfl (vin (by decide) (by decide)) dX3_leastByTwos_108 ?_
  refine lv_topi (fun y188 e188 => ?_)
  obtain rfl : y188 = u44 3 := e188
  refine lv_iload hx hb dX3_leastByTwos_109 (lv_at hl 0 rfl) ?_
  refine lv_isub hx hb dX3_leastByTwos_111 ?_
  refine lv_topi (fun y189 e189 => ?_)
  obtain rfl : y189 = u44 3 := e189.trans (by simp)
  refine va_iast hx hb hK hP hD hS 1 0 rfl rfl (vin (by decide) (by decide)) dX3_leastByTwos_112 (fun H locs hP hD hS => ?_)
  replace hP : va_P (dC, dI) vwCl [(km, .inl (cI, 6, .inl (fun _ => 0))), (os, .inl (cI, 5, .inl (upd (upd (upd (upd (upd (upd (upd (upd (upd (upd (upd (upd (upd (upd u44 0 (u44 0)) 1 (u44 1)) 2 (u44 2)) 3 (u44 3)) 4 (u44 4)) 0 (u44 0)) 1 (u44 1)) 2 (u44 2)) 3 (u44 3)) 4 (u44 4)) 0 (u44 0)) 1 (u44 1)) 2 (u44 2)) 3 (u44 3)))), (ks, .inl (cI, 5, .inl (upd (fun _ => 0) 0 800))), (kw, .inl (cI, 14, .inl (fun _ => 0))), (o, .inr (3, [.ref k, .ref op, .int 0, .ref oq, .ref ov, .ref os])), (op, .inl (cI, 6, .inl (upd (upd (upd (upd (upd (upd (fun _ => 0) 5 0) 4 0) 3 0) 2 0) 1 0) 0 0))), (k, .inr (0, [.ref ks, .ref kw, .ref kc, .int (-6), .int 0, .int 0, .ref kq, .ref km, .ref kd, .int 0, .ref ka, .ref kk])), (kq, .inl (cI, 6, .inl (fun _ => 0)))] H := hP
  replace hD : va_D A [(km, .inl (cI, 6, .inl (fun _ => 0))), (os, .inl (cI, 5, .inl (upd (upd (upd (upd (upd (upd (upd (upd (upd (upd (upd (upd (upd (upd u44 0 (u44 0)) 1 (u44 1)) 2 (u44 2)) 3 (u44 3)) 4 (u44 4)) 0 (u44 0)) 1 (u44 1)) 2 (u44 2)) 3 (u44 3)) 4 (u44 4)) 0 (u44 0)) 1 (u44 1)) 2 (u44 2)) 3 (u44 3)))), (ks, .inl (cI, 5, .inl (upd (fun _ => 0) 0 800))), (kw, .inl (cI, 14, .inl (fun _ => 0))), (o, .inr (3, [.ref k, .ref op, .int 0, .ref oq, .ref ov, .ref os])), (op, .inl (cI, 6, .inl (upd (upd (upd (upd (upd (upd (fun _ => 0) 5 0) 4 0) 3 0) 2 0) 1 0) 0 0))), (k, .inr (0, [.ref ks, .ref kw, .ref kc, .int (-6), .int 0, .int 0, .ref kq, .ref km, .ref kd, .int 0, .ref ka, .ref kk])), (kq, .inl (cI, 6, .inl (fun _ => 0)))] := hD
  refine lv_iload hx hb dX3_leastByTwos_113 (lv_at hl 3 rfl) ?_
  refine lv_iload hx hb dX3_leastByTwos_115 (lv_at hl 0 rfl) ?_
  refine lv_isub hx hb dX3_leastByTwos_117 ?_
  refine lv_topi (fun x190 e190 => ?_)
  obtain rfl : x190 = 0 := e190.trans (by decide)
  refine lv_istore (lv' := [(4, .int 0), (6, .int 0), (5, .int 3), (2, .int 0), (3, .int 2), (0, .ref o), (1, .int i0)]) hx hb dX3_leastByTwos_118 hl (by decide) rfl (fun ls hl => ?_)
  refine lv_iload_n hx hb dX3_leastByTwos_120 rfl (lv_at hl 3 rfl) ?_
  refine lv_iload hx hb dX3_leastByTwos_121 (lv_at hl 1 rfl) ?_
  refine lv_bipush (v := 11) hx hb dX3_leastByTwos_123 (by decide) ?_
  refine lv_imul hx hb dX3_leastByTwos_125 ?_
  refine lv_topi (fun x191 e191 => ?_)
  obtain rfl : x191 = 0 := e191.trans (by decide)
  refine lv_iload_n hx hb dX3_leastByTwos_126 rfl (lv_at hl 4 rfl) ?_
  refine lv_imul hx hb dX3_leastByTwos_127 ?_
  refine lv_topi (fun x192 e192 => ?_)
  obtain rfl : x192 = 0 := e192.trans (by decide)
  refine lv_iload hx hb dX3_leastByTwos_128 (lv_at hl 2 rfl) ?_
  refine lv_imul hx hb dX3_leastByTwos_130 ?_
  refine lv_topi (fun x193 e193 => ?_)
  obtain rfl : x193 = 0 := e193.trans (by decide)
  refine lv_iadd hx hb dX3_leastByTwos_131 ?_
  refine lv_topi (fun x194 e194 => ?_)
  obtain rfl : x194 = 0 := e194.trans (by decide)
  refine lv_istore_n (lv' := [(2, .int 0), (4, .int 0), (6, .int 0), (5, .int 3), (3, .int 2), (0, .ref o), (1, .int i0)]) hx hb dX3_leastByTwos_132 rfl hl (by decide) rfl (fun ls hl => ?_)
  refine lv_iinc (v := 4) (lv' := [(5, .int 4), (2, .int 0), (4, .int 0), (6, .int 0), (3, .int 2), (0, .ref o), (1, .int i0)]) hx hb dX3_leastByTwos_133 hl (k := 3) rfl (by decide) (by decide) rfl (fun ls hl => ?_)
  refine lv_goto (tgt := 81) hx hb dX3_leastByTwos_136 (by decide) ?_
  refine lv_iload hx hb dX3_leastByTwos_81 (lv_at hl 0 rfl) ?_
  refine lv_iconst (v := 4) hx hb dX3_leastByTwos_83 (by decide) ?_
  refine lv_icmp_gt (tgt := 139) hx hb dX3_leastByTwos_84 (by decide) (fun c195 => absurd c195 (by decide)) (fun c195 => ?_)
  refine lv_iload hx hb dX3_leastByTwos_87 (lv_at hl 2 rfl) ?_
  refine lv_aload_n hx hb dX3_leastByTwos_89 rfl (lv_at hl 5 rfl) ?_
  refine va_get (D := (dC, dI)) (ci := 3) (v := .ref os) (C := RX3) (T := TX3) (N := 6) hx hb hts hin3 hown hK hP 4 rfl rfl 5 (by decide) hw2 (fun _ h9 => h9) rfl dX3_leastByTwos_90 ?_
  refine lv_iload hx hb dX3_leastByTwos_93 (lv_at hl 0 rfl) ?_
  refine va_iald hx hb hK hP 1 0 rfl rfl (vin (by decide) (by decide)) dX3_leastByTwos_95 ?_
  refine lv_topi (fun y196 e196 => ?_)
  obtain rfl : y196 = u44 4 := e196
  refine va_mmin hx hb (hml.trans hl.1.symm) hown hw3 hw4 hw5 hw6 (Nat.le_of_ble_eq_true rfl) (Nat.le_of_ble_eq_true rfl) (Nat.le_of_ble_eq_true rfl) (Nat.le_of_ble_eq_true rfl) dX3_leastByTwos_96 ?_
  refine lv_topi (fun x197 e197 => ?_)
  obtain rfl : x197 = 0 := e197.trans (mmin1 (by have z8 : (0 : Int32).toInt = 0 := rfl; omega))
  refine lv_istore (lv' := [(6, .int 0), (5, .int 4), (2, .int 0), (4, .int 0), (3, .int 2), (0, .ref o), (1, .int i0)]) hx hb dX3_leastByTwos_99 hl (by decide) rfl (fun ls hl => ?_)
  refine lv_aload_n hx hb dX3_leastByTwos_101 rfl (lv_at hl 5 rfl) ?_
  refine va_get (D := (dC, dI)) (ci := 3) (v := .ref os) (C := RX3) (T := TX3) (N := 6) hx hb hts hin3 hown hK hP 4 rfl rfl 5 (by decide) hw2 (fun _ h9 => h9) rfl dX3_leastByTwos_102 ?_
  refine lv_iload hx hb dX3_leastByTwos_105 (lv_at hl 1 rfl) ?_
  refine lv_dup2_11 hx hb dX3_leastByTwos_107 rfl rfl ?_
  refine va_iald hx hb hK hP 1 0 rfl rfl (vin (by decide) (by decide)) dX3_leastByTwos_108 ?_
  refine lv_topi (fun y198 e198 => ?_)
  obtain rfl : y198 = u44 4 := e198
  refine lv_iload hx hb dX3_leastByTwos_109 (lv_at hl 0 rfl) ?_
  refine lv_isub hx hb dX3_leastByTwos_111 ?_
  refine lv_topi (fun y199 e199 => ?_)
  obtain rfl : y199 = u44 4 := e199.trans (by simp)
  refine va_iast hx hb hK hP hD hS 1 0 rfl rfl (vin (by decide) (by decide)) dX3_leastByTwos_112 (fun H locs hP hD hS => ?_)
  replace hP : va_P (dC, dI) vwCl [(km, .inl (cI, 6, .inl (fun _ => 0))), (os, .inl (cI, 5, .inl (upd (upd (upd (upd (upd (upd (upd (upd (upd (upd (upd (upd (upd (upd (upd u44 0 (u44 0)) 1 (u44 1)) 2 (u44 2)) 3 (u44 3)) 4 (u44 4)) 0 (u44 0)) 1 (u44 1)) 2 (u44 2)) 3 (u44 3)) 4 (u44 4)) 0 (u44 0)) 1 (u44 1)) 2 (u44 2)) 3 (u44 3)) 4 (u44 4)))), (ks, .inl (cI, 5, .inl (upd (fun _ => 0) 0 800))), (kw, .inl (cI, 14, .inl (fun _ => 0))), (o, .inr (3, [.ref k, .ref op, .int 0, .ref oq, .ref ov, .ref os])), (op, .inl (cI, 6, .inl (upd (upd (upd (upd (upd (upd (fun _ => 0) 5 0) 4 0) 3 0) 2 0) 1 0) 0 0))), (k, .inr (0, [.ref ks, .ref kw, .ref kc, .int (-6), .int 0, .int 0, .ref kq, .ref km, .ref kd, .int 0, .ref ka, .ref kk])), (kq, .inl (cI, 6, .inl (fun _ => 0)))] H := hP
  replace hD : va_D A [(km, .inl (cI, 6, .inl (fun _ => 0))), (os, .inl (cI, 5, .inl (upd (upd (upd (upd (upd (upd (upd (upd (upd (upd (upd (upd (upd (upd (upd u44 0 (u44 0)) 1 (u44 1)) 2 (u44 2)) 3 (u44 3)) 4 (u44 4)) 0 (u44 0)) 1 (u44 1)) 2 (u44 2)) 3 (u44 3)) 4 (u44 4)) 0 (u44 0)) 1 (u44 1)) 2 (u44 2)) 3 (u44 3)) 4 (u44 4)))), (ks, .inl (cI, 5, .inl (upd (fun _ => 0) 0 800))), (kw, .inl (cI, 14, .inl (fun _ => 0))), (o, .inr (3, [.ref k, .ref op, .int 0, .ref oq, .ref ov, .ref os])), (op, .inl (cI, 6, .inl (upd (upd (upd (upd (upd (upd (fun _ => 0) 5 0) 4 0) 3 0) 2 0) 1 0) 0 0))), (k, .inr (0, [.ref ks, .ref kw, .ref kc, .int (-6), .int 0, .int 0, .ref kq, .ref km, .ref kd, .int 0, .ref ka, .ref kk])), (kq, .inl (cI, 6, .inl (fun _ => 0)))] := hD
  refine lv_iload hx hb dX3_leastByTwos_113 (lv_at hl 3 rfl) ?_
  refine lv_iload hx hb dX3_leastByTwos_115 (lv_at hl 0 rfl) ?_
  refine lv_isub hx hb dX3_leastByTwos_117 ?_
  refine lv_topi (fun x200 e200 => ?_)
  obtain rfl : x200 = 0 := e200.trans (by decide)
  refine lv_istore (lv' := [(4, .int 0), (6, .int 0), (5, .int 4), (2, .int 0), (3, .int 2), (0, .ref o), (1, .int i0)]) hx hb dX3_leastByTwos_118 hl (by decide) rfl (fun ls hl => ?_)
  refine lv_iload_n hx hb dX3_leastByTwos_120 rfl (lv_at hl 3 rfl) ?_
  refine lv_iload hx hb dX3_leastByTwos_121 (lv_at hl 1 rfl) ?_
  refine lv_bipush (v := 11) hx hb dX3_leastByTwos_123 (by decide) ?_
  refine lv_imul hx hb dX3_leastByTwos_125 ?_
  refine lv_topi (fun x201 e201 => ?_)
  obtain rfl : x201 = 0 := e201.trans (by decide)
  refine lv_iload_n hx hb dX3_leastByTwos_126 rfl (lv_at hl 4 rfl) ?_
  refine lv_imul hx hb dX3_leastByTwos_127 ?_
  refine lv_topi (fun x202 e202 => ?_)
  obtain rfl : x202 = 0 := e202.trans (by decide)
  refine lv_iload hx hb dX3_leastByTwos_128 (lv_at hl 2 rfl) ?_
  refine lv_imul hx hb dX3_leastByTwos_130 ?_
  refine lv_topi (fun x203 e203 => ?_)
  obtain rfl : x203 = 0 := e203.trans (by decide)
  refine lv_iadd hx hb dX3_leastByTwos_131 ?_
  refine lv_topi (fun x204 e204 => ?_)
  obtain rfl : x204 = 0 := e204.trans (by decide)
  refine lv_istore_n (lv' := [(2, .int 0), (4, .int 0), (6, .int 0), (5, .int 4), (3, .int 2), (0, .ref o), (1, .int i0)]) hx hb dX3_leastByTwos_132 rfl hl (by decide) rfl (fun ls hl => ?_)
  refine lv_iinc (v := 5) (lv' := [(5, .int 5), (2, .int 0), (4, .int 0), (6, .int 0), (3, .int 2), (0, .ref o), (1, .int i0)]) hx hb dX3_leastByTwos_133 hl (k := 3) rfl (by decide) (by decide) rfl (fun ls hl => ?_)
  refine lv_goto (tgt := 81) hx hb dX3_leastByTwos_136 (by decide) ?_
  refine lv_iload hx hb dX3_leastByTwos_81 (lv_at hl 0 rfl) ?_
  refine lv_iconst (v := 4) hx hb dX3_leastByTwos_83 (by decide) ?_
  refine lv_icmp_gt (tgt := 139) hx hb dX3_leastByTwos_84 (by decide) (fun c205 => ?_) (fun c205 => absurd c205 (by decide))
  refine lv_iload hx hb dX3_leastByTwos_139 (lv_at hl 2 rfl) ?_
  refine lv_if_le (tgt := 147) hx hb dX3_leastByTwos_141 (by decide) (fun c206 => ?_) (fun c206 => absurd c206 (by decide))
  refine lv_iinc (v := 1) (lv' := [(3, .int 1), (5, .int 5), (2, .int 0), (4, .int 0), (6, .int 0), (0, .ref o), (1, .int i0)]) hx hb dX3_leastByTwos_147 hl (k := 4) rfl (by decide) (by decide) rfl (fun ls hl => ?_)
  refine lv_goto (tgt := 66) hx hb dX3_leastByTwos_150 (by decide) ?_
  refine lv_iload_n hx hb dX3_leastByTwos_66 rfl (lv_at hl 0 rfl) ?_
  refine lv_iconst (v := 1) hx hb dX3_leastByTwos_67 (by decide) ?_
  refine lv_icmp_lt (tgt := 153) hx hb dX3_leastByTwos_68 (by decide) (fun c207 => absurd c207 (by decide)) (fun c207 => ?_)
  refine lv_aload_n hx hb dX3_leastByTwos_71 rfl (lv_at hl 5 rfl) ?_
  refine lv_iload_n hx hb dX3_leastByTwos_72 rfl (lv_at hl 0 rfl) ?_
  refine mx_i (wr := [(km, .inl (cI, 6, .inl (fun _ => 0))), (os, .inl (cI, 5, .inl (upd (upd (upd (upd (upd (upd (upd (upd (upd (upd (upd (upd (upd (upd (upd u44 0 (u44 0)) 1 (u44 1)) 2 (u44 2)) 3 (u44 3)) 4 (u44 4)) 0 (u44 0)) 1 (u44 1)) 2 (u44 2)) 3 (u44 3)) 4 (u44 4)) 0 (u44 0)) 1 (u44 1)) 2 (u44 2)) 3 (u44 3)) 4 (u44 4)))), (ks, .inl (cI, 5, .inl (upd (fun _ => 0) 0 800))), (kw, .inl (cI, 14, .inl (fun _ => 0)))]) (va_runV (As := [.int 1]) (rest := []) ⟨hx, hb, hml, hown, hts⟩ (c_X3_portionsOf_1 l dC dI cI cZ cK tS aK aV o k ks kw kc kq km kd ka kk op oq ov os H.size) (cwV 1 hts (gw_v (fun _ h9 => List.mem_cons_of_mem _ h9) wm_199 wm_200 wm_201 wm_146 wm_202) rfl rfl rfl (by decide +kernel) ⟨Nat.le_of_ble_eq_true rfl, Nat.le_of_ble_eq_true rfl⟩) (mx_preV (C := RX3) (T := TX3) (N := 6) (ci := 3) hKx hP hD hS hA [4, 5, 6, 7] (by decide) rfl rfl rfl) rfl rfl hl.1 rfl (lv_room (Nat.le_of_ble_eq_true rfl)) dX3_leastByTwos_73 ⟨Nat.le_of_ble_eq_true rfl, Nat.le_of_ble_eq_true rfl⟩) hP hD hS hA [4, 5, 6, 7] [0, 1, 2, 3] rfl rfl (by decide) (by decide) (fun r208 u208 H locs hq208 hP hD hS => ?_)
  replace hP : va_P (dC, dI) vwCl [(km, .inl (cI, 6, .inl (fun _ => 0))), (os, .inl (cI, 5, .inl (upd (upd (upd (upd (upd (upd (upd (upd (upd (upd (upd (upd (upd (upd (upd u44 0 (u44 0)) 1 (u44 1)) 2 (u44 2)) 3 (u44 3)) 4 (u44 4)) 0 (u44 0)) 1 (u44 1)) 2 (u44 2)) 3 (u44 3)) 4 (u44 4)) 0 (u44 0)) 1 (u44 1)) 2 (u44 2)) 3 (u44 3)) 4 (u44 4)))), (ks, .inl (cI, 5, .inl (upd (fun _ => 0) 0 800))), (kw, .inl (cI, 14, .inl (fun _ => 0))), (o, .inr (3, [.ref k, .ref op, .int 0, .ref oq, .ref ov, .ref os])), (op, .inl (cI, 6, .inl (upd (upd (upd (upd (upd (upd (fun _ => 0) 5 0) 4 0) 3 0) 2 0) 1 0) 0 0))), (k, .inr (0, [.ref ks, .ref kw, .ref kc, .int (-6), .int 0, .int 0, .ref kq, .ref km, .ref kd, .int 0, .ref ka, .ref kk])), (kq, .inl (cI, 6, .inl (fun _ => 0)))] H := hP
  replace hD : va_D A [(km, .inl (cI, 6, .inl (fun _ => 0))), (os, .inl (cI, 5, .inl (upd (upd (upd (upd (upd (upd (upd (upd (upd (upd (upd (upd (upd (upd (upd u44 0 (u44 0)) 1 (u44 1)) 2 (u44 2)) 3 (u44 3)) 4 (u44 4)) 0 (u44 0)) 1 (u44 1)) 2 (u44 2)) 3 (u44 3)) 4 (u44 4)) 0 (u44 0)) 1 (u44 1)) 2 (u44 2)) 3 (u44 3)) 4 (u44 4)))), (ks, .inl (cI, 5, .inl (upd (fun _ => 0) 0 800))), (kw, .inl (cI, 14, .inl (fun _ => 0))), (o, .inr (3, [.ref k, .ref op, .int 0, .ref oq, .ref ov, .ref os])), (op, .inl (cI, 6, .inl (upd (upd (upd (upd (upd (upd (fun _ => 0) 5 0) 4 0) 3 0) 2 0) 1 0) 0 0))), (k, .inr (0, [.ref ks, .ref kw, .ref kc, .int (-6), .int 0, .int 0, .ref kq, .ref km, .ref kd, .int 0, .ref ka, .ref kk])), (kq, .inl (cI, 6, .inl (fun _ => 0)))] := hD
  obtain rfl : r208 = 0 := hq208
  refine lv_istore (lv' := [(4, .int 0), (3, .int 1), (5, .int 5), (2, .int 0), (6, .int 0), (0, .ref o), (1, .int i0)]) hx hb dX3_leastByTwos_76 hl (by decide) rfl (fun ls hl => ?_)
  refine lv_iconst (v := 0) hx hb dX3_leastByTwos_78 (by decide) ?_
  refine lv_istore (lv' := [(5, .int 0), (4, .int 0), (3, .int 1), (2, .int 0), (6, .int 0), (0, .ref o), (1, .int i0)]) hx hb dX3_leastByTwos_79 hl (by decide) rfl (fun ls hl => ?_)
  refine lv_iload hx hb dX3_leastByTwos_81 (lv_at hl 0 rfl) ?_
  refine lv_iconst (v := 4) hx hb dX3_leastByTwos_83 (by decide) ?_
  refine lv_icmp_gt (tgt := 139) hx hb dX3_leastByTwos_84 (by decide) (fun c209 => absurd c209 (by decide)) (fun c209 => ?_)
  refine lv_iload hx hb dX3_leastByTwos_87 (lv_at hl 1 rfl) ?_
  refine lv_aload_n hx hb dX3_leastByTwos_89 rfl (lv_at hl 5 rfl) ?_
  refine va_get (D := (dC, dI)) (ci := 3) (v := .ref os) (C := RX3) (T := TX3) (N := 6) hx hb hts hin3 hown hK hP 4 rfl rfl 5 (by decide) hw2 (fun _ h9 => h9) rfl dX3_leastByTwos_90 ?_
  refine lv_iload hx hb dX3_leastByTwos_93 (lv_at hl 0 rfl) ?_
  refine va_iald hx hb hK hP 1 0 rfl rfl (vin (by decide) (by decide)) dX3_leastByTwos_95 ?_
  refine lv_topi (fun y210 e210 => ?_)
  obtain rfl : y210 = u44 0 := e210
  refine va_mmin hx hb (hml.trans hl.1.symm) hown hw3 hw4 hw5 hw6 (Nat.le_of_ble_eq_true rfl) (Nat.le_of_ble_eq_true rfl) (Nat.le_of_ble_eq_true rfl) (Nat.le_of_ble_eq_true rfl) dX3_leastByTwos_96 ?_
  refine lv_topi (fun x211 e211 => ?_)
  obtain rfl : x211 = 0 := e211.trans (mmin1 (by have z8 : (0 : Int32).toInt = 0 := rfl; omega))
  refine lv_istore (lv' := [(6, .int 0), (5, .int 0), (4, .int 0), (3, .int 1), (2, .int 0), (0, .ref o), (1, .int i0)]) hx hb dX3_leastByTwos_99 hl (by decide) rfl (fun ls hl => ?_)
  refine lv_aload_n hx hb dX3_leastByTwos_101 rfl (lv_at hl 5 rfl) ?_
  refine va_get (D := (dC, dI)) (ci := 3) (v := .ref os) (C := RX3) (T := TX3) (N := 6) hx hb hts hin3 hown hK hP 4 rfl rfl 5 (by decide) hw2 (fun _ h9 => h9) rfl dX3_leastByTwos_102 ?_
  refine lv_iload hx hb dX3_leastByTwos_105 (lv_at hl 1 rfl) ?_
  refine lv_dup2_11 hx hb dX3_leastByTwos_107 rfl rfl ?_
  refine va_iald hx hb hK hP 1 0 rfl rfl (vin (by decide) (by decide)) dX3_leastByTwos_108 ?_
  refine lv_topi (fun y212 e212 => ?_)
  obtain rfl : y212 = u44 0 := e212
  refine lv_iload hx hb dX3_leastByTwos_109 (lv_at hl 0 rfl) ?_
  refine lv_isub hx hb dX3_leastByTwos_111 ?_
  refine lv_topi (fun y213 e213 => ?_)
  obtain rfl : y213 = u44 0 := e213.trans (by simp)
  refine va_iast hx hb hK hP hD hS 1 0 rfl rfl (vin (by decide) (by decide)) dX3_leastByTwos_112 (fun H locs hP hD hS => ?_)
  replace hP : va_P (dC, dI) vwCl [(km, .inl (cI, 6, .inl (fun _ => 0))), (os, .inl (cI, 5, .inl (upd (upd (upd (upd (upd (upd (upd (upd (upd (upd (upd (upd (upd (upd (upd (upd u44 0 (u44 0)) 1 (u44 1)) 2 (u44 2)) 3 (u44 3)) 4 (u44 4)) 0 (u44 0)) 1 (u44 1)) 2 (u44 2)) 3 (u44 3)) 4 (u44 4)) 0 (u44 0)) 1 (u44 1)) 2 (u44 2)) 3 (u44 3)) 4 (u44 4)) 0 (u44 0)))), (ks, .inl (cI, 5, .inl (upd (fun _ => 0) 0 800))), (kw, .inl (cI, 14, .inl (fun _ => 0))), (o, .inr (3, [.ref k, .ref op, .int 0, .ref oq, .ref ov, .ref os])), (op, .inl (cI, 6, .inl (upd (upd (upd (upd (upd (upd (fun _ => 0) 5 0) 4 0) 3 0) 2 0) 1 0) 0 0))), (k, .inr (0, [.ref ks, .ref kw, .ref kc, .int (-6), .int 0, .int 0, .ref kq, .ref km, .ref kd, .int 0, .ref ka, .ref kk])), (kq, .inl (cI, 6, .inl (fun _ => 0)))] H := hP
  replace hD : va_D A [(km, .inl (cI, 6, .inl (fun _ => 0))), (os, .inl (cI, 5, .inl (upd (upd (upd (upd (upd (upd (upd (upd (upd (upd (upd (upd (upd (upd (upd (upd u44 0 (u44 0)) 1 (u44 1)) 2 (u44 2)) 3 (u44 3)) 4 (u44 4)) 0 (u44 0)) 1 (u44 1)) 2 (u44 2)) 3 (u44 3)) 4 (u44 4)) 0 (u44 0)) 1 (u44 1)) 2 (u44 2)) 3 (u44 3)) 4 (u44 4)) 0 (u44 0)))), (ks, .inl (cI, 5, .inl (upd (fun _ => 0) 0 800))), (kw, .inl (cI, 14, .inl (fun _ => 0))), (o, .inr (3, [.ref k, .ref op, .int 0, .ref oq, .ref ov, .ref os])), (op, .inl (cI, 6, .inl (upd (upd (upd (upd (upd (upd (fun _ => 0) 5 0) 4 0) 3 0) 2 0) 1 0) 0 0))), (k, .inr (0, [.ref ks, .ref kw, .ref kc, .int (-6), .int 0, .int 0, .ref kq, .ref km, .ref kd, .int 0, .ref ka, .ref kk])), (kq, .inl (cI, 6, .inl (fun _ => 0)))] := hD
  refine lv_iload hx hb dX3_leastByTwos_113 (lv_at hl 2 rfl) ?_
  refine lv_iload hx hb dX3_leastByTwos_115 (lv_at hl 0 rfl) ?_
  refine lv_isub hx hb dX3_leastByTwos_117 ?_
  refine lv_topi (fun x214 e214 => ?_)
  obtain rfl : x214 = 0 := e214.trans (by decide)
  refine lv_istore (lv' := [(4, .int 0), (6, .int 0), (5, .int 0), (3, .int 1), (2, .int 0), (0, .ref o), (1, .int i0)]) hx hb dX3_leastByTwos_118 hl (by decide) rfl (fun ls hl => ?_)
  refine lv_iload_n hx hb dX3_leastByTwos_120 rfl (lv_at hl 4 rfl) ?_
  refine lv_iload hx hb dX3_leastByTwos_121 (lv_at hl 1 rfl) ?_
  refine lv_bipush (v := 11) hx hb dX3_leastByTwos_123 (by decide) ?_
  refine lv_imul hx hb dX3_leastByTwos_125 ?_
  refine lv_topi (fun x215 e215 => ?_)
  obtain rfl : x215 = 0 := e215.trans (by decide)
  refine lv_iload_n hx hb dX3_leastByTwos_126 rfl (lv_at hl 3 rfl) ?_
  refine lv_imul hx hb dX3_leastByTwos_127 ?_
  refine lv_topi (fun x216 e216 => ?_)
  obtain rfl : x216 = 0 := e216.trans (by decide)
  refine lv_iload hx hb dX3_leastByTwos_128 (lv_at hl 2 rfl) ?_
  refine lv_imul hx hb dX3_leastByTwos_130 ?_
  refine lv_topi (fun x217 e217 => ?_)
  obtain rfl : x217 = 0 := e217.trans (by decide)
  refine lv_iadd hx hb dX3_leastByTwos_131 ?_
  refine lv_topi (fun x218 e218 => ?_)
  obtain rfl : x218 = 0 := e218.trans (by decide)
  refine lv_istore_n (lv' := [(2, .int 0), (4, .int 0), (6, .int 0), (5, .int 0), (3, .int 1), (0, .ref o), (1, .int i0)]) hx hb dX3_leastByTwos_132 rfl hl (by decide) rfl (fun ls hl => ?_)
  refine lv_iinc (v := 1) (lv' := [(5, .int 1), (2, .int 0), (4, .int 0), (6, .int 0), (3, .int 1), (0, .ref o), (1, .int i0)]) hx hb dX3_leastByTwos_133 hl (k := 3) rfl (by decide) (by decide) rfl (fun ls hl => ?_)
  refine lv_goto (tgt := 81) hx hb dX3_leastByTwos_136 (by decide) ?_
  refine lv_iload hx hb dX3_leastByTwos_81 (lv_at hl 0 rfl) ?_
  refine lv_iconst (v := 4) hx hb dX3_leastByTwos_83 (by decide) ?_
  refine lv_icmp_gt (tgt := 139) hx hb dX3_leastByTwos_84 (by decide) (fun c219 => absurd c219 (by decide)) (fun c219 => ?_)
  refine lv_iload hx hb dX3_leastByTwos_87 (lv_at hl 2 rfl) ?_
  refine lv_aload_n hx hb dX3_leastByTwos_89 rfl (lv_at hl 5 rfl) ?_
  refine va_get (D := (dC, dI)) (ci := 3) (v := .ref os) (C := RX3) (T := TX3) (N := 6) hx hb hts hin3 hown hK hP 4 rfl rfl 5 (by decide) hw2 (fun _ h9 => h9) rfl dX3_leastByTwos_90 ?_
  refine lv_iload hx hb dX3_leastByTwos_93 (lv_at hl 0 rfl) ?_
  refine va_iald hx hb hK hP 1 0 rfl rfl (vin (by decide) (by decide)) dX3_leastByTwos_95 ?_
  refine lv_topi (fun y220 e220 => ?_)
  obtain rfl : y220 = u44 1 := e220
  refine va_mmin hx hb (hml.trans hl.1.symm) hown hw3 hw4 hw5 hw6 (Nat.le_of_ble_eq_true rfl) (Nat.le_of_ble_eq_true rfl) (Nat.le_of_ble_eq_true rfl) (Nat.le_of_ble_eq_true rfl) dX3_leastByTwos_96 ?_
  refine lv_topi (fun x221 e221 => ?_)
  obtain rfl : x221 = 0 := e221.trans (mmin1 (by have z8 : (0 : Int32).toInt = 0 := rfl; omega))
  refine lv_istore (lv' := [(6, .int 0), (5, .int 1), (2, .int 0), (4, .int 0), (3, .int 1), (0, .ref o), (1, .int i0)]) hx hb dX3_leastByTwos_99 hl (by decide) rfl (fun ls hl => ?_)
  refine lv_aload_n hx hb dX3_leastByTwos_101 rfl (lv_at hl 5 rfl) ?_
  refine va_get (D := (dC, dI)) (ci := 3) (v := .ref os) (C := RX3) (T := TX3) (N := 6) hx hb hts hin3 hown hK hP 4 rfl rfl 5 (by decide) hw2 (fun _ h9 => h9) rfl dX3_leastByTwos_102 ?_
  refine lv_iload hx hb dX3_leastByTwos_105 (lv_at hl 1 rfl) ?_
  refine lv_dup2_11 hx hb dX3_leastByTwos_107 rfl rfl ?_
  refine va_iald hx hb hK hP 1 0 rfl rfl (vin (by decide) (by decide)) dX3_leastByTwos_108 ?_
  refine lv_topi (fun y222 e222 => ?_)
  obtain rfl : y222 = u44 1 := e222
  refine lv_iload hx hb dX3_leastByTwos_109 (lv_at hl 0 rfl) ?_
  refine lv_isub hx hb dX3_leastByTwos_111 ?_
  refine lv_topi (fun y223 e223 => ?_)
  obtain rfl : y223 = u44 1 := e223.trans (by simp)
  refine va_iast hx hb hK hP hD hS 1 0 rfl rfl (vin (by decide) (by decide)) dX3_leastByTwos_112 (fun H locs hP hD hS => ?_)
  replace hP : va_P (dC, dI) vwCl [(km, .inl (cI, 6, .inl (fun _ => 0))), (os, .inl (cI, 5, .inl (upd (upd (upd (upd (upd (upd (upd (upd (upd (upd (upd (upd (upd (upd (upd (upd (upd u44 0 (u44 0)) 1 (u44 1)) 2 (u44 2)) 3 (u44 3)) 4 (u44 4)) 0 (u44 0)) 1 (u44 1)) 2 (u44 2)) 3 (u44 3)) 4 (u44 4)) 0 (u44 0)) 1 (u44 1)) 2 (u44 2)) 3 (u44 3)) 4 (u44 4)) 0 (u44 0)) 1 (u44 1)))), (ks, .inl (cI, 5, .inl (upd (fun _ => 0) 0 800))), (kw, .inl (cI, 14, .inl (fun _ => 0))), (o, .inr (3, [.ref k, .ref op, .int 0, .ref oq, .ref ov, .ref os])), (op, .inl (cI, 6, .inl (upd (upd (upd (upd (upd (upd (fun _ => 0) 5 0) 4 0) 3 0) 2 0) 1 0) 0 0))), (k, .inr (0, [.ref ks, .ref kw, .ref kc, .int (-6), .int 0, .int 0, .ref kq, .ref km, .ref kd, .int 0, .ref ka, .ref kk])), (kq, .inl (cI, 6, .inl (fun _ => 0)))] H := hP
  replace hD : va_D A [(km, .inl (cI, 6, .inl (fun _ => 0))), (os, .inl (cI, 5, .inl (upd (upd (upd (upd (upd (upd (upd (upd (upd (upd (upd (upd (upd (upd (upd (upd (upd u44 0 (u44 0)) 1 (u44 1)) 2 (u44 2)) 3 (u44 3)) 4 (u44 4)) 0 (u44 0)) 1 (u44 1)) 2 (u44 2)) 3 (u44 3)) 4 (u44 4)) 0 (u44 0)) 1 (u44 1)) 2 (u44 2)) 3 (u44 3)) 4 (u44 4)) 0 (u44 0)) 1 (u44 1)))), (ks, .inl (cI, 5, .inl (upd (fun _ => 0) 0 800))), (kw, .inl (cI, 14, .inl (fun _ => 0))), (o, .inr (3, [.ref k, .ref op, .int 0, .ref oq, .ref ov, .ref os])), (op, .inl (cI, 6, .inl (upd (upd (upd (upd (upd (upd (fun _ => 0) 5 0) 4 0) 3 0) 2 0) 1 0) 0 0))), (k, .inr (0, [.ref ks, .ref kw, .ref kc, .int (-6), .int 0, .int 0, .ref kq, .ref km, .ref kd, .int 0, .ref ka, .ref kk])), (kq, .inl (cI, 6, .inl (fun _ => 0)))] := hD
  refine lv_iload hx hb dX3_leastByTwos_113 (lv_at hl 3 rfl) ?_
  refine lv_iload hx hb dX3_leastByTwos_115 (lv_at hl 0 rfl) ?_
  refine lv_isub hx hb dX3_leastByTwos_117 ?_
  refine lv_topi (fun x224 e224 => ?_)
  obtain rfl : x224 = 0 := e224.trans (by decide)
  refine lv_istore (lv' := [(4, .int 0), (6, .int 0), (5, .int 1), (2, .int 0), (3, .int 1), (0, .ref o), (1, .int i0)]) hx hb dX3_leastByTwos_118 hl (by decide) rfl (fun ls hl => ?_)
  refine lv_iload_n hx hb dX3_leastByTwos_120 rfl (lv_at hl 3 rfl) ?_
  refine lv_iload hx hb dX3_leastByTwos_121 (lv_at hl 1 rfl) ?_
  refine lv_bipush (v := 11) hx hb dX3_leastByTwos_123 (by decide) ?_
  refine lv_imul hx hb dX3_leastByTwos_125 ?_
  refine lv_topi (fun x225 e225 => ?_)
  obtain rfl : x225 = 0 := e225.trans (by decide)
  refine lv_iload_n hx hb dX3_leastByTwos_126 rfl (lv_at hl 4 rfl) ?_
  refine lv_imul hx hb dX3_leastByTwos_127 ?_
  refine lv_topi (fun x226 e226 => ?_)
  obtain rfl : x226 = 0 := e226.trans (by decide)
  refine lv_iload hx hb dX3_leastByTwos_128 (lv_at hl 2 rfl) ?_
  refine lv_imul hx hb dX3_leastByTwos_130 ?_
  refine lv_topi (fun x227 e227 => ?_)
  obtain rfl : x227 = 0 := e227.trans (by decide)
  refine lv_iadd hx hb dX3_leastByTwos_131 ?_
  refine lv_topi (fun x228 e228 => ?_)
  obtain rfl : x228 = 0 := e228.trans (by decide)
  refine lv_istore_n (lv' := [(2, .int 0), (4, .int 0), (6, .int 0), (5, .int 1), (3, .int 1), (0, .ref o), (1, .int i0)]) hx hb dX3_leastByTwos_132 rfl hl (by decide) rfl (fun ls hl => ?_)
  refine lv_iinc (v := 2) (lv' := [(5, .int 2), (2, .int 0), (4, .int 0), (6, .int 0), (3, .int 1), (0, .ref o), (1, .int i0)]) hx hb dX3_leastByTwos_133 hl (k := 3) rfl (by decide) (by decide) rfl (fun ls hl => ?_)
  refine lv_goto (tgt := 81) hx hb dX3_leastByTwos_136 (by decide) ?_
  refine lv_iload hx hb dX3_leastByTwos_81 (lv_at hl 0 rfl) ?_
  refine lv_iconst (v := 4) hx hb dX3_leastByTwos_83 (by decide) ?_
  refine lv_icmp_gt (tgt := 139) hx hb dX3_leastByTwos_84 (by decide) (fun c229 => absurd c229 (by decide)) (fun c229 => ?_)
  refine lv_iload hx hb dX3_leastByTwos_87 (lv_at hl 2 rfl) ?_
  refine lv_aload_n hx hb dX3_leastByTwos_89 rfl (lv_at hl 5 rfl) ?_
  refine va_get (D := (dC, dI)) (ci := 3) (v := .ref os) (C := RX3) (T := TX3) (N := 6) hx hb hts hin3 hown hK hP 4 rfl rfl 5 (by decide) hw2 (fun _ h9 => h9) rfl dX3_leastByTwos_90 ?_
  refine lv_iload hx hb dX3_leastByTwos_93 (lv_at hl 0 rfl) ?_
  refine va_iald hx hb hK hP 1 0 rfl rfl (vin (by decide) (by decide)) dX3_leastByTwos_95 ?_
  refine lv_topi (fun y230 e230 => ?_)
  obtain rfl : y230 = u44 2 := e230
  refine va_mmin hx hb (hml.trans hl.1.symm) hown hw3 hw4 hw5 hw6 (Nat.le_of_ble_eq_true rfl) (Nat.le_of_ble_eq_true rfl) (Nat.le_of_ble_eq_true rfl) (Nat.le_of_ble_eq_true rfl) dX3_leastByTwos_96 ?_
  refine lv_topi (fun x231 e231 => ?_)
  obtain rfl : x231 = 0 := e231.trans (mmin1 (by have z8 : (0 : Int32).toInt = 0 := rfl; omega))
  refine lv_istore (lv' := [(6, .int 0), (5, .int 2), (2, .int 0), (4, .int 0), (3, .int 1), (0, .ref o), (1, .int i0)]) hx hb dX3_leastByTwos_99 hl (by decide) rfl (fun ls hl => ?_)
  refine lv_aload_n hx hb dX3_leastByTwos_101 rfl (lv_at hl 5 rfl) ?_
  refine va_get (D := (dC, dI)) (ci := 3) (v := .ref os) (C := RX3) (T := TX3) (N := 6) hx hb hts hin3 hown hK hP 4 rfl rfl 5 (by decide) hw2 (fun _ h9 => h9) rfl dX3_leastByTwos_102 ?_
  refine lv_iload hx hb dX3_leastByTwos_105 (lv_at hl 1 rfl) ?_
  refine lv_dup2_11 hx hb dX3_leastByTwos_107 rfl rfl ?_
  refine va_iald hx hb hK hP 1 0 rfl rfl (vin (by decide) (by decide)) dX3_leastByTwos_108 ?_
  refine lv_topi (fun y232 e232 => ?_)
  obtain rfl : y232 = u44 2 := e232
  refine lv_iload hx hb dX3_leastByTwos_109 (lv_at hl 0 rfl) ?_
  refine lv_isub hx hb dX3_leastByTwos_111 ?_
  refine lv_topi (fun y233 e233 => ?_)
  obtain rfl : y233 = u44 2 := e233.trans (by simp)
  refine va_iast hx hb hK hP hD hS 1 0 rfl rfl (vin (by decide) (by decide)) dX3_leastByTwos_112 (fun H locs hP hD hS => ?_)
  replace hP : va_P (dC, dI) vwCl [(km, .inl (cI, 6, .inl (fun _ => 0))), (os, .inl (cI, 5, .inl (upd (upd (upd (upd (upd (upd (upd (upd (upd (upd (upd (upd (upd (upd (upd (upd (upd (upd u44 0 (u44 0)) 1 (u44 1)) 2 (u44 2)) 3 (u44 3)) 4 (u44 4)) 0 (u44 0)) 1 (u44 1)) 2 (u44 2)) 3 (u44 3)) 4 (u44 4)) 0 (u44 0)) 1 (u44 1)) 2 (u44 2)) 3 (u44 3)) 4 (u44 4)) 0 (u44 0)) 1 (u44 1)) 2 (u44 2)))), (ks, .inl (cI, 5, .inl (upd (fun _ => 0) 0 800))), (kw, .inl (cI, 14, .inl (fun _ => 0))), (o, .inr (3, [.ref k, .ref op, .int 0, .ref oq, .ref ov, .ref os])), (op, .inl (cI, 6, .inl (upd (upd (upd (upd (upd (upd (fun _ => 0) 5 0) 4 0) 3 0) 2 0) 1 0) 0 0))), (k, .inr (0, [.ref ks, .ref kw, .ref kc, .int (-6), .int 0, .int 0, .ref kq, .ref km, .ref kd, .int 0, .ref ka, .ref kk])), (kq, .inl (cI, 6, .inl (fun _ => 0)))] H := hP
  replace hD : va_D A [(km, .inl (cI, 6, .inl (fun _ => 0))), (os, .inl (cI, 5, .inl (upd (upd (upd (upd (upd (upd (upd (upd (upd (upd (upd (upd (upd (upd (upd (upd (upd (upd u44 0 (u44 0)) 1 (u44 1)) 2 (u44 2)) 3 (u44 3)) 4 (u44 4)) 0 (u44 0)) 1 (u44 1)) 2 (u44 2)) 3 (u44 3)) 4 (u44 4)) 0 (u44 0)) 1 (u44 1)) 2 (u44 2)) 3 (u44 3)) 4 (u44 4)) 0 (u44 0)) 1 (u44 1)) 2 (u44 2)))), (ks, .inl (cI, 5, .inl (upd (fun _ => 0) 0 800))), (kw, .inl (cI, 14, .inl (fun _ => 0))), (o, .inr (3, [.ref k, .ref op, .int 0, .ref oq, .ref ov, .ref os])), (op, .inl (cI, 6, .inl (upd (upd (upd (upd (upd (upd (fun _ => 0) 5 0) 4 0) 3 0) 2 0) 1 0) 0 0))), (k, .inr (0, [.ref ks, .ref kw, .ref kc, .int (-6), .int 0, .int 0, .ref kq, .ref km, .ref kd, .int 0, .ref ka, .ref kk])), (kq, .inl (cI, 6, .inl (fun _ => 0)))] := hD
  refine lv_iload hx hb dX3_leastByTwos_113 (lv_at hl 3 rfl) ?_
  refine lv_iload hx hb dX3_leastByTwos_115 (lv_at hl 0 rfl) ?_
  refine lv_isub hx hb dX3_leastByTwos_117 ?_
  refine lv_topi (fun x234 e234 => ?_)
  obtain rfl : x234 = 0 := e234.trans (by decide)
  refine lv_istore (lv' := [(4, .int 0), (6, .int 0), (5, .int 2), (2, .int 0), (3, .int 1), (0, .ref o), (1, .int i0)]) hx hb dX3_leastByTwos_118 hl (by decide) rfl (fun ls hl => ?_)
  refine lv_iload_n hx hb dX3_leastByTwos_120 rfl (lv_at hl 3 rfl) ?_
  refine lv_iload hx hb dX3_leastByTwos_121 (lv_at hl 1 rfl) ?_
  refine lv_bipush (v := 11) hx hb dX3_leastByTwos_123 (by decide) ?_
  refine lv_imul hx hb dX3_leastByTwos_125 ?_
  refine lv_topi (fun x235 e235 => ?_)
  obtain rfl : x235 = 0 := e235.trans (by decide)
  refine lv_iload_n hx hb dX3_leastByTwos_126 rfl (lv_at hl 4 rfl) ?_
  refine lv_imul hx hb dX3_leastByTwos_127 ?_
  refine lv_topi (fun x236 e236 => ?_)
  obtain rfl : x236 = 0 := e236.trans (by decide)
  refine lv_iload hx hb dX3_leastByTwos_128 (lv_at hl 2 rfl) ?_
  refine lv_imul hx hb dX3_leastByTwos_130 ?_
  refine lv_topi (fun x237 e237 => ?_)
  obtain rfl : x237 = 0 := e237.trans (by decide)
  refine lv_iadd hx hb dX3_leastByTwos_131 ?_
  refine lv_topi (fun x238 e238 => ?_)
  obtain rfl : x238 = 0 := e238.trans (by decide)
  refine lv_istore_n (lv' := [(2, .int 0), (4, .int 0), (6, .int 0), (5, .int 2), (3, .int 1), (0, .ref o), (1, .int i0)]) hx hb dX3_leastByTwos_132 rfl hl (by decide) rfl (fun ls hl => ?_)
  refine lv_iinc (v := 3) (lv' := [(5, .int 3), (2, .int 0), (4, .int 0), (6, .int 0), (3, .int 1), (0, .ref o), (1, .int i0)]) hx hb dX3_leastByTwos_133 hl (k := 3) rfl (by decide) (by decide) rfl (fun ls hl => ?_)
  refine lv_goto (tgt := 81) hx hb dX3_leastByTwos_136 (by decide) ?_
  refine lv_iload hx hb dX3_leastByTwos_81 (lv_at hl 0 rfl) ?_
  refine lv_iconst (v := 4) hx hb dX3_leastByTwos_83 (by decide) ?_
  refine lv_icmp_gt (tgt := 139) hx hb dX3_leastByTwos_84 (by decide) (fun c239 => absurd c239 (by decide)) (fun c239 => ?_)
  refine lv_iload hx hb dX3_leastByTwos_87 (lv_at hl 2 rfl) ?_
  refine lv_aload_n hx hb dX3_leastByTwos_89 rfl (lv_at hl 5 rfl) ?_
  refine va_get (D := (dC, dI)) (ci := 3) (v := .ref os) (C := RX3) (T := TX3) (N := 6) hx hb hts hin3 hown hK hP 4 rfl rfl 5 (by decide) hw2 (fun _ h9 => h9) rfl dX3_leastByTwos_90 ?_
  refine lv_iload hx hb dX3_leastByTwos_93 (lv_at hl 0 rfl) ?_
  refine va_iald hx hb hK hP 1 0 rfl rfl (vin (by decide) (by decide)) dX3_leastByTwos_95 ?_
  refine lv_topi (fun y240 e240 => ?_)
  obtain rfl : y240 = u44 3 := e240
  refine va_mmin hx hb (hml.trans hl.1.symm) hown hw3 hw4 hw5 hw6 (Nat.le_of_ble_eq_true rfl) (Nat.le_of_ble_eq_true rfl) (Nat.le_of_ble_eq_true rfl) (Nat.le_of_ble_eq_true rfl) dX3_leastByTwos_96 ?_
  refine lv_topi (fun x241 e241 => ?_)
  obtain rfl : x241 = 0 := e241.trans (mmin1 (by have z8 : (0 : Int32).toInt = 0 := rfl; omega))
  refine lv_istore (lv' := [(6, .int 0), (5, .int 3), (2, .int 0), (4, .int 0), (3, .int 1), (0, .ref o), (1, .int i0)]) hx hb dX3_leastByTwos_99 hl (by decide) rfl (fun ls hl => ?_)
  refine lv_aload_n hx hb dX3_leastByTwos_101 rfl (lv_at hl 5 rfl) ?_
  refine va_get (D := (dC, dI)) (ci := 3) (v := .ref os) (C := RX3) (T := TX3) (N := 6) hx hb hts hin3 hown hK hP 4 rfl rfl 5 (by decide) hw2 (fun _ h9 => h9) rfl dX3_leastByTwos_102 ?_
  refine lv_iload hx hb dX3_leastByTwos_105 (lv_at hl 1 rfl) ?_
  refine lv_dup2_11 hx hb dX3_leastByTwos_107 rfl rfl ?_
  refine va_iald hx hb hK hP 1 0 rfl rfl (vin (by decide) (by decide)) dX3_leastByTwos_108 ?_
  refine lv_topi (fun y242 e242 => ?_)
  obtain rfl : y242 = u44 3 := e242
  refine lv_iload hx hb dX3_leastByTwos_109 (lv_at hl 0 rfl) ?_
  refine lv_isub hx hb dX3_leastByTwos_111 ?_
  refine lv_topi (fun y243 e243 => ?_)
  obtain rfl : y243 = u44 3 := e243.trans (by simp)
  refine va_iast hx hb hK hP hD hS 1 0 rfl rfl (vin (by decide) (by decide)) dX3_leastByTwos_112 (fun H locs hP hD hS => ?_)
  replace hP : va_P (dC, dI) vwCl [(km, .inl (cI, 6, .inl (fun _ => 0))), (os, .inl (cI, 5, .inl (upd (upd (upd (upd (upd (upd (upd (upd (upd (upd (upd (upd (upd (upd (upd (upd (upd (upd (upd u44 0 (u44 0)) 1 (u44 1)) 2 (u44 2)) 3 (u44 3)) 4 (u44 4)) 0 (u44 0)) 1 (u44 1)) 2 (u44 2)) 3 (u44 3)) 4 (u44 4)) 0 (u44 0)) 1 (u44 1)) 2 (u44 2)) 3 (u44 3)) 4 (u44 4)) 0 (u44 0)) 1 (u44 1)) 2 (u44 2)) 3 (u44 3)))), (ks, .inl (cI, 5, .inl (upd (fun _ => 0) 0 800))), (kw, .inl (cI, 14, .inl (fun _ => 0))), (o, .inr (3, [.ref k, .ref op, .int 0, .ref oq, .ref ov, .ref os])), (op, .inl (cI, 6, .inl (upd (upd (upd (upd (upd (upd (fun _ => 0) 5 0) 4 0) 3 0) 2 0) 1 0) 0 0))), (k, .inr (0, [.ref ks, .ref kw, .ref kc, .int (-6), .int 0, .int 0, .ref kq, .ref km, .ref kd, .int 0, .ref ka, .ref kk])), (kq, .inl (cI, 6, .inl (fun _ => 0)))] H := hP
  replace hD : va_D A [(km, .inl (cI, 6, .inl (fun _ => 0))), (os, .inl (cI, 5, .inl (upd (upd (upd (upd (upd (upd (upd (upd (upd (upd (upd (upd (upd (upd (upd (upd (upd (upd (upd u44 0 (u44 0)) 1 (u44 1)) 2 (u44 2)) 3 (u44 3)) 4 (u44 4)) 0 (u44 0)) 1 (u44 1)) 2 (u44 2)) 3 (u44 3)) 4 (u44 4)) 0 (u44 0)) 1 (u44 1)) 2 (u44 2)) 3 (u44 3)) 4 (u44 4)) 0 (u44 0)) 1 (u44 1)) 2 (u44 2)) 3 (u44 3)))), (ks, .inl (cI, 5, .inl (upd (fun _ => 0) 0 800))), (kw, .inl (cI, 14, .inl (fun _ => 0))), (o, .inr (3, [.ref k, .ref op, .int 0, .ref oq, .ref ov, .ref os])), (op, .inl (cI, 6, .inl (upd (upd (upd (upd (upd (upd (fun _ => 0) 5 0) 4 0) 3 0) 2 0) 1 0) 0 0))), (k, .inr (0, [.ref ks, .ref kw, .ref kc, .int (-6), .int 0, .int 0, .ref kq, .ref km, .ref kd, .int 0, .ref ka, .ref kk])), (kq, .inl (cI, 6, .inl (fun _ => 0)))] := hD
  refine lv_iload hx hb dX3_leastByTwos_113 (lv_at hl 3 rfl) ?_
  refine lv_iload hx hb dX3_leastByTwos_115 (lv_at hl 0 rfl) ?_
  refine lv_isub hx hb dX3_leastByTwos_117 ?_
  refine lv_topi (fun x244 e244 => ?_)
  obtain rfl : x244 = 0 := e244.trans (by decide)
  refine lv_istore (lv' := [(4, .int 0), (6, .int 0), (5, .int 3), (2, .int 0), (3, .int 1), (0, .ref o), (1, .int i0)]) hx hb dX3_leastByTwos_118 hl (by decide) rfl (fun ls hl => ?_)
  refine lv_iload_n hx hb dX3_leastByTwos_120 rfl (lv_at hl 3 rfl) ?_
  refine lv_iload hx hb dX3_leastByTwos_121 (lv_at hl 1 rfl) ?_
  refine lv_bipush (v := 11) hx hb dX3_leastByTwos_123 (by decide) ?_
  refine lv_imul hx hb dX3_leastByTwos_125 ?_
  refine lv_topi (fun x245 e245 => ?_)
  obtain rfl : x245 = 0 := e245.trans (by decide)
  refine lv_iload_n hx hb dX3_leastByTwos_126 rfl (lv_at hl 4 rfl) ?_
  refine lv_imul hx hb dX3_leastByTwos_127 ?_
  refine lv_topi (fun x246 e246 => ?_)
  obtain rfl : x246 = 0 := e246.trans (by decide)
  refine lv_iload hx hb dX3_leastByTwos_128 (lv_at hl 2 rfl) ?_
  refine lv_imul hx hb dX3_leastByTwos_130 ?_
  refine lv_topi (fun x247 e247 => ?_)
  obtain rfl : x247 = 0 := e247.trans (by decide)
  refine lv_iadd hx hb dX3_leastByTwos_131 ?_
  refine lv_topi (fun x248 e248 => ?_)
  obtain rfl : x248 = 0 := e248.trans (by decide)
  refine lv_istore_n (lv' := [(2, .int 0), (4, .int 0), (6, .int 0), (5, .int 3), (3, .int 1), (0, .ref o), (1, .int i0)]) hx hb dX3_leastByTwos_132 rfl hl (by decide) rfl (fun ls hl => ?_)
  refine lv_iinc (v := 4) (lv' := [(5, .int 4), (2, .int 0), (4, .int 0), (6, .int 0), (3, .int 1), (0, .ref o), (1, .int i0)]) hx hb dX3_leastByTwos_133 hl (k := 3) rfl (by decide) (by decide) rfl (fun ls hl => ?_)
  refine lv_goto (tgt := 81) hx hb dX3_leastByTwos_136 (by decide) ?_
  refine lv_iload hx hb dX3_leastByTwos_81 (lv_at hl 0 rfl) ?_
  refine lv_iconst (v := 4) hx hb dX3_leastByTwos_83 (by decide) ?_
  refine lv_icmp_gt (tgt := 139) hx hb dX3_leastByTwos_84 (by decide) (fun c249 => absurd c249 (by decide)) (fun c249 => ?_)
  refine lv_iload hx hb dX3_leastByTwos_87 (lv_at hl 2 rfl) ?_
  refine lv_aload_n hx hb dX3_leastByTwos_89 rfl (lv_at hl 5 rfl) ?_
  refine va_get (D := (dC, dI)) (ci := 3) (v := .ref os) (C := RX3) (T := TX3) (N := 6) hx hb hts hin3 hown hK hP 4 rfl rfl 5 (by decide) hw2 (fun _ h9 => h9) rfl dX3_leastByTwos_90 ?_
  refine lv_iload hx hb dX3_leastByTwos_93 (lv_at hl 0 rfl) ?_
  refine va_iald hx hb hK hP 1 0 rfl rfl (vin (by decide) (by decide)) dX3_leastByTwos_95 ?_
  refine lv_topi (fun y250 e250 => ?_)
  obtain rfl : y250 = u44 4 := e250
  refine va_mmin hx hb (hml.trans hl.1.symm) hown hw3 hw4 hw5 hw6 (Nat.le_of_ble_eq_true rfl) (Nat.le_of_ble_eq_true rfl) (Nat.le_of_ble_eq_true rfl) (Nat.le_of_ble_eq_true rfl) dX3_leastByTwos_96 ?_
  refine lv_topi (fun x251 e251 => ?_)
  obtain rfl : x251 = 0 := e251.trans (mmin1 (by have z8 : (0 : Int32).toInt = 0 := rfl; omega))
  refine lv_istore (lv' := [(6, .int 0), (5, .int 4), (2, .int 0), (4, .int 0), (3, .int 1), (0, .ref o), (1, .int i0)]) hx hb dX3_leastByTwos_99 hl (by decide) rfl (fun ls hl => ?_)
  refine lv_aload_n hx hb dX3_leastByTwos_101 rfl (lv_at hl 5 rfl) ?_
  refine va_get (D := (dC, dI)) (ci := 3) (v := .ref os) (C := RX3) (T := TX3) (N := 6) hx hb hts hin3 hown hK hP 4 rfl rfl 5 (by decide) hw2 (fun _ h9 => h9) rfl dX3_leastByTwos_102 ?_
  refine lv_iload hx hb dX3_leastByTwos_105 (lv_at hl 1 rfl) ?_
  refine lv_dup2_11 hx hb dX3_leastByTwos_107 rfl rfl ?_
  refine va_iald hx hb hK hP 1 0 rfl rfl (vin (by decide) (by decide)) dX3_leastByTwos_108 ?_
  refine lv_topi (fun y252 e252 => ?_)
  obtain rfl : y252 = u44 4 := e252
  refine lv_iload hx hb dX3_leastByTwos_109 (lv_at hl 0 rfl) ?_
  refine lv_isub hx hb dX3_leastByTwos_111 ?_
  refine lv_topi (fun y253 e253 => ?_)
  obtain rfl : y253 = u44 4 := e253.trans (by simp)
  refine va_iast hx hb hK hP hD hS 1 0 rfl rfl (vin (by decide) (by decide)) dX3_leastByTwos_112 (fun H locs hP hD hS => ?_)
  replace hP : va_P (dC, dI) vwCl [(km, .inl (cI, 6, .inl (fun _ => 0))), (os, .inl (cI, 5, .inl (upd (upd (upd (upd (upd (upd (upd (upd (upd (upd (upd (upd (upd (upd (upd (upd (upd (upd (upd (upd u44 0 (u44 0)) 1 (u44 1)) 2 (u44 2)) 3 (u44 3)) 4 (u44 4)) 0 (u44 0)) 1 (u44 1)) 2 (u44 2)) 3 (u44 3)) 4 (u44 4)) 0 (u44 0)) 1 (u44 1)) 2 (u44 2)) 3 (u44 3)) 4 (u44 4)) 0 (u44 0)) 1 (u44 1)) 2 (u44 2)) 3 (u44 3)) 4 (u44 4)))), (ks, .inl (cI, 5, .inl (upd (fun _ => 0) 0 800))), (kw, .inl (cI, 14, .inl (fun _ => 0))), (o, .inr (3, [.ref k, .ref op, .int 0, .ref oq, .ref ov, .ref os])), (op, .inl (cI, 6, .inl (upd (upd (upd (upd (upd (upd (fun _ => 0) 5 0) 4 0) 3 0) 2 0) 1 0) 0 0))), (k, .inr (0, [.ref ks, .ref kw, .ref kc, .int (-6), .int 0, .int 0, .ref kq, .ref km, .ref kd, .int 0, .ref ka, .ref kk])), (kq, .inl (cI, 6, .inl (fun _ => 0)))] H := hP
  replace hD : va_D A [(km, .inl (cI, 6, .inl (fun _ => 0))), (os, .inl (cI, 5, .inl (upd (upd (upd (upd (upd (upd (upd (upd (upd (upd (upd (upd (upd (upd (upd (upd (upd (upd (upd (upd u44 0 (u44 0)) 1 (u44 1)) 2 (u44 2)) 3 (u44 3)) 4 (u44 4)) 0 (u44 0)) 1 (u44 1)) 2 (u44 2)) 3 (u44 3)) 4 (u44 4)) 0 (u44 0)) 1 (u44 1)) 2 (u44 2)) 3 (u44 3)) 4 (u44 4)) 0 (u44 0)) 1 (u44 1)) 2 (u44 2)) 3 (u44 3)) 4 (u44 4)))), (ks, .inl (cI, 5, .inl (upd (fun _ => 0) 0 800))), (kw, .inl (cI, 14, .inl (fun _ => 0))), (o, .inr (3, [.ref k, .ref op, .int 0, .ref oq, .ref ov, .ref os])), (op, .inl (cI, 6, .inl (upd (upd (upd (upd (upd (upd (fun _ => 0) 5 0) 4 0) 3 0) 2 0) 1 0) 0 0))), (k, .inr (0, [.ref ks, .ref kw, .ref kc, .int (-6), .int 0, .int 0, .ref kq, .ref km, .ref kd, .int 0, .ref ka, .ref kk])), (kq, .inl (cI, 6, .inl (fun _ => 0)))] := hD
  refine lv_iload hx hb dX3_leastByTwos_113 (lv_at hl 3 rfl) ?_
  refine lv_iload hx hb dX3_leastByTwos_115 (lv_at hl 0 rfl) ?_
  refine lv_isub hx hb dX3_leastByTwos_117 ?_
  refine lv_topi (fun x254 e254 => ?_)
  obtain rfl : x254 = 0 := e254.trans (by decide)
  refine lv_istore (lv' := [(4, .int 0), (6, .int 0), (5, .int 4), (2, .int 0), (3, .int 1), (0, .ref o), (1, .int i0)]) hx hb dX3_leastByTwos_118 hl (by decide) rfl (fun ls hl => ?_)
  refine lv_iload_n hx hb dX3_leastByTwos_120 rfl (lv_at hl 3 rfl) ?_
  refine lv_iload hx hb dX3_leastByTwos_121 (lv_at hl 1 rfl) ?_
  refine lv_bipush (v := 11) hx hb dX3_leastByTwos_123 (by decide) ?_
  refine lv_imul hx hb dX3_leastByTwos_125 ?_
  refine lv_topi (fun x255 e255 => ?_)
  obtain rfl : x255 = 0 := e255.trans (by decide)
  refine lv_iload_n hx hb dX3_leastByTwos_126 rfl (lv_at hl 4 rfl) ?_
  refine lv_imul hx hb dX3_leastByTwos_127 ?_
  refine lv_topi (fun x256 e256 => ?_)
  obtain rfl : x256 = 0 := e256.trans (by decide)
  refine lv_iload hx hb dX3_leastByTwos_128 (lv_at hl 2 rfl) ?_
  refine lv_imul hx hb dX3_leastByTwos_130 ?_
  refine lv_topi (fun x257 e257 => ?_)
  obtain rfl : x257 = 0 := e257.trans (by decide)
  refine lv_iadd hx hb dX3_leastByTwos_131 ?_
  refine lv_topi (fun x258 e258 => ?_)
  obtain rfl : x258 = 0 := e258.trans (by decide)
  refine lv_istore_n (lv' := [(2, .int 0), (4, .int 0), (6, .int 0), (5, .int 4), (3, .int 1), (0, .ref o), (1, .int i0)]) hx hb dX3_leastByTwos_132 rfl hl (by decide) rfl (fun ls hl => ?_)
  refine lv_iinc (v := 5) (lv' := [(5, .int 5), (2, .int 0), (4, .int 0), (6, .int 0), (3, .int 1), (0, .ref o), (1, .int i0)]) hx hb dX3_leastByTwos_133 hl (k := 3) rfl (by decide) (by decide) rfl (fun ls hl => ?_)
  refine lv_goto (tgt := 81) hx hb dX3_leastByTwos_136 (by decide) ?_
  refine lv_iload hx hb dX3_leastByTwos_81 (lv_at hl 0 rfl) ?_
  refine lv_iconst (v := 4) hx hb dX3_leastByTwos_83 (by decide) ?_
  refine lv_icmp_gt (tgt := 139) hx hb dX3_leastByTwos_84 (by decide) (fun c259 => ?_) (fun c259 => absurd c259 (by decide))
  refine lv_iload hx hb dX3_leastByTwos_139 (lv_at hl 2 rfl) ?_
  refine lv_if_le (tgt := 147) hx hb dX3_leastByTwos_141 (by decide) (fun c260 => ?_) (fun c260 => absurd c260 (by decide))
  refine lv_iinc (v := 0) (lv' := [(3, .int 0), (5, .int 5), (2, .int 0), (4, .int 0), (6, .int 0), (0, .ref o), (1, .int i0)]) hx hb dX3_leastByTwos_147 hl (k := 4) rfl (by decide) (by decide) rfl (fun ls hl => ?_)
  refine lv_goto (tgt := 66) hx hb dX3_leastByTwos_150 (by decide) ?_
  refine lv_iload_n hx hb dX3_leastByTwos_66 rfl (lv_at hl 0 rfl) ?_
  refine lv_iconst (v := 1) hx hb dX3_leastByTwos_67 (by decide) ?_
  refine lv_icmp_lt (tgt := 153) hx hb dX3_leastByTwos_68 (by decide) (fun c261 => ?_) (fun c261 => absurd c261 (by decide))
  refine lv_iload_n hx hb dX3_leastByTwos_153 rfl (lv_at hl 2 rfl) ?_
  have hP9 := mx_subP (wc := []) hP [] rfl
  have hD9 := hD.sub (ws' := []) [] (by decide) rfl
  exact W.iret (v := 0) hx hb hr (fun t ht hW => ⟨⟨0, (), rfl, rfl, by rw [ht]; exact hP9, hD9⟩, hS.F ht⟩) hS.2.2 dX3_leastByTwos_154
