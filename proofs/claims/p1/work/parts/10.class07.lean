set_option maxHeartbeats 4000000 in
set_option maxRecDepth 100000 in
theorem c_X3_portionsOf_1 (l : Launch) (dC : Nat → ClassId) (dI : Nat → Nat → Nat) (cI cZ cK : ClassId) (tS aK aV : Nat) (o : Nat) (k : Nat) (ks : Nat) (kw : Nat) (kc : Nat) (kq : Nat) (km : Nat) (kd : Nat) (ka : Nat) (kk : Nat) (op : Nat) (oq : Nat) (ov : Nat) (os : Nat) (sz : Nat) : Ci l yX3_portionsOf (wq yX3_portionsOf cX3_portionsOf 4 (some .int)) ({ frames := 0, cells := 0, slots := 0, locals := 0 }) dC dI cI cZ cK tS aK aV [.ref o, .int 1] sz [(o, .inr (3, [.ref k, .ref op, .int 0, .ref oq, .ref ov, .ref os])), (op, .inl (cI, 6, .inl (upd (upd (upd (upd (upd (upd (fun _ => 0) 5 0) 4 0) 3 0) 2 0) 1 0) 0 0))), (k, .inr (0, [.ref ks, .ref kw, .ref kc, .int (-6), .int 0, .int 0, .ref kq, .ref km, .ref kd, .int 0, .ref ka, .ref kk])), (kq, .inl (cI, 6, .inl (fun _ => 0)))] (fun (r : Int32) (_ : Unit) => r = 0) (fun _ => [(o, .inr (3, [.ref k, .ref op, .int 0, .ref oq, .ref ov, .ref os])), (op, .inl (cI, 6, .inl (upd (upd (upd (upd (upd (upd (fun _ => 0) 5 0) 4 0) 3 0) 2 0) 1 0) 0 0))), (k, .inr (0, [.ref ks, .ref kw, .ref kc, .int (-6), .int 0, .int 0, .ref kq, .ref km, .ref kd, .int 0, .ref ka, .ref kk])), (kq, .inl (cI, 6, .inl (fun _ => 0)))]) := by
  refine Met.ofW (cc := cX3_portionsOf) (maxL := 4) (ret := (some .int)) (by decide) rfl ?_
  intro p e s m args below meth c s₁ B hml hv
  obtain ⟨rfl, hsz, hP, hKx, hD0⟩ := hv
  have hx := B.exec
  have hb := B.bytes
  have hr := B.returns
  have hts := atoms_spec (ws := wq yX3_portionsOf cX3_portionsOf 4 (some .int)) B.pre
  have hown : s.vm.findClass RX3 = some m.cls := findClass_of_methodNamed B.named
  have hlocks := B.notSynchronized
  subst hsz
  have hD := hD0.self (sz := s.heap.size)
  generalize hAe : va_A [(o, .inr (3, [.ref k, .ref op, .int 0, .ref oq, .ref ov, .ref os])), (op, .inl (cI, 6, .inl (upd (upd (upd (upd (upd (upd (fun _ => 0) 5 0) 4 0) 3 0) 2 0) 1 0) 0 0))), (k, .inr (0, [.ref ks, .ref kw, .ref kc, .int (-6), .int 0, .int 0, .ref kq, .ref km, .ref kd, .int 0, .ref ka, .ref kk])), (kq, .inl (cI, 6, .inl (fun _ => 0)))] s.heap.size = A at hD hKx ⊢
  have hA : ∀ q : Nat, s.heap.size ≤ q → A q := fun q h => by rw [← hAe]; exact Or.inr h
  have hS : va_S A s.heap s.heap [] := va_S.rf
  have hP : va_P (dC, dI) vwCl [(o, .inr (3, [.ref k, .ref op, .int 0, .ref oq, .ref ov, .ref os])), (op, .inl (cI, 6, .inl (upd (upd (upd (upd (upd (upd (fun _ => 0) 5 0) 4 0) 3 0) 2 0) 1 0) 0 0))), (k, .inr (0, [.ref ks, .ref kw, .ref kc, .int (-6), .int 0, .int 0, .ref kq, .ref km, .ref kd, .int 0, .ref ka, .ref kk])), (kq, .inl (cI, 6, .inl (fun _ => 0)))] s.heap := hP
  have hl := lv_entry ([.ref o, .int 1]) (n := 4) (Nat.le_of_ble_eq_true rfl)
  rw [lg_entry_eq]
  generalize (lg_sl ([.ref o, .int 1]) ++ List.replicate (4 - (lg_sl ([.ref o, .int 1])).length) Slot.unset).toArray = ls at hl ⊢
  have hl : lv_has ls 4 [(0, .ref o), (1, .int 1)] := hl
  have hK := hKx.1
  have hin3 := fun w9 h9 => List.mem_cons_of_mem (Cond.code yX3_portionsOf cX3_portionsOf 4 (some .int)) (inlX3 w9 h9)
  have hin0 := fun w9 h9 => List.mem_cons_of_mem (Cond.code yX3_portionsOf cX3_portionsOf 4 (some .int)) (inlX0 w9 h9)
  have hw0 := hts (.fieldLink RX3 24 "OneCan$Order" "camp" "LOneCan$Camp;") (List.mem_cons_of_mem _ wm_167)
  have hw1 := hts (.fieldLink RX3 49 "OneCan$Camp" "quarts" "[I") (List.mem_cons_of_mem _ wm_185)
  refine lv_iconst (v := 0) hx hb dX3_portionsOf_0 (by decide) ?_
  refine lv_istore_n (lv' := [(2, .int 0), (0, .ref o), (1, .int 1)]) hx hb dX3_portionsOf_1 rfl hl (by decide) rfl (fun ls hl => ?_)
  refine lv_iconst (v := 0) hx hb dX3_portionsOf_2 (by decide) ?_
  refine lv_istore_n (lv' := [(3, .int 0), (2, .int 0), (0, .ref o), (1, .int 1)]) hx hb dX3_portionsOf_3 rfl hl (by decide) rfl (fun ls hl => ?_)
  refine lv_iload_n hx hb dX3_portionsOf_4 rfl (lv_at hl 0 rfl) ?_
  refine lv_bipush (v := 6) hx hb dX3_portionsOf_5 (by decide) ?_
  refine lv_icmp_ge (tgt := 38) hx hb dX3_portionsOf_7 (by decide) (fun c1 => absurd c1 (by decide)) (fun c1 => ?_)
  refine lv_aload_n hx hb dX3_portionsOf_10 rfl (lv_at hl 2 rfl) ?_
  refine va_get (D := (dC, dI)) (ci := 3) (v := .ref k) (C := RX3) (T := TX3) (N := 6) hx hb hts hin3 hown hK hP 0 rfl rfl 0 (by decide) hw0 (fun _ h9 => h9) rfl dX3_portionsOf_11 ?_
  refine va_get (D := (dC, dI)) (ci := 0) (v := .ref kq) (C := RX0) (T := TX0) (N := 12) hx hb hts hin0 hown hK hP 2 rfl rfl 6 (by decide) hw1 (fun _ h9 => h9) rfl dX3_portionsOf_14 ?_
  refine lv_iload_n hx hb dX3_portionsOf_17 rfl (lv_at hl 0 rfl) ?_
  refine va_iald hx hb hK hP 3 0 rfl rfl (vin (by decide) (by decide)) dX3_portionsOf_18 ?_
  refine lv_topi (fun x2 e2 => ?_)
  obtain rfl : x2 = 0 := e2.trans (by first | rfl | decide)
  refine lv_iload_n hx hb dX3_portionsOf_19 rfl (lv_at hl 3 rfl) ?_
  refine lv_icmp_ne (tgt := 32) hx hb dX3_portionsOf_20 (by decide) (fun c3 => ?_) (fun c3 => absurd c3 (by decide))
  refine lv_iinc (v := 1) (lv' := [(3, .int 1), (2, .int 0), (0, .ref o), (1, .int 1)]) hx hb dX3_portionsOf_32 hl (k := 0) rfl (by decide) (by decide) rfl (fun ls hl => ?_)
  refine lv_goto (tgt := 4) hx hb dX3_portionsOf_35 (by decide) ?_
  refine lv_iload_n hx hb dX3_portionsOf_4 rfl (lv_at hl 0 rfl) ?_
  refine lv_bipush (v := 6) hx hb dX3_portionsOf_5 (by decide) ?_
  refine lv_icmp_ge (tgt := 38) hx hb dX3_portionsOf_7 (by decide) (fun c4 => absurd c4 (by decide)) (fun c4 => ?_)
  refine lv_aload_n hx hb dX3_portionsOf_10 rfl (lv_at hl 2 rfl) ?_
  refine va_get (D := (dC, dI)) (ci := 3) (v := .ref k) (C := RX3) (T := TX3) (N := 6) hx hb hts hin3 hown hK hP 0 rfl rfl 0 (by decide) hw0 (fun _ h9 => h9) rfl dX3_portionsOf_11 ?_
  refine va_get (D := (dC, dI)) (ci := 0) (v := .ref kq) (C := RX0) (T := TX0) (N := 12) hx hb hts hin0 hown hK hP 2 rfl rfl 6 (by decide) hw1 (fun _ h9 => h9) rfl dX3_portionsOf_14 ?_
  refine lv_iload_n hx hb dX3_portionsOf_17 rfl (lv_at hl 0 rfl) ?_
  refine va_iald hx hb hK hP 3 0 rfl rfl (vin (by decide) (by decide)) dX3_portionsOf_18 ?_
  refine lv_topi (fun x5 e5 => ?_)
  obtain rfl : x5 = 0 := e5.trans (by first | rfl | decide)
  refine lv_iload_n hx hb dX3_portionsOf_19 rfl (lv_at hl 3 rfl) ?_
  refine lv_icmp_ne (tgt := 32) hx hb dX3_portionsOf_20 (by decide) (fun c6 => ?_) (fun c6 => absurd c6 (by decide))
  refine lv_iinc (v := 2) (lv' := [(3, .int 2), (2, .int 0), (0, .ref o), (1, .int 1)]) hx hb dX3_portionsOf_32 hl (k := 0) rfl (by decide) (by decide) rfl (fun ls hl => ?_)
  refine lv_goto (tgt := 4) hx hb dX3_portionsOf_35 (by decide) ?_
  refine lv_iload_n hx hb dX3_portionsOf_4 rfl (lv_at hl 0 rfl) ?_
  refine lv_bipush (v := 6) hx hb dX3_portionsOf_5 (by decide) ?_
  refine lv_icmp_ge (tgt := 38) hx hb dX3_portionsOf_7 (by decide) (fun c7 => absurd c7 (by decide)) (fun c7 => ?_)
  refine lv_aload_n hx hb dX3_portionsOf_10 rfl (lv_at hl 2 rfl) ?_
  refine va_get (D := (dC, dI)) (ci := 3) (v := .ref k) (C := RX3) (T := TX3) (N := 6) hx hb hts hin3 hown hK hP 0 rfl rfl 0 (by decide) hw0 (fun _ h9 => h9) rfl dX3_portionsOf_11 ?_
  refine va_get (D := (dC, dI)) (ci := 0) (v := .ref kq) (C := RX0) (T := TX0) (N := 12) hx hb hts hin0 hown hK hP 2 rfl rfl 6 (by decide) hw1 (fun _ h9 => h9) rfl dX3_portionsOf_14 ?_
  refine lv_iload_n hx hb dX3_portionsOf_17 rfl (lv_at hl 0 rfl) ?_
  refine va_iald hx hb hK hP 3 0 rfl rfl (vin (by decide) (by decide)) dX3_portionsOf_18 ?_
  refine lv_topi (fun x8 e8 => ?_)
  obtain rfl : x8 = 0 := e8.trans (by first | rfl | decide)
  refine lv_iload_n hx hb dX3_portionsOf_19 rfl (lv_at hl 3 rfl) ?_
  refine lv_icmp_ne (tgt := 32) hx hb dX3_portionsOf_20 (by decide) (fun c9 => ?_) (fun c9 => absurd c9 (by decide))
  refine lv_iinc (v := 3) (lv' := [(3, .int 3), (2, .int 0), (0, .ref o), (1, .int 1)]) hx hb dX3_portionsOf_32 hl (k := 0) rfl (by decide) (by decide) rfl (fun ls hl => ?_)
  refine lv_goto (tgt := 4) hx hb dX3_portionsOf_35 (by decide) ?_
  refine lv_iload_n hx hb dX3_portionsOf_4 rfl (lv_at hl 0 rfl) ?_
  refine lv_bipush (v := 6) hx hb dX3_portionsOf_5 (by decide) ?_
  refine lv_icmp_ge (tgt := 38) hx hb dX3_portionsOf_7 (by decide) (fun c10 => absurd c10 (by decide)) (fun c10 => ?_)
  refine lv_aload_n hx hb dX3_portionsOf_10 rfl (lv_at hl 2 rfl) ?_
  refine va_get (D := (dC, dI)) (ci := 3) (v := .ref k) (C := RX3) (T := TX3) (N := 6) hx hb hts hin3 hown hK hP 0 rfl rfl 0 (by decide) hw0 (fun _ h9 => h9) rfl dX3_portionsOf_11 ?_
  refine va_get (D := (dC, dI)) (ci := 0) (v := .ref kq) (C := RX0) (T := TX0) (N := 12) hx hb hts hin0 hown hK hP 2 rfl rfl 6 (by decide) hw1 (fun _ h9 => h9) rfl dX3_portionsOf_14 ?_
  refine lv_iload_n hx hb dX3_portionsOf_17 rfl (lv_at hl 0 rfl) ?_
  refine va_iald hx hb hK hP 3 0 rfl rfl (vin (by decide) (by decide)) dX3_portionsOf_18 ?_
  refine lv_topi (fun x11 e11 => ?_)
  obtain rfl : x11 = 0 := e11.trans (by first | rfl | decide)
  refine lv_iload_n hx hb dX3_portionsOf_19 rfl (lv_at hl 3 rfl) ?_
  refine lv_icmp_ne (tgt := 32) hx hb dX3_portionsOf_20 (by decide) (fun c12 => ?_) (fun c12 => absurd c12 (by decide))
  refine lv_iinc (v := 4) (lv' := [(3, .int 4), (2, .int 0), (0, .ref o), (1, .int 1)]) hx hb dX3_portionsOf_32 hl (k := 0) rfl (by decide) (by decide) rfl (fun ls hl => ?_)
  refine lv_goto (tgt := 4) hx hb dX3_portionsOf_35 (by decide) ?_
  refine lv_iload_n hx hb dX3_portionsOf_4 rfl (lv_at hl 0 rfl) ?_
  refine lv_bipush (v := 6) hx hb dX3_portionsOf_5 (by decide) ?_
  refine lv_icmp_ge (tgt := 38) hx hb dX3_portionsOf_7 (by decide) (fun c13 => absurd c13 (by decide)) (fun c13 => ?_)
  refine lv_aload_n hx hb dX3_portionsOf_10 rfl (lv_at hl 2 rfl) ?_
  refine va_get (D := (dC, dI)) (ci := 3) (v := .ref k) (C := RX3) (T := TX3) (N := 6) hx hb hts hin3 hown hK hP 0 rfl rfl 0 (by decide) hw0 (fun _ h9 => h9) rfl dX3_portionsOf_11 ?_
  refine va_get (D := (dC, dI)) (ci := 0) (v := .ref kq) (C := RX0) (T := TX0) (N := 12) hx hb hts hin0 hown hK hP 2 rfl rfl 6 (by decide) hw1 (fun _ h9 => h9) rfl dX3_portionsOf_14 ?_
  refine lv_iload_n hx hb dX3_portionsOf_17 rfl (lv_at hl 0 rfl) ?_
  refine va_iald hx hb hK hP 3 0 rfl rfl (vin (by decide) (by decide)) dX3_portionsOf_18 ?_
  refine lv_topi (fun x14 e14 => ?_)
  obtain rfl : x14 = 0 := e14.trans (by first | rfl | decide)
  refine lv_iload_n hx hb dX3_portionsOf_19 rfl (lv_at hl 3 rfl) ?_
  refine lv_icmp_ne (tgt := 32) hx hb dX3_portionsOf_20 (by decide) (fun c15 => ?_) (fun c15 => absurd c15 (by decide))
  refine lv_iinc (v := 5) (lv' := [(3, .int 5), (2, .int 0), (0, .ref o), (1, .int 1)]) hx hb dX3_portionsOf_32 hl (k := 0) rfl (by decide) (by decide) rfl (fun ls hl => ?_)
  refine lv_goto (tgt := 4) hx hb dX3_portionsOf_35 (by decide) ?_
  refine lv_iload_n hx hb dX3_portionsOf_4 rfl (lv_at hl 0 rfl) ?_
  refine lv_bipush (v := 6) hx hb dX3_portionsOf_5 (by decide) ?_
  refine lv_icmp_ge (tgt := 38) hx hb dX3_portionsOf_7 (by decide) (fun c16 => absurd c16 (by decide)) (fun c16 => ?_)
  refine lv_aload_n hx hb dX3_portionsOf_10 rfl (lv_at hl 2 rfl) ?_
  refine va_get (D := (dC, dI)) (ci := 3) (v := .ref k) (C := RX3) (T := TX3) (N := 6) hx hb hts hin3 hown hK hP 0 rfl rfl 0 (by decide) hw0 (fun _ h9 => h9) rfl dX3_portionsOf_11 ?_
  refine va_get (D := (dC, dI)) (ci := 0) (v := .ref kq) (C := RX0) (T := TX0) (N := 12) hx hb hts hin0 hown hK hP 2 rfl rfl 6 (by decide) hw1 (fun _ h9 => h9) rfl dX3_portionsOf_14 ?_
  refine lv_iload_n hx hb dX3_portionsOf_17 rfl (lv_at hl 0 rfl) ?_
  refine va_iald hx hb hK hP 3 0 rfl rfl (vin (by decide) (by decide)) dX3_portionsOf_18 ?_
  refine lv_topi (fun x17 e17 => ?_)
  obtain rfl : x17 = 0 := e17.trans (by first | rfl | decide)
  refine lv_iload_n hx hb dX3_portionsOf_19 rfl (lv_at hl 3 rfl) ?_
  refine lv_icmp_ne (tgt := 32) hx hb dX3_portionsOf_20 (by decide) (fun c18 => ?_) (fun c18 => absurd c18 (by decide))
  refine lv_iinc (v := 6) (lv' := [(3, .int 6), (2, .int 0), (0, .ref o), (1, .int 1)]) hx hb dX3_portionsOf_32 hl (k := 0) rfl (by decide) (by decide) rfl (fun ls hl => ?_)
  refine lv_goto (tgt := 4) hx hb dX3_portionsOf_35 (by decide) ?_
  refine lv_iload_n hx hb dX3_portionsOf_4 rfl (lv_at hl 0 rfl) ?_
  refine lv_bipush (v := 6) hx hb dX3_portionsOf_5 (by decide) ?_
  refine lv_icmp_ge (tgt := 38) hx hb dX3_portionsOf_7 (by decide) (fun c19 => ?_) (fun c19 => absurd c19 (by decide))
  refine lv_iload_n hx hb dX3_portionsOf_38 rfl (lv_at hl 1 rfl) ?_
  have hP9 := mx_subP (wc := [(o, .inr (3, [.ref k, .ref op, .int 0, .ref oq, .ref ov, .ref os])), (op, .inl (cI, 6, .inl (upd (upd (upd (upd (upd (upd (fun _ => 0) 5 0) 4 0) 3 0) 2 0) 1 0) 0 0))), (k, .inr (0, [.ref ks, .ref kw, .ref kc, .int (-6), .int 0, .int 0, .ref kq, .ref km, .ref kd, .int 0, .ref ka, .ref kk])), (kq, .inl (cI, 6, .inl (fun _ => 0)))]) hP [0, 1, 2, 3] rfl
  have hD9 := hD.sub (ws' := [(o, .inr (3, [.ref k, .ref op, .int 0, .ref oq, .ref ov, .ref os])), (op, .inl (cI, 6, .inl (upd (upd (upd (upd (upd (upd (fun _ => 0) 5 0) 4 0) 3 0) 2 0) 1 0) 0 0))), (k, .inr (0, [.ref ks, .ref kw, .ref kc, .int (-6), .int 0, .int 0, .ref kq, .ref km, .ref kd, .int 0, .ref ka, .ref kk])), (kq, .inl (cI, 6, .inl (fun _ => 0)))]) [0, 1, 2, 3] (by decide) rfl
  exact W.iret (v := 0) hx hb hr (fun t ht hW => ⟨⟨0, (), rfl, rfl, by rw [ht]; exact hP9, hD9⟩, hS.F ht⟩) hS.2.2 dX3_portionsOf_39
set_option maxHeartbeats 4000000 in
set_option maxRecDepth 100000 in
theorem c_X3_portionsOf_2 (l : Launch) (dC : Nat → ClassId) (dI : Nat → Nat → Nat) (cI cZ cK : ClassId) (tS aK aV : Nat) (o : Nat) (k : Nat) (ks : Nat) (kw : Nat) (kc : Nat) (kq : Nat) (km : Nat) (kd : Nat) (ka : Nat) (kk : Nat) (op : Nat) (oq : Nat) (ov : Nat) (os : Nat) (sz : Nat) : Ci l yX3_portionsOf (wq yX3_portionsOf cX3_portionsOf 4 (some .int)) ({ frames := 0, cells := 0, slots := 0, locals := 0 }) dC dI cI cZ cK tS aK aV [.ref o, .int 2] sz [(o, .inr (3, [.ref k, .ref op, .int 0, .ref oq, .ref ov, .ref os])), (op, .inl (cI, 6, .inl (upd (upd (upd (upd (upd (upd (fun _ => 0) 5 0) 4 0) 3 0) 2 0) 1 0) 0 0))), (k, .inr (0, [.ref ks, .ref kw, .ref kc, .int (-6), .int 0, .int 0, .ref kq, .ref km, .ref kd, .int 0, .ref ka, .ref kk])), (kq, .inl (cI, 6, .inl (fun _ => 0)))] (fun (r : Int32) (_ : Unit) => r = 0) (fun _ => [(o, .inr (3, [.ref k, .ref op, .int 0, .ref oq, .ref ov, .ref os])), (op, .inl (cI, 6, .inl (upd (upd (upd (upd (upd (upd (fun _ => 0) 5 0) 4 0) 3 0) 2 0) 1 0) 0 0))), (k, .inr (0, [.ref ks, .ref kw, .ref kc, .int (-6), .int 0, .int 0, .ref kq, .ref km, .ref kd, .int 0, .ref ka, .ref kk])), (kq, .inl (cI, 6, .inl (fun _ => 0)))]) := by
  refine Met.ofW (cc := cX3_portionsOf) (maxL := 4) (ret := (some .int)) (by decide) rfl ?_
  intro p e s m args below meth c s₁ B hml hv
  obtain ⟨rfl, hsz, hP, hKx, hD0⟩ := hv
  have hx := B.exec
  have hb := B.bytes
  have hr := B.returns
  have hts := atoms_spec (ws := wq yX3_portionsOf cX3_portionsOf 4 (some .int)) B.pre
  have hown : s.vm.findClass RX3 = some m.cls := findClass_of_methodNamed B.named
  have hlocks := B.notSynchronized
  subst hsz
  have hD := hD0.self (sz := s.heap.size)
  generalize hAe : va_A [(o, .inr (3, [.ref k, .ref op, .int 0, .ref oq, .ref ov, .ref os])), (op, .inl (cI, 6, .inl (upd (upd (upd (upd (upd (upd (fun _ => 0) 5 0) 4 0) 3 0) 2 0) 1 0) 0 0))), (k, .inr (0, [.ref ks, .ref kw, .ref kc, .int (-6), .int 0, .int 0, .ref kq, .ref km, .ref kd, .int 0, .ref ka, .ref kk])), (kq, .inl (cI, 6, .inl (fun _ => 0)))] s.heap.size = A at hD hKx ⊢
  have hA : ∀ q : Nat, s.heap.size ≤ q → A q := fun q h => by rw [← hAe]; exact Or.inr h
  have hS : va_S A s.heap s.heap [] := va_S.rf
  have hP : va_P (dC, dI) vwCl [(o, .inr (3, [.ref k, .ref op, .int 0, .ref oq, .ref ov, .ref os])), (op, .inl (cI, 6, .inl (upd (upd (upd (upd (upd (upd (fun _ => 0) 5 0) 4 0) 3 0) 2 0) 1 0) 0 0))), (k, .inr (0, [.ref ks, .ref kw, .ref kc, .int (-6), .int 0, .int 0, .ref kq, .ref km, .ref kd, .int 0, .ref ka, .ref kk])), (kq, .inl (cI, 6, .inl (fun _ => 0)))] s.heap := hP
  have hl := lv_entry ([.ref o, .int 2]) (n := 4) (Nat.le_of_ble_eq_true rfl)
  rw [lg_entry_eq]
  generalize (lg_sl ([.ref o, .int 2]) ++ List.replicate (4 - (lg_sl ([.ref o, .int 2])).length) Slot.unset).toArray = ls at hl ⊢
  have hl : lv_has ls 4 [(0, .ref o), (1, .int 2)] := hl
  have hK := hKx.1
  have hin3 := fun w9 h9 => List.mem_cons_of_mem (Cond.code yX3_portionsOf cX3_portionsOf 4 (some .int)) (inlX3 w9 h9)
  have hin0 := fun w9 h9 => List.mem_cons_of_mem (Cond.code yX3_portionsOf cX3_portionsOf 4 (some .int)) (inlX0 w9 h9)
  have hw0 := hts (.fieldLink RX3 24 "OneCan$Order" "camp" "LOneCan$Camp;") (List.mem_cons_of_mem _ wm_167)
  have hw1 := hts (.fieldLink RX3 49 "OneCan$Camp" "quarts" "[I") (List.mem_cons_of_mem _ wm_185)
  refine lv_iconst (v := 0) hx hb dX3_portionsOf_0 (by decide) ?_
  refine lv_istore_n (lv' := [(2, .int 0), (0, .ref o), (1, .int 2)]) hx hb dX3_portionsOf_1 rfl hl (by decide) rfl (fun ls hl => ?_)
  refine lv_iconst (v := 0) hx hb dX3_portionsOf_2 (by decide) ?_
  refine lv_istore_n (lv' := [(3, .int 0), (2, .int 0), (0, .ref o), (1, .int 2)]) hx hb dX3_portionsOf_3 rfl hl (by decide) rfl (fun ls hl => ?_)
  refine lv_iload_n hx hb dX3_portionsOf_4 rfl (lv_at hl 0 rfl) ?_
  refine lv_bipush (v := 6) hx hb dX3_portionsOf_5 (by decide) ?_
  refine lv_icmp_ge (tgt := 38) hx hb dX3_portionsOf_7 (by decide) (fun c1 => absurd c1 (by decide)) (fun c1 => ?_)
  refine lv_aload_n hx hb dX3_portionsOf_10 rfl (lv_at hl 2 rfl) ?_
  refine va_get (D := (dC, dI)) (ci := 3) (v := .ref k) (C := RX3) (T := TX3) (N := 6) hx hb hts hin3 hown hK hP 0 rfl rfl 0 (by decide) hw0 (fun _ h9 => h9) rfl dX3_portionsOf_11 ?_
  refine va_get (D := (dC, dI)) (ci := 0) (v := .ref kq) (C := RX0) (T := TX0) (N := 12) hx hb hts hin0 hown hK hP 2 rfl rfl 6 (by decide) hw1 (fun _ h9 => h9) rfl dX3_portionsOf_14 ?_
  refine lv_iload_n hx hb dX3_portionsOf_17 rfl (lv_at hl 0 rfl) ?_
  refine va_iald hx hb hK hP 3 0 rfl rfl (vin (by decide) (by decide)) dX3_portionsOf_18 ?_
  refine lv_topi (fun x2 e2 => ?_)
  obtain rfl : x2 = 0 := e2.trans (by first | rfl | decide)
  refine lv_iload_n hx hb dX3_portionsOf_19 rfl (lv_at hl 3 rfl) ?_
  refine lv_icmp_ne (tgt := 32) hx hb dX3_portionsOf_20 (by decide) (fun c3 => ?_) (fun c3 => absurd c3 (by decide))
  refine lv_iinc (v := 1) (lv' := [(3, .int 1), (2, .int 0), (0, .ref o), (1, .int 2)]) hx hb dX3_portionsOf_32 hl (k := 0) rfl (by decide) (by decide) rfl (fun ls hl => ?_)
  refine lv_goto (tgt := 4) hx hb dX3_portionsOf_35 (by decide) ?_
  refine lv_iload_n hx hb dX3_portionsOf_4 rfl (lv_at hl 0 rfl) ?_
  refine lv_bipush (v := 6) hx hb dX3_portionsOf_5 (by decide) ?_
  refine lv_icmp_ge (tgt := 38) hx hb dX3_portionsOf_7 (by decide) (fun c4 => absurd c4 (by decide)) (fun c4 => ?_)
  refine lv_aload_n hx hb dX3_portionsOf_10 rfl (lv_at hl 2 rfl) ?_
  refine va_get (D := (dC, dI)) (ci := 3) (v := .ref k) (C := RX3) (T := TX3) (N := 6) hx hb hts hin3 hown hK hP 0 rfl rfl 0 (by decide) hw0 (fun _ h9 => h9) rfl dX3_portionsOf_11 ?_
  refine va_get (D := (dC, dI)) (ci := 0) (v := .ref kq) (C := RX0) (T := TX0) (N := 12) hx hb hts hin0 hown hK hP 2 rfl rfl 6 (by decide) hw1 (fun _ h9 => h9) rfl dX3_portionsOf_14 ?_
  refine lv_iload_n hx hb dX3_portionsOf_17 rfl (lv_at hl 0 rfl) ?_
  refine va_iald hx hb hK hP 3 0 rfl rfl (vin (by decide) (by decide)) dX3_portionsOf_18 ?_
  refine lv_topi (fun x5 e5 => ?_)
  obtain rfl : x5 = 0 := e5.trans (by first | rfl | decide)
  refine lv_iload_n hx hb dX3_portionsOf_19 rfl (lv_at hl 3 rfl) ?_
  refine lv_icmp_ne (tgt := 32) hx hb dX3_portionsOf_20 (by decide) (fun c6 => ?_) (fun c6 => absurd c6 (by decide))
  refine lv_iinc (v := 2) (lv' := [(3, .int 2), (2, .int 0), (0, .ref o), (1, .int 2)]) hx hb dX3_portionsOf_32 hl (k := 0) rfl (by decide) (by decide) rfl (fun ls hl => ?_)
  refine lv_goto (tgt := 4) hx hb dX3_portionsOf_35 (by decide) ?_
  refine lv_iload_n hx hb dX3_portionsOf_4 rfl (lv_at hl 0 rfl) ?_
  refine lv_bipush (v := 6) hx hb dX3_portionsOf_5 (by decide) ?_
  refine lv_icmp_ge (tgt := 38) hx hb dX3_portionsOf_7 (by decide) (fun c7 => absurd c7 (by decide)) (fun c7 => ?_)
  refine lv_aload_n hx hb dX3_portionsOf_10 rfl (lv_at hl 2 rfl) ?_
  refine va_get (D := (dC, dI)) (ci := 3) (v := .ref k) (C := RX3) (T := TX3) (N := 6) hx hb hts hin3 hown hK hP 0 rfl rfl 0 (by decide) hw0 (fun _ h9 => h9) rfl dX3_portionsOf_11 ?_
  refine va_get (D := (dC, dI)) (ci := 0) (v := .ref kq) (C := RX0) (T := TX0) (N := 12) hx hb hts hin0 hown hK hP 2 rfl rfl 6 (by decide) hw1 (fun _ h9 => h9) rfl dX3_portionsOf_14 ?_
  refine lv_iload_n hx hb dX3_portionsOf_17 rfl (lv_at hl 0 rfl) ?_
  refine va_iald hx hb hK hP 3 0 rfl rfl (vin (by decide) (by decide)) dX3_portionsOf_18 ?_
  refine lv_topi (fun x8 e8 => ?_)
  obtain rfl : x8 = 0 := e8.trans (by first | rfl | decide)
  refine lv_iload_n hx hb dX3_portionsOf_19 rfl (lv_at hl 3 rfl) ?_
  refine lv_icmp_ne (tgt := 32) hx hb dX3_portionsOf_20 (by decide) (fun c9 => ?_) (fun c9 => absurd c9 (by decide))
  refine lv_iinc (v := 3) (lv' := [(3, .int 3), (2, .int 0), (0, .ref o), (1, .int 2)]) hx hb dX3_portionsOf_32 hl (k := 0) rfl (by decide) (by decide) rfl (fun ls hl => ?_)
  refine lv_goto (tgt := 4) hx hb dX3_portionsOf_35 (by decide) ?_
  refine lv_iload_n hx hb dX3_portionsOf_4 rfl (lv_at hl 0 rfl) ?_
  refine lv_bipush (v := 6) hx hb dX3_portionsOf_5 (by decide) ?_
  refine lv_icmp_ge (tgt := 38) hx hb dX3_portionsOf_7 (by decide) (fun c10 => absurd c10 (by decide)) (fun c10 => ?_)
  refine lv_aload_n hx hb dX3_portionsOf_10 rfl (lv_at hl 2 rfl) ?_
  refine va_get (D := (dC, dI)) (ci := 3) (v := .ref k) (C := RX3) (T := TX3) (N := 6) hx hb hts hin3 hown hK hP 0 rfl rfl 0 (by decide) hw0 (fun _ h9 => h9) rfl dX3_portionsOf_11 ?_
  refine va_get (D := (dC, dI)) (ci := 0) (v := .ref kq) (C := RX0) (T := TX0) (N := 12) hx hb hts hin0 hown hK hP 2 rfl rfl 6 (by decide) hw1 (fun _ h9 => h9) rfl dX3_portionsOf_14 ?_
  refine lv_iload_n hx hb dX3_portionsOf_17 rfl (lv_at hl 0 rfl) ?_
  refine va_iald hx hb hK hP 3 0 rfl rfl (vin (by decide) (by decide)) dX3_portionsOf_18 ?_
  refine lv_topi (fun x11 e11 => ?_)
  obtain rfl : x11 = 0 := e11.trans (by first | rfl | decide)
  refine lv_iload_n hx hb dX3_portionsOf_19 rfl (lv_at hl 3 rfl) ?_
  refine lv_icmp_ne (tgt := 32) hx hb dX3_portionsOf_20 (by decide) (fun c12 => ?_) (fun c12 => absurd c12 (by decide))
  refine lv_iinc (v := 4) (lv' := [(3, .int 4), (2, .int 0), (0, .ref o), (1, .int 2)]) hx hb dX3_portionsOf_32 hl (k := 0) rfl (by decide) (by decide) rfl (fun ls hl => ?_)
  refine lv_goto (tgt := 4) hx hb dX3_portionsOf_35 (by decide) ?_
  refine lv_iload_n hx hb dX3_portionsOf_4 rfl (lv_at hl 0 rfl) ?_
  refine lv_bipush (v := 6) hx hb dX3_portionsOf_5 (by decide) ?_
  refine lv_icmp_ge (tgt := 38) hx hb dX3_portionsOf_7 (by decide) (fun c13 => absurd c13 (by decide)) (fun c13 => ?_)
  refine lv_aload_n hx hb dX3_portionsOf_10 rfl (lv_at hl 2 rfl) ?_
  refine va_get (D := (dC, dI)) (ci := 3) (v := .ref k) (C := RX3) (T := TX3) (N := 6) hx hb hts hin3 hown hK hP 0 rfl rfl 0 (by decide) hw0 (fun _ h9 => h9) rfl dX3_portionsOf_11 ?_
  refine va_get (D := (dC, dI)) (ci := 0) (v := .ref kq) (C := RX0) (T := TX0) (N := 12) hx hb hts hin0 hown hK hP 2 rfl rfl 6 (by decide) hw1 (fun _ h9 => h9) rfl dX3_portionsOf_14 ?_
  refine lv_iload_n hx hb dX3_portionsOf_17 rfl (lv_at hl 0 rfl) ?_
  refine va_iald hx hb hK hP 3 0 rfl rfl (vin (by decide) (by decide)) dX3_portionsOf_18 ?_
  refine lv_topi (fun x14 e14 => ?_)
  obtain rfl : x14 = 0 := e14.trans (by first | rfl | decide)
  refine lv_iload_n hx hb dX3_portionsOf_19 rfl (lv_at hl 3 rfl) ?_
  refine lv_icmp_ne (tgt := 32) hx hb dX3_portionsOf_20 (by decide) (fun c15 => ?_) (fun c15 => absurd c15 (by decide))
  refine lv_iinc (v := 5) (lv' := [(3, .int 5), (2, .int 0), (0, .ref o), (1, .int 2)]) hx hb dX3_portionsOf_32 hl (k := 0) rfl (by decide) (by decide) rfl (fun ls hl => ?_)
  refine lv_goto (tgt := 4) hx hb dX3_portionsOf_35 (by decide) ?_
  refine lv_iload_n hx hb dX3_portionsOf_4 rfl (lv_at hl 0 rfl) ?_
  refine lv_bipush (v := 6) hx hb dX3_portionsOf_5 (by decide) ?_
  refine lv_icmp_ge (tgt := 38) hx hb dX3_portionsOf_7 (by decide) (fun c16 => absurd c16 (by decide)) (fun c16 => ?_)
  refine lv_aload_n hx hb dX3_portionsOf_10 rfl (lv_at hl 2 rfl) ?_
  refine va_get (D := (dC, dI)) (ci := 3) (v := .ref k) (C := RX3) (T := TX3) (N := 6) hx hb hts hin3 hown hK hP 0 rfl rfl 0 (by decide) hw0 (fun _ h9 => h9) rfl dX3_portionsOf_11 ?_
  refine va_get (D := (dC, dI)) (ci := 0) (v := .ref kq) (C := RX0) (T := TX0) (N := 12) hx hb hts hin0 hown hK hP 2 rfl rfl 6 (by decide) hw1 (fun _ h9 => h9) rfl dX3_portionsOf_14 ?_
  refine lv_iload_n hx hb dX3_portionsOf_17 rfl (lv_at hl 0 rfl) ?_
  refine va_iald hx hb hK hP 3 0 rfl rfl (vin (by decide) (by decide)) dX3_portionsOf_18 ?_
  refine lv_topi (fun x17 e17 => ?_)
  obtain rfl : x17 = 0 := e17.trans (by first | rfl | decide)
  refine lv_iload_n hx hb dX3_portionsOf_19 rfl (lv_at hl 3 rfl) ?_
  refine lv_icmp_ne (tgt := 32) hx hb dX3_portionsOf_20 (by decide) (fun c18 => ?_) (fun c18 => absurd c18 (by decide))
  refine lv_iinc (v := 6) (lv' := [(3, .int 6), (2, .int 0), (0, .ref o), (1, .int 2)]) hx hb dX3_portionsOf_32 hl (k := 0) rfl (by decide) (by decide) rfl (fun ls hl => ?_)
  refine lv_goto (tgt := 4) hx hb dX3_portionsOf_35 (by decide) ?_
  refine lv_iload_n hx hb dX3_portionsOf_4 rfl (lv_at hl 0 rfl) ?_
  refine lv_bipush (v := 6) hx hb dX3_portionsOf_5 (by decide) ?_
  refine lv_icmp_ge (tgt := 38) hx hb dX3_portionsOf_7 (by decide) (fun c19 => ?_) (fun c19 => absurd c19 (by decide))
  refine lv_iload_n hx hb dX3_portionsOf_38 rfl (lv_at hl 1 rfl) ?_
  have hP9 := mx_subP (wc := [(o, .inr (3, [.ref k, .ref op, .int 0, .ref oq, .ref ov, .ref os])), (op, .inl (cI, 6, .inl (upd (upd (upd (upd (upd (upd (fun _ => 0) 5 0) 4 0) 3 0) 2 0) 1 0) 0 0))), (k, .inr (0, [.ref ks, .ref kw, .ref kc, .int (-6), .int 0, .int 0, .ref kq, .ref km, .ref kd, .int 0, .ref ka, .ref kk])), (kq, .inl (cI, 6, .inl (fun _ => 0)))]) hP [0, 1, 2, 3] rfl
  have hD9 := hD.sub (ws' := [(o, .inr (3, [.ref k, .ref op, .int 0, .ref oq, .ref ov, .ref os])), (op, .inl (cI, 6, .inl (upd (upd (upd (upd (upd (upd (fun _ => 0) 5 0) 4 0) 3 0) 2 0) 1 0) 0 0))), (k, .inr (0, [.ref ks, .ref kw, .ref kc, .int (-6), .int 0, .int 0, .ref kq, .ref km, .ref kd, .int 0, .ref ka, .ref kk])), (kq, .inl (cI, 6, .inl (fun _ => 0)))]) [0, 1, 2, 3] (by decide) rfl
  exact W.iret (v := 0) hx hb hr (fun t ht hW => ⟨⟨0, (), rfl, rfl, by rw [ht]; exact hP9, hD9⟩, hS.F ht⟩) hS.2.2 dX3_portionsOf_39
set_option maxHeartbeats 4000000 in
set_option maxRecDepth 100000 in
theorem c_X3_portionsOf_3 (l : Launch) (dC : Nat → ClassId) (dI : Nat → Nat → Nat) (cI cZ cK : ClassId) (tS aK aV : Nat) (o : Nat) (k : Nat) (ks : Nat) (kw : Nat) (kc : Nat) (kq : Nat) (km : Nat) (kd : Nat) (ka : Nat) (kk : Nat) (op : Nat) (oq : Nat) (ov : Nat) (os : Nat) (sz : Nat) : Ci l yX3_portionsOf (wq yX3_portionsOf cX3_portionsOf 4 (some .int)) ({ frames := 0, cells := 0, slots := 0, locals := 0 }) dC dI cI cZ cK tS aK aV [.ref o, .int 3] sz [(o, .inr (3, [.ref k, .ref op, .int 0, .ref oq, .ref ov, .ref os])), (op, .inl (cI, 6, .inl (upd (upd (upd (upd (upd (upd (fun _ => 0) 5 0) 4 0) 3 0) 2 0) 1 0) 0 0))), (k, .inr (0, [.ref ks, .ref kw, .ref kc, .int (-6), .int 0, .int 0, .ref kq, .ref km, .ref kd, .int 0, .ref ka, .ref kk])), (kq, .inl (cI, 6, .inl (fun _ => 0)))] (fun (r : Int32) (_ : Unit) => r = 0) (fun _ => [(o, .inr (3, [.ref k, .ref op, .int 0, .ref oq, .ref ov, .ref os])), (op, .inl (cI, 6, .inl (upd (upd (upd (upd (upd (upd (fun _ => 0) 5 0) 4 0) 3 0) 2 0) 1 0) 0 0))), (k, .inr (0, [.ref ks, .ref kw, .ref kc, .int (-6), .int 0, .int 0, .ref kq, .ref km, .ref kd, .int 0, .ref ka, .ref kk])), (kq, .inl (cI, 6, .inl (fun _ => 0)))]) := by
  refine Met.ofW (cc := cX3_portionsOf) (maxL := 4) (ret := (some .int)) (by decide) rfl ?_
  intro p e s m args below meth c s₁ B hml hv
  obtain ⟨rfl, hsz, hP, hKx, hD0⟩ := hv
  have hx := B.exec
  have hb := B.bytes
  have hr := B.returns
  have hts := atoms_spec (ws := wq yX3_portionsOf cX3_portionsOf 4 (some .int)) B.pre
  have hown : s.vm.findClass RX3 = some m.cls := findClass_of_methodNamed B.named
  have hlocks := B.notSynchronized
  subst hsz
  have hD := hD0.self (sz := s.heap.size)
  generalize hAe : va_A [(o, .inr (3, [.ref k, .ref op, .int 0, .ref oq, .ref ov, .ref os])), (op, .inl (cI, 6, .inl (upd (upd (upd (upd (upd (upd (fun _ => 0) 5 0) 4 0) 3 0) 2 0) 1 0) 0 0))), (k, .inr (0, [.ref ks, .ref kw, .ref kc, .int (-6), .int 0, .int 0, .ref kq, .ref km, .ref kd, .int 0, .ref ka, .ref kk])), (kq, .inl (cI, 6, .inl (fun _ => 0)))] s.heap.size = A at hD hKx ⊢
  have hA : ∀ q : Nat, s.heap.size ≤ q → A q := fun q h => by rw [← hAe]; exact Or.inr h
  have hS : va_S A s.heap s.heap [] := va_S.rf
  have hP : va_P (dC, dI) vwCl [(o, .inr (3, [.ref k, .ref op, .int 0, .ref oq, .ref ov, .ref os])), (op, .inl (cI, 6, .inl (upd (upd (upd (upd (upd (upd (fun _ => 0) 5 0) 4 0) 3 0) 2 0) 1 0) 0 0))), (k, .inr (0, [.ref ks, .ref kw, .ref kc, .int (-6), .int 0, .int 0, .ref kq, .ref km, .ref kd, .int 0, .ref ka, .ref kk])), (kq, .inl (cI, 6, .inl (fun _ => 0)))] s.heap := hP
  have hl := lv_entry ([.ref o, .int 3]) (n := 4) (Nat.le_of_ble_eq_true rfl)
  rw [lg_entry_eq]
  generalize (lg_sl ([.ref o, .int 3]) ++ List.replicate (4 - (lg_sl ([.ref o, .int 3])).length) Slot.unset).toArray = ls at hl ⊢
  have hl : lv_has ls 4 [(0, .ref o), (1, .int 3)] := hl
  have hK := hKx.1
  have hin3 := fun w9 h9 => List.mem_cons_of_mem (Cond.code yX3_portionsOf cX3_portionsOf 4 (some .int)) (inlX3 w9 h9)
  have hin0 := fun w9 h9 => List.mem_cons_of_mem (Cond.code yX3_portionsOf cX3_portionsOf 4 (some .int)) (inlX0 w9 h9)
  have hw0 := hts (.fieldLink RX3 24 "OneCan$Order" "camp" "LOneCan$Camp;") (List.mem_cons_of_mem _ wm_167)
  have hw1 := hts (.fieldLink RX3 49 "OneCan$Camp" "quarts" "[I") (List.mem_cons_of_mem _ wm_185)
  refine lv_iconst (v := 0) hx hb dX3_portionsOf_0 (by decide) ?_
  refine lv_istore_n (lv' := [(2, .int 0), (0, .ref o), (1, .int 3)]) hx hb dX3_portionsOf_1 rfl hl (by decide) rfl (fun ls hl => ?_)
  refine lv_iconst (v := 0) hx hb dX3_portionsOf_2 (by decide) ?_
  refine lv_istore_n (lv' := [(3, .int 0), (2, .int 0), (0, .ref o), (1, .int 3)]) hx hb dX3_portionsOf_3 rfl hl (by decide) rfl (fun ls hl => ?_)
  refine lv_iload_n hx hb dX3_portionsOf_4 rfl (lv_at hl 0 rfl) ?_
  refine lv_bipush (v := 6) hx hb dX3_portionsOf_5 (by decide) ?_
  refine lv_icmp_ge (tgt := 38) hx hb dX3_portionsOf_7 (by decide) (fun c1 => absurd c1 (by decide)) (fun c1 => ?_)
  refine lv_aload_n hx hb dX3_portionsOf_10 rfl (lv_at hl 2 rfl) ?_
  refine va_get (D := (dC, dI)) (ci := 3) (v := .ref k) (C := RX3) (T := TX3) (N := 6) hx hb hts hin3 hown hK hP 0 rfl rfl 0 (by decide) hw0 (fun _ h9 => h9) rfl dX3_portionsOf_11 ?_
  refine va_get (D := (dC, dI)) (ci := 0) (v := .ref kq) (C := RX0) (T := TX0) (N := 12) hx hb hts hin0 hown hK hP 2 rfl rfl 6 (by decide) hw1 (fun _ h9 => h9) rfl dX3_portionsOf_14 ?_
  refine lv_iload_n hx hb dX3_portionsOf_17 rfl (lv_at hl 0 rfl) ?_
  refine va_iald hx hb hK hP 3 0 rfl rfl (vin (by decide) (by decide)) dX3_portionsOf_18 ?_
  refine lv_topi (fun x2 e2 => ?_)
  obtain rfl : x2 = 0 := e2.trans (by first | rfl | decide)
  refine lv_iload_n hx hb dX3_portionsOf_19 rfl (lv_at hl 3 rfl) ?_
  refine lv_icmp_ne (tgt := 32) hx hb dX3_portionsOf_20 (by decide) (fun c3 => ?_) (fun c3 => absurd c3 (by decide))
  refine lv_iinc (v := 1) (lv' := [(3, .int 1), (2, .int 0), (0, .ref o), (1, .int 3)]) hx hb dX3_portionsOf_32 hl (k := 0) rfl (by decide) (by decide) rfl (fun ls hl => ?_)
  refine lv_goto (tgt := 4) hx hb dX3_portionsOf_35 (by decide) ?_
  refine lv_iload_n hx hb dX3_portionsOf_4 rfl (lv_at hl 0 rfl) ?_
  refine lv_bipush (v := 6) hx hb dX3_portionsOf_5 (by decide) ?_
  refine lv_icmp_ge (tgt := 38) hx hb dX3_portionsOf_7 (by decide) (fun c4 => absurd c4 (by decide)) (fun c4 => ?_)
  refine lv_aload_n hx hb dX3_portionsOf_10 rfl (lv_at hl 2 rfl) ?_
  refine va_get (D := (dC, dI)) (ci := 3) (v := .ref k) (C := RX3) (T := TX3) (N := 6) hx hb hts hin3 hown hK hP 0 rfl rfl 0 (by decide) hw0 (fun _ h9 => h9) rfl dX3_portionsOf_11 ?_
  refine va_get (D := (dC, dI)) (ci := 0) (v := .ref kq) (C := RX0) (T := TX0) (N := 12) hx hb hts hin0 hown hK hP 2 rfl rfl 6 (by decide) hw1 (fun _ h9 => h9) rfl dX3_portionsOf_14 ?_
  refine lv_iload_n hx hb dX3_portionsOf_17 rfl (lv_at hl 0 rfl) ?_
  refine va_iald hx hb hK hP 3 0 rfl rfl (vin (by decide) (by decide)) dX3_portionsOf_18 ?_
  refine lv_topi (fun x5 e5 => ?_)
  obtain rfl : x5 = 0 := e5.trans (by first | rfl | decide)
  refine lv_iload_n hx hb dX3_portionsOf_19 rfl (lv_at hl 3 rfl) ?_
  refine lv_icmp_ne (tgt := 32) hx hb dX3_portionsOf_20 (by decide) (fun c6 => ?_) (fun c6 => absurd c6 (by decide))
  refine lv_iinc (v := 2) (lv' := [(3, .int 2), (2, .int 0), (0, .ref o), (1, .int 3)]) hx hb dX3_portionsOf_32 hl (k := 0) rfl (by decide) (by decide) rfl (fun ls hl => ?_)
  refine lv_goto (tgt := 4) hx hb dX3_portionsOf_35 (by decide) ?_
  refine lv_iload_n hx hb dX3_portionsOf_4 rfl (lv_at hl 0 rfl) ?_
  refine lv_bipush (v := 6) hx hb dX3_portionsOf_5 (by decide) ?_
  refine lv_icmp_ge (tgt := 38) hx hb dX3_portionsOf_7 (by decide) (fun c7 => absurd c7 (by decide)) (fun c7 => ?_)
  refine lv_aload_n hx hb dX3_portionsOf_10 rfl (lv_at hl 2 rfl) ?_
  refine va_get (D := (dC, dI)) (ci := 3) (v := .ref k) (C := RX3) (T := TX3) (N := 6) hx hb hts hin3 hown hK hP 0 rfl rfl 0 (by decide) hw0 (fun _ h9 => h9) rfl dX3_portionsOf_11 ?_
  refine va_get (D := (dC, dI)) (ci := 0) (v := .ref kq) (C := RX0) (T := TX0) (N := 12) hx hb hts hin0 hown hK hP 2 rfl rfl 6 (by decide) hw1 (fun _ h9 => h9) rfl dX3_portionsOf_14 ?_
  refine lv_iload_n hx hb dX3_portionsOf_17 rfl (lv_at hl 0 rfl) ?_
  refine va_iald hx hb hK hP 3 0 rfl rfl (vin (by decide) (by decide)) dX3_portionsOf_18 ?_
  refine lv_topi (fun x8 e8 => ?_)
  obtain rfl : x8 = 0 := e8.trans (by first | rfl | decide)
  refine lv_iload_n hx hb dX3_portionsOf_19 rfl (lv_at hl 3 rfl) ?_
  refine lv_icmp_ne (tgt := 32) hx hb dX3_portionsOf_20 (by decide) (fun c9 => ?_) (fun c9 => absurd c9 (by decide))
  refine lv_iinc (v := 3) (lv' := [(3, .int 3), (2, .int 0), (0, .ref o), (1, .int 3)]) hx hb dX3_portionsOf_32 hl (k := 0) rfl (by decide) (by decide) rfl (fun ls hl => ?_)
  refine lv_goto (tgt := 4) hx hb dX3_portionsOf_35 (by decide) ?_
  refine lv_iload_n hx hb dX3_portionsOf_4 rfl (lv_at hl 0 rfl) ?_
  refine lv_bipush (v := 6) hx hb dX3_portionsOf_5 (by decide) ?_
  refine lv_icmp_ge (tgt := 38) hx hb dX3_portionsOf_7 (by decide) (fun c10 => absurd c10 (by decide)) (fun c10 => ?_)
  refine lv_aload_n hx hb dX3_portionsOf_10 rfl (lv_at hl 2 rfl) ?_
  refine va_get (D := (dC, dI)) (ci := 3) (v := .ref k) (C := RX3) (T := TX3) (N := 6) hx hb hts hin3 hown hK hP 0 rfl rfl 0 (by decide) hw0 (fun _ h9 => h9) rfl dX3_portionsOf_11 ?_
  refine va_get (D := (dC, dI)) (ci := 0) (v := .ref kq) (C := RX0) (T := TX0) (N := 12) hx hb hts hin0 hown hK hP 2 rfl rfl 6 (by decide) hw1 (fun _ h9 => h9) rfl dX3_portionsOf_14 ?_
  refine lv_iload_n hx hb dX3_portionsOf_17 rfl (lv_at hl 0 rfl) ?_
  refine va_iald hx hb hK hP 3 0 rfl rfl (vin (by decide) (by decide)) dX3_portionsOf_18 ?_
  refine lv_topi (fun x11 e11 => ?_)
  obtain rfl : x11 = 0 := e11.trans (by first | rfl | decide)
  refine lv_iload_n hx hb dX3_portionsOf_19 rfl (lv_at hl 3 rfl) ?_
  refine lv_icmp_ne (tgt := 32) hx hb dX3_portionsOf_20 (by decide) (fun c12 => ?_) (fun c12 => absurd c12 (by decide))
  refine lv_iinc (v := 4) (lv' := [(3, .int 4), (2, .int 0), (0, .ref o), (1, .int 3)]) hx hb dX3_portionsOf_32 hl (k := 0) rfl (by decide) (by decide) rfl (fun ls hl => ?_)
  refine lv_goto (tgt := 4) hx hb dX3_portionsOf_35 (by decide) ?_
  refine lv_iload_n hx hb dX3_portionsOf_4 rfl (lv_at hl 0 rfl) ?_
  refine lv_bipush (v := 6) hx hb dX3_portionsOf_5 (by decide) ?_
  refine lv_icmp_ge (tgt := 38) hx hb dX3_portionsOf_7 (by decide) (fun c13 => absurd c13 (by decide)) (fun c13 => ?_)
  refine lv_aload_n hx hb dX3_portionsOf_10 rfl (lv_at hl 2 rfl) ?_
  refine va_get (D := (dC, dI)) (ci := 3) (v := .ref k) (C := RX3) (T := TX3) (N := 6) hx hb hts hin3 hown hK hP 0 rfl rfl 0 (by decide) hw0 (fun _ h9 => h9) rfl dX3_portionsOf_11 ?_
  refine va_get (D := (dC, dI)) (ci := 0) (v := .ref kq) (C := RX0) (T := TX0) (N := 12) hx hb hts hin0 hown hK hP 2 rfl rfl 6 (by decide) hw1 (fun _ h9 => h9) rfl dX3_portionsOf_14 ?_
  refine lv_iload_n hx hb dX3_portionsOf_17 rfl (lv_at hl 0 rfl) ?_
  refine va_iald hx hb hK hP 3 0 rfl rfl (vin (by decide) (by decide)) dX3_portionsOf_18 ?_
  refine lv_topi (fun x14 e14 => ?_)
  obtain rfl : x14 = 0 := e14.trans (by first | rfl | decide)
  refine lv_iload_n hx hb dX3_portionsOf_19 rfl (lv_at hl 3 rfl) ?_
  refine lv_icmp_ne (tgt := 32) hx hb dX3_portionsOf_20 (by decide) (fun c15 => ?_) (fun c15 => absurd c15 (by decide))
  refine lv_iinc (v := 5) (lv' := [(3, .int 5), (2, .int 0), (0, .ref o), (1, .int 3)]) hx hb dX3_portionsOf_32 hl (k := 0) rfl (by decide) (by decide) rfl (fun ls hl => ?_)
  refine lv_goto (tgt := 4) hx hb dX3_portionsOf_35 (by decide) ?_
  refine lv_iload_n hx hb dX3_portionsOf_4 rfl (lv_at hl 0 rfl) ?_
  refine lv_bipush (v := 6) hx hb dX3_portionsOf_5 (by decide) ?_
  refine lv_icmp_ge (tgt := 38) hx hb dX3_portionsOf_7 (by decide) (fun c16 => absurd c16 (by decide)) (fun c16 => ?_)
  refine lv_aload_n hx hb dX3_portionsOf_10 rfl (lv_at hl 2 rfl) ?_
  refine va_get (D := (dC, dI)) (ci := 3) (v := .ref k) (C := RX3) (T := TX3) (N := 6) hx hb hts hin3 hown hK hP 0 rfl rfl 0 (by decide) hw0 (fun _ h9 => h9) rfl dX3_portionsOf_11 ?_
  refine va_get (D := (dC, dI)) (ci := 0) (v := .ref kq) (C := RX0) (T := TX0) (N := 12) hx hb hts hin0 hown hK hP 2 rfl rfl 6 (by decide) hw1 (fun _ h9 => h9) rfl dX3_portionsOf_14 ?_
  refine lv_iload_n hx hb dX3_portionsOf_17 rfl (lv_at hl 0 rfl) ?_
  refine va_iald hx hb hK hP 3 0 rfl rfl (vin (by decide) (by decide)) dX3_portionsOf_18 ?_
  refine lv_topi (fun x17 e17 => ?_)
  obtain rfl : x17 = 0 := e17.trans (by first | rfl | decide)
  refine lv_iload_n hx hb dX3_portionsOf_19 rfl (lv_at hl 3 rfl) ?_
  refine lv_icmp_ne (tgt := 32) hx hb dX3_portionsOf_20 (by decide) (fun c18 => ?_) (fun c18 => absurd c18 (by decide))
  refine lv_iinc (v := 6) (lv' := [(3, .int 6), (2, .int 0), (0, .ref o), (1, .int 3)]) hx hb dX3_portionsOf_32 hl (k := 0) rfl (by decide) (by decide) rfl (fun ls hl => ?_)
  refine lv_goto (tgt := 4) hx hb dX3_portionsOf_35 (by decide) ?_
  refine lv_iload_n hx hb dX3_portionsOf_4 rfl (lv_at hl 0 rfl) ?_
  refine lv_bipush (v := 6) hx hb dX3_portionsOf_5 (by decide) ?_
  refine lv_icmp_ge (tgt := 38) hx hb dX3_portionsOf_7 (by decide) (fun c19 => ?_) (fun c19 => absurd c19 (by decide))
  refine lv_iload_n hx hb dX3_portionsOf_38 rfl (lv_at hl 1 rfl) ?_
  have hP9 := mx_subP (wc := [(o, .inr (3, [.ref k, .ref op, .int 0, .ref oq, .ref ov, .ref os])), (op, .inl (cI, 6, .inl (upd (upd (upd (upd (upd (upd (fun _ => 0) 5 0) 4 0) 3 0) 2 0) 1 0) 0 0))), (k, .inr (0, [.ref ks, .ref kw, .ref kc, .int (-6), .int 0, .int 0, .ref kq, .ref km, .ref kd, .int 0, .ref ka, .ref kk])), (kq, .inl (cI, 6, .inl (fun _ => 0)))]) hP [0, 1, 2, 3] rfl
  have hD9 := hD.sub (ws' := [(o, .inr (3, [.ref k, .ref op, .int 0, .ref oq, .ref ov, .ref os])), (op, .inl (cI, 6, .inl (upd (upd (upd (upd (upd (upd (fun _ => 0) 5 0) 4 0) 3 0) 2 0) 1 0) 0 0))), (k, .inr (0, [.ref ks, .ref kw, .ref kc, .int (-6), .int 0, .int 0, .ref kq, .ref km, .ref kd, .int 0, .ref ka, .ref kk])), (kq, .inl (cI, 6, .inl (fun _ => 0)))]) [0, 1, 2, 3] (by decide) rfl
  exact W.iret (v := 0) hx hb hr (fun t ht hW => ⟨⟨0, (), rfl, rfl, by rw [ht]; exact hP9, hD9⟩, hS.F ht⟩) hS.2.2 dX3_portionsOf_39
set_option maxHeartbeats 4000000 in
set_option maxRecDepth 100000 in
theorem c_X3_portionsOf_4 (l : Launch) (dC : Nat → ClassId) (dI : Nat → Nat → Nat) (cI cZ cK : ClassId) (tS aK aV : Nat) (o : Nat) (k : Nat) (ks : Nat) (kw : Nat) (kc : Nat) (kq : Nat) (km : Nat) (kd : Nat) (ka : Nat) (kk : Nat) (op : Nat) (oq : Nat) (ov : Nat) (os : Nat) (sz : Nat) : Ci l yX3_portionsOf (wq yX3_portionsOf cX3_portionsOf 4 (some .int)) ({ frames := 0, cells := 0, slots := 0, locals := 0 }) dC dI cI cZ cK tS aK aV [.ref o, .int 4] sz [(o, .inr (3, [.ref k, .ref op, .int 0, .ref oq, .ref ov, .ref os])), (op, .inl (cI, 6, .inl (upd (upd (upd (upd (upd (upd (fun _ => 0) 5 0) 4 0) 3 0) 2 0) 1 0) 0 0))), (k, .inr (0, [.ref ks, .ref kw, .ref kc, .int (-6), .int 0, .int 0, .ref kq, .ref km, .ref kd, .int 0, .ref ka, .ref kk])), (kq, .inl (cI, 6, .inl (fun _ => 0)))] (fun (r : Int32) (_ : Unit) => r = 0) (fun _ => [(o, .inr (3, [.ref k, .ref op, .int 0, .ref oq, .ref ov, .ref os])), (op, .inl (cI, 6, .inl (upd (upd (upd (upd (upd (upd (fun _ => 0) 5 0) 4 0) 3 0) 2 0) 1 0) 0 0))), (k, .inr (0, [.ref ks, .ref kw, .ref kc, .int (-6), .int 0, .int 0, .ref kq, .ref km, .ref kd, .int 0, .ref ka, .ref kk])), (kq, .inl (cI, 6, .inl (fun _ => 0)))]) := by
  refine Met.ofW (cc := cX3_portionsOf) (maxL := 4) (ret := (some .int)) (by decide) rfl ?_
  intro p e s m args below meth c s₁ B hml hv
  obtain ⟨rfl, hsz, hP, hKx, hD0⟩ := hv
  have hx := B.exec
  have hb := B.bytes
  have hr := B.returns
  have hts := atoms_spec (ws := wq yX3_portionsOf cX3_portionsOf 4 (some .int)) B.pre
  have hown : s.vm.findClass RX3 = some m.cls := findClass_of_methodNamed B.named
  have hlocks := B.notSynchronized
  subst hsz
  have hD := hD0.self (sz := s.heap.size)
  generalize hAe : va_A [(o, .inr (3, [.ref k, .ref op, .int 0, .ref oq, .ref ov, .ref os])), (op, .inl (cI, 6, .inl (upd (upd (upd (upd (upd (upd (fun _ => 0) 5 0) 4 0) 3 0) 2 0) 1 0) 0 0))), (k, .inr (0, [.ref ks, .ref kw, .ref kc, .int (-6), .int 0, .int 0, .ref kq, .ref km, .ref kd, .int 0, .ref ka, .ref kk])), (kq, .inl (cI, 6, .inl (fun _ => 0)))] s.heap.size = A at hD hKx ⊢
  have hA : ∀ q : Nat, s.heap.size ≤ q → A q := fun q h => by rw [← hAe]; exact Or.inr h
  have hS : va_S A s.heap s.heap [] := va_S.rf
  have hP : va_P (dC, dI) vwCl [(o, .inr (3, [.ref k, .ref op, .int 0, .ref oq, .ref ov, .ref os])), (op, .inl (cI, 6, .inl (upd (upd (upd (upd (upd (upd (fun _ => 0) 5 0) 4 0) 3 0) 2 0) 1 0) 0 0))), (k, .inr (0, [.ref ks, .ref kw, .ref kc, .int (-6), .int 0, .int 0, .ref kq, .ref km, .ref kd, .int 0, .ref ka, .ref kk])), (kq, .inl (cI, 6, .inl (fun _ => 0)))] s.heap := hP
  have hl := lv_entry ([.ref o, .int 4]) (n := 4) (Nat.le_of_ble_eq_true rfl)
  rw [lg_entry_eq]
  generalize (lg_sl ([.ref o, .int 4]) ++ List.replicate (4 - (lg_sl ([.ref o, .int 4])).length) Slot.unset).toArray = ls at hl ⊢
  have hl : lv_has ls 4 [(0, .ref o), (1, .int 4)] := hl
  have hK := hKx.1
  have hin3 := fun w9 h9 => List.mem_cons_of_mem (Cond.code yX3_portionsOf cX3_portionsOf 4 (some .int)) (inlX3 w9 h9)
  have hin0 := fun w9 h9 => List.mem_cons_of_mem (Cond.code yX3_portionsOf cX3_portionsOf 4 (some .int)) (inlX0 w9 h9)
  have hw0 := hts (.fieldLink RX3 24 "OneCan$Order" "camp" "LOneCan$Camp;") (List.mem_cons_of_mem _ wm_167)
  have hw1 := hts (.fieldLink RX3 49 "OneCan$Camp" "quarts" "[I") (List.mem_cons_of_mem _ wm_185)
  refine lv_iconst (v := 0) hx hb dX3_portionsOf_0 (by decide) ?_
  refine lv_istore_n (lv' := [(2, .int 0), (0, .ref o), (1, .int 4)]) hx hb dX3_portionsOf_1 rfl hl (by decide) rfl (fun ls hl => ?_)
  refine lv_iconst (v := 0) hx hb dX3_portionsOf_2 (by decide) ?_
  refine lv_istore_n (lv' := [(3, .int 0), (2, .int 0), (0, .ref o), (1, .int 4)]) hx hb dX3_portionsOf_3 rfl hl (by decide) rfl (fun ls hl => ?_)
  refine lv_iload_n hx hb dX3_portionsOf_4 rfl (lv_at hl 0 rfl) ?_
  refine lv_bipush (v := 6) hx hb dX3_portionsOf_5 (by decide) ?_
  refine lv_icmp_ge (tgt := 38) hx hb dX3_portionsOf_7 (by decide) (fun c1 => absurd c1 (by decide)) (fun c1 => ?_)
  refine lv_aload_n hx hb dX3_portionsOf_10 rfl (lv_at hl 2 rfl) ?_
  refine va_get (D := (dC, dI)) (ci := 3) (v := .ref k) (C := RX3) (T := TX3) (N := 6) hx hb hts hin3 hown hK hP 0 rfl rfl 0 (by decide) hw0 (fun _ h9 => h9) rfl dX3_portionsOf_11 ?_
  refine va_get (D := (dC, dI)) (ci := 0) (v := .ref kq) (C := RX0) (T := TX0) (N := 12) hx hb hts hin0 hown hK hP 2 rfl rfl 6 (by decide) hw1 (fun _ h9 => h9) rfl dX3_portionsOf_14 ?_
  refine lv_iload_n hx hb dX3_portionsOf_17 rfl (lv_at hl 0 rfl) ?_
  refine va_iald hx hb hK hP 3 0 rfl rfl (vin (by decide) (by decide)) dX3_portionsOf_18 ?_
  refine lv_topi (fun x2 e2 => ?_)
  obtain rfl : x2 = 0 := e2.trans (by first | rfl | decide)
  refine lv_iload_n hx hb dX3_portionsOf_19 rfl (lv_at hl 3 rfl) ?_
  refine lv_icmp_ne (tgt := 32) hx hb dX3_portionsOf_20 (by decide) (fun c3 => ?_) (fun c3 => absurd c3 (by decide))
  refine lv_iinc (v := 1) (lv' := [(3, .int 1), (2, .int 0), (0, .ref o), (1, .int 4)]) hx hb dX3_portionsOf_32 hl (k := 0) rfl (by decide) (by decide) rfl (fun ls hl => ?_)
  refine lv_goto (tgt := 4) hx hb dX3_portionsOf_35 (by decide) ?_
  refine lv_iload_n hx hb dX3_portionsOf_4 rfl (lv_at hl 0 rfl) ?_
  refine lv_bipush (v := 6) hx hb dX3_portionsOf_5 (by decide) ?_
  refine lv_icmp_ge (tgt := 38) hx hb dX3_portionsOf_7 (by decide) (fun c4 => absurd c4 (by decide)) (fun c4 => ?_)
  refine lv_aload_n hx hb dX3_portionsOf_10 rfl (lv_at hl 2 rfl) ?_
  refine va_get (D := (dC, dI)) (ci := 3) (v := .ref k) (C := RX3) (T := TX3) (N := 6) hx hb hts hin3 hown hK hP 0 rfl rfl 0 (by decide) hw0 (fun _ h9 => h9) rfl dX3_portionsOf_11 ?_
  refine va_get (D := (dC, dI)) (ci := 0) (v := .ref kq) (C := RX0) (T := TX0) (N := 12) hx hb hts hin0 hown hK hP 2 rfl rfl 6 (by decide) hw1 (fun _ h9 => h9) rfl dX3_portionsOf_14 ?_
  refine lv_iload_n hx hb dX3_portionsOf_17 rfl (lv_at hl 0 rfl) ?_
  refine va_iald hx hb hK hP 3 0 rfl rfl (vin (by decide) (by decide)) dX3_portionsOf_18 ?_
  refine lv_topi (fun x5 e5 => ?_)
  obtain rfl : x5 = 0 := e5.trans (by first | rfl | decide)
  refine lv_iload_n hx hb dX3_portionsOf_19 rfl (lv_at hl 3 rfl) ?_
  refine lv_icmp_ne (tgt := 32) hx hb dX3_portionsOf_20 (by decide) (fun c6 => ?_) (fun c6 => absurd c6 (by decide))
  refine lv_iinc (v := 2) (lv' := [(3, .int 2), (2, .int 0), (0, .ref o), (1, .int 4)]) hx hb dX3_portionsOf_32 hl (k := 0) rfl (by decide) (by decide) rfl (fun ls hl => ?_)
  refine lv_goto (tgt := 4) hx hb dX3_portionsOf_35 (by decide) ?_
  refine lv_iload_n hx hb dX3_portionsOf_4 rfl (lv_at hl 0 rfl) ?_
  refine lv_bipush (v := 6) hx hb dX3_portionsOf_5 (by decide) ?_
  refine lv_icmp_ge (tgt := 38) hx hb dX3_portionsOf_7 (by decide) (fun c7 => absurd c7 (by decide)) (fun c7 => ?_)
  refine lv_aload_n hx hb dX3_portionsOf_10 rfl (lv_at hl 2 rfl) ?_
  refine va_get (D := (dC, dI)) (ci := 3) (v := .ref k) (C := RX3) (T := TX3) (N := 6) hx hb hts hin3 hown hK hP 0 rfl rfl 0 (by decide) hw0 (fun _ h9 => h9) rfl dX3_portionsOf_11 ?_
  refine va_get (D := (dC, dI)) (ci := 0) (v := .ref kq) (C := RX0) (T := TX0) (N := 12) hx hb hts hin0 hown hK hP 2 rfl rfl 6 (by decide) hw1 (fun _ h9 => h9) rfl dX3_portionsOf_14 ?_
  refine lv_iload_n hx hb dX3_portionsOf_17 rfl (lv_at hl 0 rfl) ?_
  refine va_iald hx hb hK hP 3 0 rfl rfl (vin (by decide) (by decide)) dX3_portionsOf_18 ?_
  refine lv_topi (fun x8 e8 => ?_)
  obtain rfl : x8 = 0 := e8.trans (by first | rfl | decide)
  refine lv_iload_n hx hb dX3_portionsOf_19 rfl (lv_at hl 3 rfl) ?_
  refine lv_icmp_ne (tgt := 32) hx hb dX3_portionsOf_20 (by decide) (fun c9 => ?_) (fun c9 => absurd c9 (by decide))
  refine lv_iinc (v := 3) (lv' := [(3, .int 3), (2, .int 0), (0, .ref o), (1, .int 4)]) hx hb dX3_portionsOf_32 hl (k := 0) rfl (by decide) (by decide) rfl (fun ls hl => ?_)
  refine lv_goto (tgt := 4) hx hb dX3_portionsOf_35 (by decide) ?_
  refine lv_iload_n hx hb dX3_portionsOf_4 rfl (lv_at hl 0 rfl) ?_
  refine lv_bipush (v := 6) hx hb dX3_portionsOf_5 (by decide) ?_
  refine lv_icmp_ge (tgt := 38) hx hb dX3_portionsOf_7 (by decide) (fun c10 => absurd c10 (by decide)) (fun c10 => ?_)
  refine lv_aload_n hx hb dX3_portionsOf_10 rfl (lv_at hl 2 rfl) ?_
  refine va_get (D := (dC, dI)) (ci := 3) (v := .ref k) (C := RX3) (T := TX3) (N := 6) hx hb hts hin3 hown hK hP 0 rfl rfl 0 (by decide) hw0 (fun _ h9 => h9) rfl dX3_portionsOf_11 ?_
  refine va_get (D := (dC, dI)) (ci := 0) (v := .ref kq) (C := RX0) (T := TX0) (N := 12) hx hb hts hin0 hown hK hP 2 rfl rfl 6 (by decide) hw1 (fun _ h9 => h9) rfl dX3_portionsOf_14 ?_
  refine lv_iload_n hx hb dX3_portionsOf_17 rfl (lv_at hl 0 rfl) ?_
  refine va_iald hx hb hK hP 3 0 rfl rfl (vin (by decide) (by decide)) dX3_portionsOf_18 ?_
  refine lv_topi (fun x11 e11 => ?_)
  obtain rfl : x11 = 0 := e11.trans (by first | rfl | decide)
  refine lv_iload_n hx hb dX3_portionsOf_19 rfl (lv_at hl 3 rfl) ?_
  refine lv_icmp_ne (tgt := 32) hx hb dX3_portionsOf_20 (by decide) (fun c12 => ?_) (fun c12 => absurd c12 (by decide))
  refine lv_iinc (v := 4) (lv' := [(3, .int 4), (2, .int 0), (0, .ref o), (1, .int 4)]) hx hb dX3_portionsOf_32 hl (k := 0) rfl (by decide) (by decide) rfl (fun ls hl => ?_)
  refine lv_goto (tgt := 4) hx hb dX3_portionsOf_35 (by decide) ?_
  refine lv_iload_n hx hb dX3_portionsOf_4 rfl (lv_at hl 0 rfl) ?_
  refine lv_bipush (v := 6) hx hb dX3_portionsOf_5 (by decide) ?_
  refine lv_icmp_ge (tgt := 38) hx hb dX3_portionsOf_7 (by decide) (fun c13 => absurd c13 (by decide)) (fun c13 => ?_)
  refine lv_aload_n hx hb dX3_portionsOf_10 rfl (lv_at hl 2 rfl) ?_
  refine va_get (D := (dC, dI)) (ci := 3) (v := .ref k) (C := RX3) (T := TX3) (N := 6) hx hb hts hin3 hown hK hP 0 rfl rfl 0 (by decide) hw0 (fun _ h9 => h9) rfl dX3_portionsOf_11 ?_
  refine va_get (D := (dC, dI)) (ci := 0) (v := .ref kq) (C := RX0) (T := TX0) (N := 12) hx hb hts hin0 hown hK hP 2 rfl rfl 6 (by decide) hw1 (fun _ h9 => h9) rfl dX3_portionsOf_14 ?_
  refine lv_iload_n hx hb dX3_portionsOf_17 rfl (lv_at hl 0 rfl) ?_
  refine va_iald hx hb hK hP 3 0 rfl rfl (vin (by decide) (by decide)) dX3_portionsOf_18 ?_
  refine lv_topi (fun x14 e14 => ?_)
  obtain rfl : x14 = 0 := e14.trans (by first | rfl | decide)
  refine lv_iload_n hx hb dX3_portionsOf_19 rfl (lv_at hl 3 rfl) ?_
  refine lv_icmp_ne (tgt := 32) hx hb dX3_portionsOf_20 (by decide) (fun c15 => ?_) (fun c15 => absurd c15 (by decide))
  refine lv_iinc (v := 5) (lv' := [(3, .int 5), (2, .int 0), (0, .ref o), (1, .int 4)]) hx hb dX3_portionsOf_32 hl (k := 0) rfl (by decide) (by decide) rfl (fun ls hl => ?_)
  refine lv_goto (tgt := 4) hx hb dX3_portionsOf_35 (by decide) ?_
  refine lv_iload_n hx hb dX3_portionsOf_4 rfl (lv_at hl 0 rfl) ?_
  refine lv_bipush (v := 6) hx hb dX3_portionsOf_5 (by decide) ?_
  refine lv_icmp_ge (tgt := 38) hx hb dX3_portionsOf_7 (by decide) (fun c16 => absurd c16 (by decide)) (fun c16 => ?_)
  refine lv_aload_n hx hb dX3_portionsOf_10 rfl (lv_at hl 2 rfl) ?_
  refine va_get (D := (dC, dI)) (ci := 3) (v := .ref k) (C := RX3) (T := TX3) (N := 6) hx hb hts hin3 hown hK hP 0 rfl rfl 0 (by decide) hw0 (fun _ h9 => h9) rfl dX3_portionsOf_11 ?_
  refine va_get (D := (dC, dI)) (ci := 0) (v := .ref kq) (C := RX0) (T := TX0) (N := 12) hx hb hts hin0 hown hK hP 2 rfl rfl 6 (by decide) hw1 (fun _ h9 => h9) rfl dX3_portionsOf_14 ?_
  refine lv_iload_n hx hb dX3_portionsOf_17 rfl (lv_at hl 0 rfl) ?_
  refine va_iald hx hb hK hP 3 0 rfl rfl (vin (by decide) (by decide)) dX3_portionsOf_18 ?_
  refine lv_topi (fun x17 e17 => ?_)
  obtain rfl : x17 = 0 := e17.trans (by first | rfl | decide)
  refine lv_iload_n hx hb dX3_portionsOf_19 rfl (lv_at hl 3 rfl) ?_
  refine lv_icmp_ne (tgt := 32) hx hb dX3_portionsOf_20 (by decide) (fun c18 => ?_) (fun c18 => absurd c18 (by decide))
  refine lv_iinc (v := 6) (lv' := [(3, .int 6), (2, .int 0), (0, .ref o), (1, .int 4)]) hx hb dX3_portionsOf_32 hl (k := 0) rfl (by decide) (by decide) rfl (fun ls hl => ?_)
  refine lv_goto (tgt := 4) hx hb dX3_portionsOf_35 (by decide) ?_
  refine lv_iload_n hx hb dX3_portionsOf_4 rfl (lv_at hl 0 rfl) ?_
  refine lv_bipush (v := 6) hx hb dX3_portionsOf_5 (by decide) ?_
  refine lv_icmp_ge (tgt := 38) hx hb dX3_portionsOf_7 (by decide) (fun c19 => ?_) (fun c19 => absurd c19 (by decide))
  refine lv_iload_n hx hb dX3_portionsOf_38 rfl (lv_at hl 1 rfl) ?_
  have hP9 := mx_subP (wc := [(o, .inr (3, [.ref k, .ref op, .int 0, .ref oq, .ref ov, .ref os])), (op, .inl (cI, 6, .inl (upd (upd (upd (upd (upd (upd (fun _ => 0) 5 0) 4 0) 3 0) 2 0) 1 0) 0 0))), (k, .inr (0, [.ref ks, .ref kw, .ref kc, .int (-6), .int 0, .int 0, .ref kq, .ref km, .ref kd, .int 0, .ref ka, .ref kk])), (kq, .inl (cI, 6, .inl (fun _ => 0)))]) hP [0, 1, 2, 3] rfl
  have hD9 := hD.sub (ws' := [(o, .inr (3, [.ref k, .ref op, .int 0, .ref oq, .ref ov, .ref os])), (op, .inl (cI, 6, .inl (upd (upd (upd (upd (upd (upd (fun _ => 0) 5 0) 4 0) 3 0) 2 0) 1 0) 0 0))), (k, .inr (0, [.ref ks, .ref kw, .ref kc, .int (-6), .int 0, .int 0, .ref kq, .ref km, .ref kd, .int 0, .ref ka, .ref kk])), (kq, .inl (cI, 6, .inl (fun _ => 0)))]) [0, 1, 2, 3] (by decide) rfl
  exact W.iret (v := 0) hx hb hr (fun t ht hW => ⟨⟨0, (), rfl, rfl, by rw [ht]; exact hP9, hD9⟩, hS.F ht⟩) hS.2.2 dX3_portionsOf_39
