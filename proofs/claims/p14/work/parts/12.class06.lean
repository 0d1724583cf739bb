set_option maxHeartbeats 4000000 in
set_option maxRecDepth 100000 in
theorem c_X7_deal (l : Launch) (dC : Nat → ClassId) (dI : Nat → Nat → Nat) (cI cZ cK : ClassId) (tS : Nat) (aK aV : Nat → Nat) (h : Nat) (i0 : Int32) (i1 : Int32) (i2 : Int32) (k : Nat) (d : Nat) (j : Nat) (o : Nat) (f : Nat) (g : Nat) (wk : Nat) (im : Nat) (kt : Nat) (dl : Nat) (lfd : Nat → Int32) (sz : Nat) (h_i2 : 0 ≤ i2.toInt ∧ i2.toInt ≤ 3) : Ci l yX7_deal (wq yX7_deal cX7_deal 9 (some .int)) ({ frames := 0, cells := 0, slots := 0, locals := 0 }) dC dI cI cZ cK tS aK aV [.ref h, .int i0, .int i1, .int i2] sz [(h, .inr (7, [.ref k, .ref d, .ref j, .ref o, .ref f, .ref g, .ref wk, .ref im, .ref kt, .ref dl])), (dl, .inl (cI, 4, .inl lfd))] (fun (r : Int32) (u : (Nat → Nat → Int32) × (Nat → Int32) × (Nat → Int64)) => True) (fun u => [(h, .inr (7, [.ref k, .ref d, .ref j, .ref o, .ref f, .ref g, .ref wk, .ref im, .ref kt, .ref dl])), (dl, .inl (cI, 4, .inl (u.1 0)))]) := by
  refine Met.ofW (cc := cX7_deal) (maxL := 9) (ret := (some .int)) (by decide) rfl ?_
  intro p e s m args below meth c s₁ B hml hv
  obtain ⟨rfl, hsz, hP, hKx, hD0⟩ := hv
  have hx := B.exec
  have hb := B.bytes
  have hr := B.returns
  have hts := atoms_spec (ws := wq yX7_deal cX7_deal 9 (some .int)) B.pre
  have hown : s.vm.findClass RX7 = some m.cls := findClass_of_methodNamed B.named
  have hlocks := B.notSynchronized
  subst hsz
  have hD := hD0.self (sz := s.heap.size)
  generalize hAe : va_A [(h, .inr (7, [.ref k, .ref d, .ref j, .ref o, .ref f, .ref g, .ref wk, .ref im, .ref kt, .ref dl])), (dl, .inl (cI, 4, .inl lfd))] s.heap.size = A at hD hKx ⊢
  have hA : ∀ q : Nat, s.heap.size ≤ q → A q := fun q h => by rw [← hAe]; exact Or.inr h
  have hS : va_S A s.heap s.heap [] := va_S.rf
  have hP : va_P (dC, dI) vwCl [(h, .inr (7, [.ref k, .ref d, .ref j, .ref o, .ref f, .ref g, .ref wk, .ref im, .ref kt, .ref dl])), (dl, .inl (cI, 4, .inl lfd))] s.heap := hP
  have hl := lv_entry ([.ref h, .int i0, .int i1, .int i2]) (n := 9) (Nat.le_of_ble_eq_true rfl)
  rw [lg_entry_eq]
  generalize (lg_sl ([.ref h, .int i0, .int i1, .int i2]) ++ List.replicate (9 - (lg_sl ([.ref h, .int i0, .int i1, .int i2])).length) Slot.unset).toArray = ls at hl ⊢
  have hl : lv_has ls 9 [(0, .ref h), (1, .int i0), (2, .int i1), (3, .int i2)] := hl
  have hK := hKx.1
  have hin7 := fun w9 h9 => List.mem_cons_of_mem (Cond.code yX7_deal cX7_deal 9 (some .int)) (inlX7 w9 h9)
  have hw0 := hts (.fieldLink RX7 72 "OneCan" "dealt" "[I") (List.mem_cons_of_mem _ wm_44)
  refine lv_iload_n hx hb dX7_deal_0 rfl (lv_at hl 2 rfl) ?_
  refine lv_istore (lv' := [(4, .int i1), (0, .ref h), (1, .int i0), (2, .int i1), (3, .int i2)]) hx hb dX7_deal_1 hl (by decide) rfl (fun ls hl => ?_)
  refine lv_iconst (v := 3) hx hb dX7_deal_3 (by decide) ?_
  refine lv_istore (lv' := [(5, .int 3), (4, .int i1), (0, .ref h), (1, .int i0), (2, .int i1), (3, .int i2)]) hx hb dX7_deal_4 hl (by decide) rfl (fun ls hl => ?_)
  refine lv_iload hx hb dX7_deal_6 (lv_at hl 0 rfl) ?_
  refine lv_if_lt (tgt := 36) hx hb dX7_deal_8 (by decide) (fun c1 => absurd c1 (by decide)) (fun c1 => ?_)
  refine lv_aload_n hx hb dX7_deal_11 rfl (lv_at hl 2 rfl) ?_
  refine va_get (D := (dC, dI)) (ci := 7) (v := .ref dl) (C := RX7) (T := TX7) (N := 10) hx hb hts hin7 hown hK hP 0 rfl rfl 9 (by decide) hw0 (fun _ h9 => h9) rfl dX7_deal_12 ?_
  refine lv_iload hx hb dX7_deal_15 (lv_at hl 0 rfl) ?_
  refine lv_iload hx hb dX7_deal_17 (lv_at hl 1 rfl) ?_
  refine lv_bipush (v := 100) hx hb dX7_deal_19 (by decide) ?_
  refine lv_irem hx hb dX7_deal_21 (by decide) ?_
  refine lv_topi (fun x2 e2 => ?_)
  refine va_iast hx hb hK hP hD hS 1 0 rfl rfl (vin (by decide) (by decide)) dX7_deal_22 (fun H locs hP hD hS => ?_)
  replace hP : va_P (dC, dI) vwCl [(h, .inr (7, [.ref k, .ref d, .ref j, .ref o, .ref f, .ref g, .ref wk, .ref im, .ref kt, .ref dl])), (dl, .inl (cI, 4, .inl (upd lfd 3 x2)))] H := hP
  replace hD : va_D A [(h, .inr (7, [.ref k, .ref d, .ref j, .ref o, .ref f, .ref g, .ref wk, .ref im, .ref kt, .ref dl])), (dl, .inl (cI, 4, .inl (upd lfd 3 x2)))] := hD
  refine lv_iload hx hb dX7_deal_23 (lv_at hl 1 rfl) ?_
  refine lv_bipush (v := 100) hx hb dX7_deal_25 (by decide) ?_
  refine lv_idiv hx hb dX7_deal_27 (by decide) ?_
  refine lv_topi (fun x3 e3 => ?_)
  refine lv_istore (lv' := [(4, .int x3), (5, .int 3), (0, .ref h), (1, .int i0), (2, .int i1), (3, .int i2)]) hx hb dX7_deal_28 hl (by decide) rfl (fun ls hl => ?_)
  refine lv_iinc (v := 2) (lv' := [(5, .int 2), (4, .int x3), (0, .ref h), (1, .int i0), (2, .int i1), (3, .int i2)]) hx hb dX7_deal_30 hl (k := 1) rfl (by decide) (by decide) rfl (fun ls hl => ?_)
  refine lv_goto (tgt := 6) hx hb dX7_deal_33 (by decide) ?_
  refine lv_iload hx hb dX7_deal_6 (lv_at hl 0 rfl) ?_
  refine lv_if_lt (tgt := 36) hx hb dX7_deal_8 (by decide) (fun c4 => absurd c4 (by decide)) (fun c4 => ?_)
  refine lv_aload_n hx hb dX7_deal_11 rfl (lv_at hl 2 rfl) ?_
  refine va_get (D := (dC, dI)) (ci := 7) (v := .ref dl) (C := RX7) (T := TX7) (N := 10) hx hb hts hin7 hown hK hP 0 rfl rfl 9 (by decide) hw0 (fun _ h9 => h9) rfl dX7_deal_12 ?_
  refine lv_iload hx hb dX7_deal_15 (lv_at hl 0 rfl) ?_
  refine lv_iload hx hb dX7_deal_17 (lv_at hl 1 rfl) ?_
  refine lv_bipush (v := 100) hx hb dX7_deal_19 (by decide) ?_
  refine lv_irem hx hb dX7_deal_21 (by decide) ?_
  refine lv_topi (fun x5 e5 => ?_)
  refine va_iast hx hb hK hP hD hS 1 0 rfl rfl (vin (by decide) (by decide)) dX7_deal_22 (fun H locs hP hD hS => ?_)
  replace hP : va_P (dC, dI) vwCl [(h, .inr (7, [.ref k, .ref d, .ref j, .ref o, .ref f, .ref g, .ref wk, .ref im, .ref kt, .ref dl])), (dl, .inl (cI, 4, .inl (upd (upd lfd 3 x2) 2 x5)))] H := hP
  replace hD : va_D A [(h, .inr (7, [.ref k, .ref d, .ref j, .ref o, .ref f, .ref g, .ref wk, .ref im, .ref kt, .ref dl])), (dl, .inl (cI, 4, .inl (upd (upd lfd 3 x2) 2 x5)))] := hD
  refine lv_iload hx hb dX7_deal_23 (lv_at hl 1 rfl) ?_
  refine lv_bipush (v := 100) hx hb dX7_deal_25 (by decide) ?_
  refine lv_idiv hx hb dX7_deal_27 (by decide) ?_
  refine lv_topi (fun x6 e6 => ?_)
  refine lv_istore (lv' := [(4, .int x6), (5, .int 2), (0, .ref h), (1, .int i0), (2, .int i1), (3, .int i2)]) hx hb dX7_deal_28 hl (by decide) rfl (fun ls hl => ?_)
  refine lv_iinc (v := 1) (lv' := [(5, .int 1), (4, .int x6), (0, .ref h), (1, .int i0), (2, .int i1), (3, .int i2)]) hx hb dX7_deal_30 hl (k := 1) rfl (by decide) (by decide) rfl (fun ls hl => ?_)
  refine lv_goto (tgt := 6) hx hb dX7_deal_33 (by decide) ?_
  refine lv_iload hx hb dX7_deal_6 (lv_at hl 0 rfl) ?_
  refine lv_if_lt (tgt := 36) hx hb dX7_deal_8 (by decide) (fun c7 => absurd c7 (by decide)) (fun c7 => ?_)
  refine lv_aload_n hx hb dX7_deal_11 rfl (lv_at hl 2 rfl) ?_
  refine va_get (D := (dC, dI)) (ci := 7) (v := .ref dl) (C := RX7) (T := TX7) (N := 10) hx hb hts hin7 hown hK hP 0 rfl rfl 9 (by decide) hw0 (fun _ h9 => h9) rfl dX7_deal_12 ?_
  refine lv_iload hx hb dX7_deal_15 (lv_at hl 0 rfl) ?_
  refine lv_iload hx hb dX7_deal_17 (lv_at hl 1 rfl) ?_
  refine lv_bipush (v := 100) hx hb dX7_deal_19 (by decide) ?_
  refine lv_irem hx hb dX7_deal_21 (by decide) ?_
  refine lv_topi (fun x8 e8 => ?_)
  refine va_iast hx hb hK hP hD hS 1 0 rfl rfl (vin (by decide) (by decide)) dX7_deal_22 (fun H locs hP hD hS => ?_)
  replace hP : va_P (dC, dI) vwCl [(h, .inr (7, [.ref k, .ref d, .ref j, .ref o, .ref f, .ref g, .ref wk, .ref im, .ref kt, .ref dl])), (dl, .inl (cI, 4, .inl (upd (upd (upd lfd 3 x2) 2 x5) 1 x8)))] H := hP
  replace hD : va_D A [(h, .inr (7, [.ref k, .ref d, .ref j, .ref o, .ref f, .ref g, .ref wk, .ref im, .ref kt, .ref dl])), (dl, .inl (cI, 4, .inl (upd (upd (upd lfd 3 x2) 2 x5) 1 x8)))] := hD
  refine lv_iload hx hb dX7_deal_23 (lv_at hl 1 rfl) ?_
  refine lv_bipush (v := 100) hx hb dX7_deal_25 (by decide) ?_
  refine lv_idiv hx hb dX7_deal_27 (by decide) ?_
  refine lv_topi (fun x9 e9 => ?_)
  refine lv_istore (lv' := [(4, .int x9), (5, .int 1), (0, .ref h), (1, .int i0), (2, .int i1), (3, .int i2)]) hx hb dX7_deal_28 hl (by decide) rfl (fun ls hl => ?_)
  refine lv_iinc (v := 0) (lv' := [(5, .int 0), (4, .int x9), (0, .ref h), (1, .int i0), (2, .int i1), (3, .int i2)]) hx hb dX7_deal_30 hl (k := 1) rfl (by decide) (by decide) rfl (fun ls hl => ?_)
  refine lv_goto (tgt := 6) hx hb dX7_deal_33 (by decide) ?_
  refine lv_iload hx hb dX7_deal_6 (lv_at hl 0 rfl) ?_
  refine lv_if_lt (tgt := 36) hx hb dX7_deal_8 (by decide) (fun c10 => absurd c10 (by decide)) (fun c10 => ?_)
  refine lv_aload_n hx hb dX7_deal_11 rfl (lv_at hl 2 rfl) ?_
  refine va_get (D := (dC, dI)) (ci := 7) (v := .ref dl) (C := RX7) (T := TX7) (N := 10) hx hb hts hin7 hown hK hP 0 rfl rfl 9 (by decide) hw0 (fun _ h9 => h9) rfl dX7_deal_12 ?_
  refine lv_iload hx hb dX7_deal_15 (lv_at hl 0 rfl) ?_
  refine lv_iload hx hb dX7_deal_17 (lv_at hl 1 rfl) ?_
  refine lv_bipush (v := 100) hx hb dX7_deal_19 (by decide) ?_
  refine lv_irem hx hb dX7_deal_21 (by decide) ?_
  refine lv_topi (fun x11 e11 => ?_)
  refine va_iast hx hb hK hP hD hS 1 0 rfl rfl (vin (by decide) (by decide)) dX7_deal_22 (fun H locs hP hD hS => ?_)
  replace hP : va_P (dC, dI) vwCl [(h, .inr (7, [.ref k, .ref d, .ref j, .ref o, .ref f, .ref g, .ref wk, .ref im, .ref kt, .ref dl])), (dl, .inl (cI, 4, .inl (upd (upd (upd (upd lfd 3 x2) 2 x5) 1 x8) 0 x11)))] H := hP
  replace hD : va_D A [(h, .inr (7, [.ref k, .ref d, .ref j, .ref o, .ref f, .ref g, .ref wk, .ref im, .ref kt, .ref dl])), (dl, .inl (cI, 4, .inl (upd (upd (upd (upd lfd 3 x2) 2 x5) 1 x8) 0 x11)))] := hD
  refine lv_iload hx hb dX7_deal_23 (lv_at hl 1 rfl) ?_
  refine lv_bipush (v := 100) hx hb dX7_deal_25 (by decide) ?_
  refine lv_idiv hx hb dX7_deal_27 (by decide) ?_
  refine lv_topi (fun x12 e12 => ?_)
  refine lv_istore (lv' := [(4, .int x12), (5, .int 0), (0, .ref h), (1, .int i0), (2, .int i1), (3, .int i2)]) hx hb dX7_deal_28 hl (by decide) rfl (fun ls hl => ?_)
  refine lv_iinc (v := (-1)) (lv' := [(5, .int (-1)), (4, .int x12), (0, .ref h), (1, .int i0), (2, .int i1), (3, .int i2)]) hx hb dX7_deal_30 hl (k := 1) rfl (by decide) (by decide) rfl (fun ls hl => ?_)
  refine lv_goto (tgt := 6) hx hb dX7_deal_33 (by decide) ?_
  refine lv_iload hx hb dX7_deal_6 (lv_at hl 0 rfl) ?_
  refine lv_if_lt (tgt := 36) hx hb dX7_deal_8 (by decide) (fun c13 => ?_) (fun c13 => absurd c13 (by decide))
  refine lv_aload_n hx hb dX7_deal_36 rfl (lv_at hl 2 rfl) ?_
  refine va_get (D := (dC, dI)) (ci := 7) (v := .ref dl) (C := RX7) (T := TX7) (N := 10) hx hb hts hin7 hown hK hP 0 rfl rfl 9 (by decide) hw0 (fun _ h9 => h9) rfl dX7_deal_37 ?_
  refine lv_iload_n hx hb dX7_deal_40 rfl (lv_at hl 5 rfl) ?_
  refine va_iald hx hb hK hP 1 0 rfl rfl (vin (by omega) (by omega)) dX7_deal_41 ?_
  refine lv_topi (fun x14 e14 => ?_)
  refine lv_istore (lv' := [(5, .int x14), (4, .int x12), (0, .ref h), (1, .int i0), (2, .int i1), (3, .int i2)]) hx hb dX7_deal_42 hl (by decide) rfl (fun ls hl => ?_)
  refine lv_iconst (v := 0) hx hb dX7_deal_44 (by decide) ?_
  refine lv_istore (lv' := [(6, .int 0), (5, .int x14), (4, .int x12), (0, .ref h), (1, .int i0), (2, .int i1), (3, .int i2)]) hx hb dX7_deal_45 hl (by decide) rfl (fun ls hl => ?_)
  have z16 : (0 : Int32).toInt = 0 := rfl
  have hl0 := hl
  clear hl
  have hP0 := hP
  clear hP
  have hD0 := hD
  clear hD
  obtain ⟨y6, yld, ex, hl, hP, hD⟩ : ∃ (y6 : Int32) (yld : Nat → Int32), (0 ≤ y6.toInt ∧ y6.toInt ≤ 2147483647) ∧ lv_has ls 9 [(6, .int y6), (5, .int x14), (4, .int x12), (0, .ref h), (1, .int i0), (2, .int i1), (3, .int i2)] ∧ va_P (dC, dI) vwCl [(h, .inr (7, [.ref k, .ref d, .ref j, .ref o, .ref f, .ref g, .ref wk, .ref im, .ref kt, .ref dl])), (dl, .inl (cI, 4, .inl yld))] H ∧ va_D A [(h, .inr (7, [.ref k, .ref d, .ref j, .ref o, .ref f, .ref g, .ref wk, .ref im, .ref kt, .ref dl])), (dl, .inl (cI, 4, .inl yld))] := ⟨0, (upd (upd (upd (upd lfd 3 x2) 2 x5) 1 x8) 0 x11), by omega, hl0, hP0, hD0⟩
  clear hl0 hP0 hD0
  obtain ⟨n15, hn⟩ : ∃ n : Nat, (n : Int) = 2147483647 - y6.toInt := ⟨(2147483647 - y6.toInt).toNat, by omega⟩
  induction n15 generalizing y6 yld ls H locs with
  | zero =>
    skip
    refine lv_iload hx hb dX7_deal_47 (lv_at hl 0 rfl) ?_
    refine lv_iload_n hx hb dX7_deal_49 rfl (lv_at hl 4 rfl) ?_
    refine lv_icmp_ge (tgt := 109) hx hb dX7_deal_50 (by decide) (fun c17 => ?_) (fun c17 => by exfalso; have t17 : y6.toInt < i0.toInt := (tnle c17); have tb0 := tb y6; have tb1 := tb i0; omega)
    refine lv_aload_n hx hb dX7_deal_109 rfl (lv_at hl 3 rfl) ?_
    refine va_get (D := (dC, dI)) (ci := 7) (v := .ref dl) (C := RX7) (T := TX7) (N := 10) hx hb hts hin7 hown hK hP 0 rfl rfl 9 (by decide) hw0 (fun _ h9 => h9) rfl dX7_deal_110 ?_
    refine lv_iload_n hx hb dX7_deal_113 rfl (lv_at hl 6 rfl) ?_
    refine va_iald hx hb hK hP 1 0 rfl rfl (vin (by omega) (by omega)) dX7_deal_114 ?_
    refine lv_topi (fun x18 e18 => ?_)
    refine lv_iload hx hb dX7_deal_115 (lv_at hl 1 rfl) ?_
    refine lv_isub hx hb dX7_deal_117 ?_
    refine lv_topi (fun x19 e19 => ?_)
    have hP9 := mx_subP (wc := [(h, .inr (7, [.ref k, .ref d, .ref j, .ref o, .ref f, .ref g, .ref wk, .ref im, .ref kt, .ref dl])), (dl, .inl (cI, 4, .inl yld))]) hP [0, 1] rfl
    have hD9 := hD.sub (ws' := [(h, .inr (7, [.ref k, .ref d, .ref j, .ref o, .ref f, .ref g, .ref wk, .ref im, .ref kt, .ref dl])), (dl, .inl (cI, 4, .inl yld))]) [0, 1] (by decide) rfl
    exact W.iret (v := x19) hx hb hr (fun t ht hW => ⟨⟨x19, ((fun u9 => ([yld] : List (Nat → Int32)).getD u9 (fun _ => 0)), (fun u9 => ([] : List Int32).getD u9 0), (fun u9 => ([] : List Int64).getD u9 0)), rfl, trivial, by rw [ht]; exact hP9, hD9⟩, hS.F ht⟩) hS.2.2 dX7_deal_118
  | succ n15 ih =>
    skip
    refine lv_iload hx hb dX7_deal_47 (lv_at hl 0 rfl) ?_
    refine lv_iload_n hx hb dX7_deal_49 rfl (lv_at hl 4 rfl) ?_
    refine lv_icmp_ge (tgt := 109) hx hb dX7_deal_50 (by decide) (fun c20 => ?_) (fun c20 => ?_)
    · have t20 : i0.toInt ≤ y6.toInt := (tle c20)
      refine lv_aload_n hx hb dX7_deal_109 rfl (lv_at hl 3 rfl) ?_
      refine va_get (D := (dC, dI)) (ci := 7) (v := .ref dl) (C := RX7) (T := TX7) (N := 10) hx hb hts hin7 hown hK hP 0 rfl rfl 9 (by decide) hw0 (fun _ h9 => h9) rfl dX7_deal_110 ?_
      refine lv_iload_n hx hb dX7_deal_113 rfl (lv_at hl 6 rfl) ?_
      refine va_iald hx hb hK hP 1 0 rfl rfl (vin (by omega) (by omega)) dX7_deal_114 ?_
      refine lv_topi (fun x21 e21 => ?_)
      refine lv_iload hx hb dX7_deal_115 (lv_at hl 1 rfl) ?_
      refine lv_isub hx hb dX7_deal_117 ?_
      refine lv_topi (fun x22 e22 => ?_)
      have hP9 := mx_subP (wc := [(h, .inr (7, [.ref k, .ref d, .ref j, .ref o, .ref f, .ref g, .ref wk, .ref im, .ref kt, .ref dl])), (dl, .inl (cI, 4, .inl yld))]) hP [0, 1] rfl
      have hD9 := hD.sub (ws' := [(h, .inr (7, [.ref k, .ref d, .ref j, .ref o, .ref f, .ref g, .ref wk, .ref im, .ref kt, .ref dl])), (dl, .inl (cI, 4, .inl yld))]) [0, 1] (by decide) rfl
      exact W.iret (v := x22) hx hb hr (fun t ht hW => ⟨⟨x22, ((fun u9 => ([yld] : List (Nat → Int32)).getD u9 (fun _ => 0)), (fun u9 => ([] : List Int32).getD u9 0), (fun u9 => ([] : List Int64).getD u9 0)), rfl, trivial, by rw [ht]; exact hP9, hD9⟩, hS.F ht⟩) hS.2.2 dX7_deal_118
    · have t20 : y6.toInt < i0.toInt := (tnle c20)
      refine lv_iconst (v := 0) hx hb dX7_deal_53 (by decide) ?_
      refine lv_istore (lv' := [(7, .int 0), (6, .int y6), (5, .int x14), (4, .int x12), (0, .ref h), (1, .int i0), (2, .int i1), (3, .int i2)]) hx hb dX7_deal_54 hl (by decide) rfl (fun ls hl => ?_)
      refine lv_iconst (v := 1) hx hb dX7_deal_56 (by decide) ?_
      refine lv_istore (lv' := [(8, .int 1), (7, .int 0), (6, .int y6), (5, .int x14), (4, .int x12), (0, .ref h), (1, .int i0), (2, .int i1), (3, .int i2)]) hx hb dX7_deal_57 hl (by decide) rfl (fun ls hl => ?_)
      refine lv_iload hx hb dX7_deal_59 (lv_at hl 0 rfl) ?_
      refine lv_iconst (v := 4) hx hb dX7_deal_61 (by decide) ?_
      refine lv_icmp_ge (tgt := 92) hx hb dX7_deal_62 (by decide) (fun c23 => absurd c23 (by decide)) (fun c23 => ?_)
      refine lv_aload_n hx hb dX7_deal_65 rfl (lv_at hl 5 rfl) ?_
      refine va_get (D := (dC, dI)) (ci := 7) (v := .ref dl) (C := RX7) (T := TX7) (N := 10) hx hb hts hin7 hown hK hP 0 rfl rfl 9 (by decide) hw0 (fun _ h9 => h9) rfl dX7_deal_66 ?_
      refine lv_iload hx hb dX7_deal_69 (lv_at hl 0 rfl) ?_
      refine va_iald hx hb hK hP 1 0 rfl rfl (vin (by decide) (by decide)) dX7_deal_71 ?_
      refine lv_topi (fun x24 e24 => ?_)
      refine lv_aload_n hx hb dX7_deal_72 rfl (lv_at hl 5 rfl) ?_
      refine va_get (D := (dC, dI)) (ci := 7) (v := .ref dl) (C := RX7) (T := TX7) (N := 10) hx hb hts hin7 hown hK hP 0 rfl rfl 9 (by decide) hw0 (fun _ h9 => h9) rfl dX7_deal_73 ?_
      refine lv_iload hx hb dX7_deal_76 (lv_at hl 1 rfl) ?_
      refine va_iald hx hb hK hP 1 0 rfl rfl (vin (by decide) (by decide)) dX7_deal_78 ?_
      refine lv_topi (fun x25 e25 => ?_)
      refine lv_icmp_ge (tgt := 86) hx hb dX7_deal_79 (by decide) (fun c26 => ?_) (fun c26 => ?_)
      · have t26 : x25.toInt ≤ x24.toInt := (tle c26)
        refine lv_iinc (v := 2) (lv' := [(8, .int 2), (7, .int 0), (6, .int y6), (5, .int x14), (4, .int x12), (0, .ref h), (1, .int i0), (2, .int i1), (3, .int i2)]) hx hb dX7_deal_86 hl (k := 0) rfl (by decide) (by decide) rfl (fun ls hl => ?_)
        refine lv_goto (tgt := 59) hx hb dX7_deal_89 (by decide) ?_
        refine lv_iload hx hb dX7_deal_59 (lv_at hl 0 rfl) ?_
        refine lv_iconst (v := 4) hx hb dX7_deal_61 (by decide) ?_
        refine lv_icmp_ge (tgt := 92) hx hb dX7_deal_62 (by decide) (fun c27 => absurd c27 (by decide)) (fun c27 => ?_)
        refine lv_aload_n hx hb dX7_deal_65 rfl (lv_at hl 5 rfl) ?_
        refine va_get (D := (dC, dI)) (ci := 7) (v := .ref dl) (C := RX7) (T := TX7) (N := 10) hx hb hts hin7 hown hK hP 0 rfl rfl 9 (by decide) hw0 (fun _ h9 => h9) rfl dX7_deal_66 ?_
        refine lv_iload hx hb dX7_deal_69 (lv_at hl 0 rfl) ?_
        refine va_iald hx hb hK hP 1 0 rfl rfl (vin (by decide) (by decide)) dX7_deal_71 ?_
        refine lv_topi (fun x28 e28 => ?_)
        refine lv_aload_n hx hb dX7_deal_72 rfl (lv_at hl 5 rfl) ?_
        refine va_get (D := (dC, dI)) (ci := 7) (v := .ref dl) (C := RX7) (T := TX7) (N := 10) hx hb hts hin7 hown hK hP 0 rfl rfl 9 (by decide) hw0 (fun _ h9 => h9) rfl dX7_deal_73 ?_
        refine lv_iload hx hb dX7_deal_76 (lv_at hl 1 rfl) ?_
        refine va_iald hx hb hK hP 1 0 rfl rfl (vin (by decide) (by decide)) dX7_deal_78 ?_
        refine lv_topi (fun x29 e29 => ?_)
        refine lv_icmp_ge (tgt := 86) hx hb dX7_deal_79 (by decide) (fun c30 => ?_) (fun c30 => ?_)
        · have t30 : x29.toInt ≤ x28.toInt := (tle c30)
          refine lv_iinc (v := 3) (lv' := [(8, .int 3), (7, .int 0), (6, .int y6), (5, .int x14), (4, .int x12), (0, .ref h), (1, .int i0), (2, .int i1), (3, .int i2)]) hx hb dX7_deal_86 hl (k := 0) rfl (by decide) (by decide) rfl (fun ls hl => ?_)
          refine lv_goto (tgt := 59) hx hb dX7_deal_89 (by decide) ?_
          refine lv_iload hx hb dX7_deal_59 (lv_at hl 0 rfl) ?_
          refine lv_iconst (v := 4) hx hb dX7_deal_61 (by decide) ?_
          refine lv_icmp_ge (tgt := 92) hx hb dX7_deal_62 (by decide) (fun c31 => absurd c31 (by decide)) (fun c31 => ?_)
          refine lv_aload_n hx hb dX7_deal_65 rfl (lv_at hl 5 rfl) ?_
          refine va_get (D := (dC, dI)) (ci := 7) (v := .ref dl) (C := RX7) (T := TX7) (N := 10) hx hb hts hin7 hown hK hP 0 rfl rfl 9 (by decide) hw0 (fun _ h9 => h9) rfl dX7_deal_66 ?_
          refine lv_iload hx hb dX7_deal_69 (lv_at hl 0 rfl) ?_
          refine va_iald hx hb hK hP 1 0 rfl rfl (vin (by decide) (by decide)) dX7_deal_71 ?_
          refine lv_topi (fun x32 e32 => ?_)
          refine lv_aload_n hx hb dX7_deal_72 rfl (lv_at hl 5 rfl) ?_
          refine va_get (D := (dC, dI)) (ci := 7) (v := .ref dl) (C := RX7) (T := TX7) (N := 10) hx hb hts hin7 hown hK hP 0 rfl rfl 9 (by decide) hw0 (fun _ h9 => h9) rfl dX7_deal_73 ?_
          refine lv_iload hx hb dX7_deal_76 (lv_at hl 1 rfl) ?_
          refine va_iald hx hb hK hP 1 0 rfl rfl (vin (by decide) (by decide)) dX7_deal_78 ?_
          refine lv_topi (fun x33 e33 => ?_)
          refine lv_icmp_ge (tgt := 86) hx hb dX7_deal_79 (by decide) (fun c34 => ?_) (fun c34 => ?_)
          · have t34 : x33.toInt ≤ x32.toInt := (tle c34)
            refine lv_iinc (v := 4) (lv' := [(8, .int 4), (7, .int 0), (6, .int y6), (5, .int x14), (4, .int x12), (0, .ref h), (1, .int i0), (2, .int i1), (3, .int i2)]) hx hb dX7_deal_86 hl (k := 0) rfl (by decide) (by decide) rfl (fun ls hl => ?_)
            refine lv_goto (tgt := 59) hx hb dX7_deal_89 (by decide) ?_
            refine lv_iload hx hb dX7_deal_59 (lv_at hl 0 rfl) ?_
            refine lv_iconst (v := 4) hx hb dX7_deal_61 (by decide) ?_
            refine lv_icmp_ge (tgt := 92) hx hb dX7_deal_62 (by decide) (fun c35 => ?_) (fun c35 => absurd c35 (by decide))
            refine lv_aload_n hx hb dX7_deal_92 rfl (lv_at hl 5 rfl) ?_
            refine va_get (D := (dC, dI)) (ci := 7) (v := .ref dl) (C := RX7) (T := TX7) (N := 10) hx hb hts hin7 hown hK hP 0 rfl rfl 9 (by decide) hw0 (fun _ h9 => h9) rfl dX7_deal_93 ?_
            refine lv_iload hx hb dX7_deal_96 (lv_at hl 1 rfl) ?_
            refine lv_dup2_11 hx hb dX7_deal_98 rfl rfl ?_
            refine va_iald hx hb hK hP 1 0 rfl rfl (vin (by decide) (by decide)) dX7_deal_99 ?_
            refine lv_topi (fun x36 e36 => ?_)
            refine lv_iconst (v := 1) hx hb dX7_deal_100 (by decide) ?_
            refine lv_iadd hx hb dX7_deal_101 ?_
            refine lv_topi (fun x37 e37 => ?_)
            refine va_iast hx hb hK hP hD hS 1 0 rfl rfl (vin (by decide) (by decide)) dX7_deal_102 (fun H locs hP hD hS => ?_)
            replace hP : va_P (dC, dI) vwCl [(h, .inr (7, [.ref k, .ref d, .ref j, .ref o, .ref f, .ref g, .ref wk, .ref im, .ref kt, .ref dl])), (dl, .inl (cI, 4, .inl (upd yld 0 x37)))] H := hP
            replace hD : va_D A [(h, .inr (7, [.ref k, .ref d, .ref j, .ref o, .ref f, .ref g, .ref wk, .ref im, .ref kt, .ref dl])), (dl, .inl (cI, 4, .inl (upd yld 0 x37)))] := hD
            obtain ⟨x38, e38⟩ : ∃ y : Int32, y = y6 + Int32.ofInt 1 := ⟨_, rfl⟩
            refine lv_iinc (v := x38) (lv' := [(6, .int x38), (8, .int 4), (7, .int 0), (5, .int x14), (4, .int x12), (0, .ref h), (1, .int i0), (2, .int i1), (3, .int i2)]) hx hb dX7_deal_103 hl (k := 2) rfl e38.symm (by decide) rfl (fun ls hl => ?_)
            have f38 : x38.toInt = y6.toInt + 1 := by rw [e38]; exact tinc (by decide) (by have t8 := tb y6; omega) (by have t8 := tb y6; omega)
            refine lv_goto (tgt := 47) hx hb dX7_deal_106 (by decide) ?_
            exact ih (H := H) (locs := locs) (ls := ls) (y6 := x38) (yld := (upd yld 0 x37)) hS (by omega)  (show lv_has ls 9 [(6, .int x38), (5, .int x14), (4, .int x12), (0, .ref h), (1, .int i0), (2, .int i1), (3, .int i2)] from lv_sub hl [0, 3, 4, 5, 6, 7, 8] rfl) (mx_subP (wc := [(h, .inr (7, [.ref k, .ref d, .ref j, .ref o, .ref f, .ref g, .ref wk, .ref im, .ref kt, .ref dl])), (dl, .inl (cI, 4, .inl (upd yld 0 x37)))]) hP [0, 1] rfl) (hD.sub (ws' := [(h, .inr (7, [.ref k, .ref d, .ref j, .ref o, .ref f, .ref g, .ref wk, .ref im, .ref kt, .ref dl])), (dl, .inl (cI, 4, .inl (upd yld 0 x37)))]) [0, 1] (by decide) rfl) (by omega)
          · have t34 : x32.toInt < x33.toInt := (tnle c34)
            refine lv_iload hx hb dX7_deal_82 (lv_at hl 0 rfl) ?_
            refine lv_istore (lv' := [(7, .int 3), (8, .int 3), (6, .int y6), (5, .int x14), (4, .int x12), (0, .ref h), (1, .int i0), (2, .int i1), (3, .int i2)]) hx hb dX7_deal_84 hl (by decide) rfl (fun ls hl => ?_)
            refine lv_iinc (v := 4) (lv' := [(8, .int 4), (7, .int 3), (6, .int y6), (5, .int x14), (4, .int x12), (0, .ref h), (1, .int i0), (2, .int i1), (3, .int i2)]) hx hb dX7_deal_86 hl (k := 1) rfl (by decide) (by decide) rfl (fun ls hl => ?_)
            refine lv_goto (tgt := 59) hx hb dX7_deal_89 (by decide) ?_
            refine lv_iload hx hb dX7_deal_59 (lv_at hl 0 rfl) ?_
            refine lv_iconst (v := 4) hx hb dX7_deal_61 (by decide) ?_
            refine lv_icmp_ge (tgt := 92) hx hb dX7_deal_62 (by decide) (fun c39 => ?_) (fun c39 => absurd c39 (by decide))
            refine lv_aload_n hx hb dX7_deal_92 rfl (lv_at hl 5 rfl) ?_
            refine va_get (D := (dC, dI)) (ci := 7) (v := .ref dl) (C := RX7) (T := TX7) (N := 10) hx hb hts hin7 hown hK hP 0 rfl rfl 9 (by decide) hw0 (fun _ h9 => h9) rfl dX7_deal_93 ?_
            refine lv_iload hx hb dX7_deal_96 (lv_at hl 1 rfl) ?_
            refine lv_dup2_11 hx hb dX7_deal_98 rfl rfl ?_
            refine va_iald hx hb hK hP 1 0 rfl rfl (vin (by decide) (by decide)) dX7_deal_99 ?_
            refine lv_topi (fun x40 e40 => ?_)
            refine lv_iconst (v := 1) hx hb dX7_deal_100 (by decide) ?_
            refine lv_iadd hx hb dX7_deal_101 ?_
            refine lv_topi (fun x41 e41 => ?_)
            refine va_iast hx hb hK hP hD hS 1 0 rfl rfl (vin (by decide) (by decide)) dX7_deal_102 (fun H locs hP hD hS => ?_)
            replace hP : va_P (dC, dI) vwCl [(h, .inr (7, [.ref k, .ref d, .ref j, .ref o, .ref f, .ref g, .ref wk, .ref im, .ref kt, .ref dl])), (dl, .inl (cI, 4, .inl (upd yld 3 x41)))] H := hP
            replace hD : va_D A [(h, .inr (7, [.ref k, .ref d, .ref j, .ref o, .ref f, .ref g, .ref wk, .ref im, .ref kt, .ref dl])), (dl, .inl (cI, 4, .inl (upd yld 3 x41)))] := hD
            obtain ⟨x42, e42⟩ : ∃ y : Int32, y = y6 + Int32.ofInt 1 := ⟨_, rfl⟩
            refine lv_iinc (v := x42) (lv' := [(6, .int x42), (8, .int 4), (7, .int 3), (5, .int x14), (4, .int x12), (0, .ref h), (1, .int i0), (2, .int i1), (3, .int i2)]) hx hb dX7_deal_103 hl (k := 2) rfl e42.symm (by decide) rfl (fun ls hl => ?_)
            have f42 : x42.toInt = y6.toInt + 1 := by rw [e42]; exact tinc (by decide) (by have t8 := tb y6; omega) (by have t8 := tb y6; omega)
            refine lv_goto (tgt := 47) hx hb dX7_deal_106 (by decide) ?_
            exact ih (H := H) (locs := locs) (ls := ls) (y6 := x42) (yld := (upd yld 3 x41)) hS (by omega)  (show lv_has ls 9 [(6, .int x42), (5, .int x14), (4, .int x12), (0, .ref h), (1, .int i0), (2, .int i1), (3, .int i2)] from lv_sub hl [0, 3, 4, 5, 6, 7, 8] rfl) (mx_subP (wc := [(h, .inr (7, [.ref k, .ref d, .ref j, .ref o, .ref f, .ref g, .ref wk, .ref im, .ref kt, .ref dl])), (dl, .inl (cI, 4, .inl (upd yld 3 x41)))]) hP [0, 1] rfl) (hD.sub (ws' := [(h, .inr (7, [.ref k, .ref d, .ref j, .ref o, .ref f, .ref g, .ref wk, .ref im, .ref kt, .ref dl])), (dl, .inl (cI, 4, .inl (upd yld 3 x41)))]) [0, 1] (by decide) rfl) (by omega)
        · have t30 : x28.toInt < x29.toInt := (tnle c30)
          refine lv_iload hx hb dX7_deal_82 (lv_at hl 0 rfl) ?_
          refine lv_istore (lv' := [(7, .int 2), (8, .int 2), (6, .int y6), (5, .int x14), (4, .int x12), (0, .ref h), (1, .int i0), (2, .int i1), (3, .int i2)]) hx hb dX7_deal_84 hl (by decide) rfl (fun ls hl => ?_)
          refine lv_iinc (v := 3) (lv' := [(8, .int 3), (7, .int 2), (6, .int y6), (5, .int x14), (4, .int x12), (0, .ref h), (1, .int i0), (2, .int i1), (3, .int i2)]) hx hb dX7_deal_86 hl (k := 1) rfl (by decide) (by decide) rfl (fun ls hl => ?_)
          refine lv_goto (tgt := 59) hx hb dX7_deal_89 (by decide) ?_
          refine lv_iload hx hb dX7_deal_59 (lv_at hl 0 rfl) ?_
          refine lv_iconst (v := 4) hx hb dX7_deal_61 (by decide) ?_
          refine lv_icmp_ge (tgt := 92) hx hb dX7_deal_62 (by decide) (fun c43 => absurd c43 (by decide)) (fun c43 => ?_)
          refine lv_aload_n hx hb dX7_deal_65 rfl (lv_at hl 5 rfl) ?_
          refine va_get (D := (dC, dI)) (ci := 7) (v := .ref dl) (C := RX7) (T := TX7) (N := 10) hx hb hts hin7 hown hK hP 0 rfl rfl 9 (by decide) hw0 (fun _ h9 => h9) rfl dX7_deal_66 ?_
          refine lv_iload hx hb dX7_deal_69 (lv_at hl 0 rfl) ?_
          refine va_iald hx hb hK hP 1 0 rfl rfl (vin (by decide) (by decide)) dX7_deal_71 ?_
          refine lv_topi (fun x44 e44 => ?_)
          refine lv_aload_n hx hb dX7_deal_72 rfl (lv_at hl 5 rfl) ?_
          refine va_get (D := (dC, dI)) (ci := 7) (v := .ref dl) (C := RX7) (T := TX7) (N := 10) hx hb hts hin7 hown hK hP 0 rfl rfl 9 (by decide) hw0 (fun _ h9 => h9) rfl dX7_deal_73 ?_
          refine lv_iload hx hb dX7_deal_76 (lv_at hl 1 rfl) ?_
          refine va_iald hx hb hK hP 1 0 rfl rfl (vin (by decide) (by decide)) dX7_deal_78 ?_
          refine lv_topi (fun x45 e45 => ?_)
          refine lv_icmp_ge (tgt := 86) hx hb dX7_deal_79 (by decide) (fun c46 => ?_) (fun c46 => ?_)
          · have t46 : x45.toInt ≤ x44.toInt := (tle c46)
            refine lv_iinc (v := 4) (lv' := [(8, .int 4), (7, .int 2), (6, .int y6), (5, .int x14), (4, .int x12), (0, .ref h), (1, .int i0), (2, .int i1), (3, .int i2)]) hx hb dX7_deal_86 hl (k := 0) rfl (by decide) (by decide) rfl (fun ls hl => ?_)
            refine lv_goto (tgt := 59) hx hb dX7_deal_89 (by decide) ?_
            refine lv_iload hx hb dX7_deal_59 (lv_at hl 0 rfl) ?_
            refine lv_iconst (v := 4) hx hb dX7_deal_61 (by decide) ?_
            refine lv_icmp_ge (tgt := 92) hx hb dX7_deal_62 (by decide) (fun c47 => ?_) (fun c47 => absurd c47 (by decide))
            refine lv_aload_n hx hb dX7_deal_92 rfl (lv_at hl 5 rfl) ?_
            refine va_get (D := (dC, dI)) (ci := 7) (v := .ref dl) (C := RX7) (T := TX7) (N := 10) hx hb hts hin7 hown hK hP 0 rfl rfl 9 (by decide) hw0 (fun _ h9 => h9) rfl dX7_deal_93 ?_
            refine lv_iload hx hb dX7_deal_96 (lv_at hl 1 rfl) ?_
            refine lv_dup2_11 hx hb dX7_deal_98 rfl rfl ?_
            refine va_iald hx hb hK hP 1 0 rfl rfl (vin (by decide) (by decide)) dX7_deal_99 ?_
            refine lv_topi (fun x48 e48 => ?_)
            refine lv_iconst (v := 1) hx hb dX7_deal_100 (by decide) ?_
            refine lv_iadd hx hb dX7_deal_101 ?_
            refine lv_topi (fun x49 e49 => ?_)
            refine va_iast hx hb hK hP hD hS 1 0 rfl rfl (vin (by decide) (by decide)) dX7_deal_102 (fun H locs hP hD hS => ?_)
            replace hP : va_P (dC, dI) vwCl [(h, .inr (7, [.ref k, .ref d, .ref j, .ref o, .ref f, .ref g, .ref wk, .ref im, .ref kt, .ref dl])), (dl, .inl (cI, 4, .inl (upd yld 2 x49)))] H := hP
            replace hD : va_D A [(h, .inr (7, [.ref k, .ref d, .ref j, .ref o, .ref f, .ref g, .ref wk, .ref im, .ref kt, .ref dl])), (dl, .inl (cI, 4, .inl (upd yld 2 x49)))] := hD
            obtain ⟨x50, e50⟩ : ∃ y : Int32, y = y6 + Int32.ofInt 1 := ⟨_, rfl⟩
            refine lv_iinc (v := x50) (lv' := [(6, .int x50), (8, .int 4), (7, .int 2), (5, .int x14), (4, .int x12), (0, .ref h), (1, .int i0), (2, .int i1), (3, .int i2)]) hx hb dX7_deal_103 hl (k := 2) rfl e50.symm (by decide) rfl (fun ls hl => ?_)
            have f50 : x50.toInt = y6.toInt + 1 := by rw [e50]; exact tinc (by decide) (by have t8 := tb y6; omega) (by have t8 := tb y6; omega)
            refine lv_goto (tgt := 47) hx hb dX7_deal_106 (by decide) ?_
            exact ih (H := H) (locs := locs) (ls := ls) (y6 := x50) (yld := (upd yld 2 x49)) hS (by omega)  (show lv_has ls 9 [(6, .int x50), (5, .int x14), (4, .int x12), (0, .ref h), (1, .int i0), (2, .int i1), (3, .int i2)] from lv_sub hl [0, 3, 4, 5, 6, 7, 8] rfl) (mx_subP (wc := [(h, .inr (7, [.ref k, .ref d, .ref j, .ref o, .ref f, .ref g, .ref wk, .ref im, .ref kt, .ref dl])), (dl, .inl (cI, 4, .inl (upd yld 2 x49)))]) hP [0, 1] rfl) (hD.sub (ws' := [(h, .inr (7, [.ref k, .ref d, .ref j, .ref o, .ref f, .ref g, .ref wk, .ref im, .ref kt, .ref dl])), (dl, .inl (cI, 4, .inl (upd yld 2 x49)))]) [0, 1] (by decide) rfl) (by omega)
          · have t46 : x44.toInt < x45.toInt := (tnle c46)
            refine lv_iload hx hb dX7_deal_82 (lv_at hl 0 rfl) ?_
            refine lv_istore (lv' := [(7, .int 3), (8, .int 3), (6, .int y6), (5, .int x14), (4, .int x12), (0, .ref h), (1, .int i0), (2, .int i1), (3, .int i2)]) hx hb dX7_deal_84 hl (by decide) rfl (fun ls hl => ?_)
            refine lv_iinc (v := 4) (lv' := [(8, .int 4), (7, .int 3), (6, .int y6), (5, .int x14), (4, .int x12), (0, .ref h), (1, .int i0), (2, .int i1), (3, .int i2)]) hx hb dX7_deal_86 hl (k := 1) rfl (by decide) (by decide) rfl (fun ls hl => ?_)
            refine lv_goto (tgt := 59) hx hb dX7_deal_89 (by decide) ?_
            refine lv_iload hx hb dX7_deal_59 (lv_at hl 0 rfl) ?_
            refine lv_iconst (v := 4) hx hb dX7_deal_61 (by decide) ?_
            refine lv_icmp_ge (tgt := 92) hx hb dX7_deal_62 (by decide) (fun c51 => ?_) (fun c51 => absurd c51 (by decide))
            refine lv_aload_n hx hb dX7_deal_92 rfl (lv_at hl 5 rfl) ?_
            refine va_get (D := (dC, dI)) (ci := 7) (v := .ref dl) (C := RX7) (T := TX7) (N := 10) hx hb hts hin7 hown hK hP 0 rfl rfl 9 (by decide) hw0 (fun _ h9 => h9) rfl dX7_deal_93 ?_
            refine lv_iload hx hb dX7_deal_96 (lv_at hl 1 rfl) ?_
            refine lv_dup2_11 hx hb dX7_deal_98 rfl rfl ?_
            refine va_iald hx hb hK hP 1 0 rfl rfl (vin (by decide) (by decide)) dX7_deal_99 ?_
            refine lv_topi (fun x52 e52 => ?_)
            refine lv_iconst (v := 1) hx hb dX7_deal_100 (by decide) ?_
            refine lv_iadd hx hb dX7_deal_101 ?_
            refine lv_topi (fun x53 e53 => ?_)
            refine va_iast hx hb hK hP hD hS 1 0 rfl rfl (vin (by decide) (by decide)) dX7_deal_102 (fun H locs hP hD hS => ?_)
            replace hP : va_P (dC, dI) vwCl [(h, .inr (7, [.ref k, .ref d, .ref j, .ref o, .ref f, .ref g, .ref wk, .ref im, .ref kt, .ref dl])), (dl, .inl (cI, 4, .inl (upd yld 3 x53)))] H := hP
            replace hD : va_D A [(h, .inr (7, [.ref k, .ref d, .ref j, .ref o, .ref f, .ref g, .ref wk, .ref im, .ref kt, .ref dl])), (dl, .inl (cI, 4, .inl (upd yld 3 x53)))] := hD
            obtain ⟨x54, e54⟩ : ∃ y : Int32, y = y6 + Int32.ofInt 1 := ⟨_, rfl⟩
            refine lv_iinc (v := x54) (lv' := [(6, .int x54), (8, .int 4), (7, .int 3), (5, .int x14), (4, .int x12), (0, .ref h), (1, .int i0), (2, .int i1), (3, .int i2)]) hx hb dX7_deal_103 hl (k := 2) rfl e54.symm (by decide) rfl (fun ls hl => ?_)
            have f54 : x54.toInt = y6.toInt + 1 := by rw [e54]; exact tinc (by decide) (by have t8 := tb y6; omega) (by have t8 := tb y6; omega)
            refine lv_goto (tgt := 47) hx hb dX7_deal_106 (by decide) ?_
            exact ih (H := H) (locs := locs) (ls := ls) (y6 := x54) (yld := (upd yld 3 x53)) hS (by omega)  (show lv_has ls 9 [(6, .int x54), (5, .int x14), (4, .int x12), (0, .ref h), (1, .int i0), (2, .int i1), (3, .int i2)] from lv_sub hl [0, 3, 4, 5, 6, 7, 8] rfl) (mx_subP (wc := [(h, .inr (7, [.ref k, .ref d, .ref j, .ref o, .ref f, .ref g, .ref wk, .ref im, .ref kt, .ref dl])), (dl, .inl (cI, 4, .inl (upd yld 3 x53)))]) hP [0, 1] rfl) (hD.sub (ws' := [(h, .inr (7, [.ref k, .ref d, .ref j, .ref o, .ref f, .ref g, .ref wk, .ref im, .ref kt, .ref dl])), (dl, .inl (cI, 4, .inl (upd yld 3 x53)))]) [0, 1] (by decide) rfl) (by omega)
      · have t26 : x24.toInt < x25.toInt := (tnle c26)
        refine lv_iload hx hb dX7_deal_82 (lv_at hl 0 rfl) ?_
        refine lv_istore (lv' := [(7, .int 1), (8, .int 1), (6, .int y6), (5, .int x14), (4, .int x12), (0, .ref h), (1, .int i0), (2, .int i1), (3, .int i2)]) hx hb dX7_deal_84 hl (by decide) rfl (fun ls hl => ?_)
        refine lv_iinc (v := 2) (lv' := [(8, .int 2), (7, .int 1), (6, .int y6), (5, .int x14), (4, .int x12), (0, .ref h), (1, .int i0), (2, .int i1), (3, .int i2)]) hx hb dX7_deal_86 hl (k := 1) rfl (by decide) (by decide) rfl (fun ls hl => ?_)
        refine lv_goto (tgt := 59) hx hb dX7_deal_89 (by decide) ?_
        refine lv_iload hx hb dX7_deal_59 (lv_at hl 0 rfl) ?_
        refine lv_iconst (v := 4) hx hb dX7_deal_61 (by decide) ?_
        refine lv_icmp_ge (tgt := 92) hx hb dX7_deal_62 (by decide) (fun c55 => absurd c55 (by decide)) (fun c55 => ?_)
        refine lv_aload_n hx hb dX7_deal_65 rfl (lv_at hl 5 rfl) ?_
        refine va_get (D := (dC, dI)) (ci := 7) (v := .ref dl) (C := RX7) (T := TX7) (N := 10) hx hb hts hin7 hown hK hP 0 rfl rfl 9 (by decide) hw0 (fun _ h9 => h9) rfl dX7_deal_66 ?_
        refine lv_iload hx hb dX7_deal_69 (lv_at hl 0 rfl) ?_
        refine va_iald hx hb hK hP 1 0 rfl rfl (vin (by decide) (by decide)) dX7_deal_71 ?_
        refine lv_topi (fun x56 e56 => ?_)
        refine lv_aload_n hx hb dX7_deal_72 rfl (lv_at hl 5 rfl) ?_
        refine va_get (D := (dC, dI)) (ci := 7) (v := .ref dl) (C := RX7) (T := TX7) (N := 10) hx hb hts hin7 hown hK hP 0 rfl rfl 9 (by decide) hw0 (fun _ h9 => h9) rfl dX7_deal_73 ?_
        refine lv_iload hx hb dX7_deal_76 (lv_at hl 1 rfl) ?_
        refine va_iald hx hb hK hP 1 0 rfl rfl (vin (by decide) (by decide)) dX7_deal_78 ?_
        refine lv_topi (fun x57 e57 => ?_)
        refine lv_icmp_ge (tgt := 86) hx hb dX7_deal_79 (by decide) (fun c58 => ?_) (fun c58 => ?_)
        · have t58 : x57.toInt ≤ x56.toInt := (tle c58)
          refine lv_iinc (v := 3) (lv' := [(8, .int 3), (7, .int 1), (6, .int y6), (5, .int x14), (4, .int x12), (0, .ref h), (1, .int i0), (2, .int i1), (3, .int i2)]) hx hb dX7_deal_86 hl (k := 0) rfl (by decide) (by decide) rfl (fun ls hl => ?_)
          refine lv_goto (tgt := 59) hx hb dX7_deal_89 (by decide) ?_
          refine lv_iload hx hb dX7_deal_59 (lv_at hl 0 rfl) ?_
          refine lv_iconst (v := 4) hx hb dX7_deal_61 (by decide) ?_
          refine lv_icmp_ge (tgt := 92) hx hb dX7_deal_62 (by decide) (fun c59 => absurd c59 (by decide)) (fun c59 => ?_)
          refine lv_aload_n hx hb dX7_deal_65 rfl (lv_at hl 5 rfl) ?_
          refine va_get (D := (dC, dI)) (ci := 7) (v := .ref dl) (C := RX7) (T := TX7) (N := 10) hx hb hts hin7 hown hK hP 0 rfl rfl 9 (by decide) hw0 (fun _ h9 => h9) rfl dX7_deal_66 ?_
          refine lv_iload hx hb dX7_deal_69 (lv_at hl 0 rfl) ?_
          refine va_iald hx hb hK hP 1 0 rfl rfl (vin (by decide) (by decide)) dX7_deal_71 ?_
          refine lv_topi (fun x60 e60 => ?_)
          refine lv_aload_n hx hb dX7_deal_72 rfl (lv_at hl 5 rfl) ?_
          refine va_get (D := (dC, dI)) (ci := 7) (v := .ref dl) (C := RX7) (T := TX7) (N := 10) hx hb hts hin7 hown hK hP 0 rfl rfl 9 (by decide) hw0 (fun _ h9 => h9) rfl dX7_deal_73 ?_
          refine lv_iload hx hb dX7_deal_76 (lv_at hl 1 rfl) ?_
          refine va_iald hx hb hK hP 1 0 rfl rfl (vin (by decide) (by decide)) dX7_deal_78 ?_
          refine lv_topi (fun x61 e61 => ?_)
          refine lv_icmp_ge (tgt := 86) hx hb dX7_deal_79 (by decide) (fun c62 => ?_) (fun c62 => ?_)
          · have t62 : x61.toInt ≤ x60.toInt := (tle c62)
            refine lv_iinc (v := 4) (lv' := [(8, .int 4), (7, .int 1), (6, .int y6), (5, .int x14), (4, .int x12), (0, .ref h), (1, .int i0), (2, .int i1), (3, .int i2)]) hx hb dX7_deal_86 hl (k := 0) rfl (by decide) (by decide) rfl (fun ls hl => ?_)
            refine lv_goto (tgt := 59) hx hb dX7_deal_89 (by decide) ?_
            refine lv_iload hx hb dX7_deal_59 (lv_at hl 0 rfl) ?_
            refine lv_iconst (v := 4) hx hb dX7_deal_61 (by decide) ?_
            refine lv_icmp_ge (tgt := 92) hx hb dX7_deal_62 (by decide) (fun c63 => ?_) (fun c63 => absurd c63 (by decide))
            refine lv_aload_n hx hb dX7_deal_92 rfl (lv_at hl 5 rfl) ?_
            refine va_get (D := (dC, dI)) (ci := 7) (v := .ref dl) (C := RX7) (T := TX7) (N := 10) hx hb hts hin7 hown hK hP 0 rfl rfl 9 (by decide) hw0 (fun _ h9 => h9) rfl dX7_deal_93 ?_
            refine lv_iload hx hb dX7_deal_96 (lv_at hl 1 rfl) ?_
            refine lv_dup2_11 hx hb dX7_deal_98 rfl rfl ?_
            refine va_iald hx hb hK hP 1 0 rfl rfl (vin (by decide) (by decide)) dX7_deal_99 ?_
            refine lv_topi (fun x64 e64 => ?_)
            refine lv_iconst (v := 1) hx hb dX7_deal_100 (by decide) ?_
            refine lv_iadd hx hb dX7_deal_101 ?_
            refine lv_topi (fun x65 e65 => ?_)
            refine va_iast hx hb hK hP hD hS 1 0 rfl rfl (vin (by decide) (by decide)) dX7_deal_102 (fun H locs hP hD hS => ?_)
            replace hP : va_P (dC, dI) vwCl [(h, .inr (7, [.ref k, .ref d, .ref j, .ref o, .ref f, .ref g, .ref wk, .ref im, .ref kt, .ref dl])), (dl, .inl (cI, 4, .inl (upd yld 1 x65)))] H := hP
            replace hD : va_D A [(h, .inr (7, [.ref k, .ref d, .ref j, .ref o, .ref f, .ref g, .ref wk, .ref im, .ref kt, .ref dl])), (dl, .inl (cI, 4, .inl (upd yld 1 x65)))] := hD
            obtain ⟨x66, e66⟩ : ∃ y : Int32, y = y6 + Int32.ofInt 1 := ⟨_, rfl⟩
            refine lv_iinc (v := x66) (lv' := [(6, .int x66), (8, .int 4), (7, .int 1), (5, .int x14), (4, .int x12), (0, .ref h), (1, .int i0), (2, .int i1), (3, .int i2)]) hx hb dX7_deal_103 hl (k := 2) rfl e66.symm (by decide) rfl (fun ls hl => ?_)
            have f66 : x66.toInt = y6.toInt + 1 := by rw [e66]; exact tinc (by decide) (by have t8 := tb y6; omega) (by have t8 := tb y6; omega)
            refine lv_goto (tgt := 47) hx hb dX7_deal_106 (by decide) ?_
            exact ih (H := H) (locs := locs) (ls := ls) (y6 := x66) (yld := (upd yld 1 x65)) hS (by omega)  (show lv_has ls 9 [(6, .int x66), (5, .int x14), (4, .int x12), (0, .ref h), (1, .int i0), (2, .int i1), (3, .int i2)] from lv_sub hl [0, 3, 4, 5, 6, 7, 8] rfl) (mx_subP (wc := [(h, .inr (7, [.ref k, .ref d, .ref j, .ref o, .ref f, .ref g, .ref wk, .ref im, .ref kt, .ref dl])), (dl, .inl (cI, 4, .inl (upd yld 1 x65)))]) hP [0, 1] rfl) (hD.sub (ws' := [(h, .inr (7, [.ref k, .ref d, .ref j, .ref o, .ref f, .ref g, .ref wk, .ref im, .ref kt, .ref dl])), (dl, .inl (cI, 4, .inl (upd yld 1 x65)))]) [0, 1] (by decide) rfl) (by omega)
          · have t62 : x60.toInt < x61.toInt := (tnle c62)
            refine lv_iload hx hb dX7_deal_82 (lv_at hl 0 rfl) ?_
            refine lv_istore (lv' := [(7, .int 3), (8, .int 3), (6, .int y6), (5, .int x14), (4, .int x12), (0, .ref h), (1, .int i0), (2, .int i1), (3, .int i2)]) hx hb dX7_deal_84 hl (by decide) rfl (fun ls hl => ?_)
            refine lv_iinc (v := 4) (lv' := [(8, .int 4), (7, .int 3), (6, .int y6), (5, .int x14), (4, .int x12), (0, .ref h), (1, .int i0), (2, .int i1), (3, .int i2)]) hx hb dX7_deal_86 hl (k := 1) rfl (by decide) (by decide) rfl (fun ls hl => ?_)
            refine lv_goto (tgt := 59) hx hb dX7_deal_89 (by decide) ?_
            refine lv_iload hx hb dX7_deal_59 (lv_at hl 0 rfl) ?_
            refine lv_iconst (v := 4) hx hb dX7_deal_61 (by decide) ?_
            refine lv_icmp_ge (tgt := 92) hx hb dX7_deal_62 (by decide) (fun c67 => ?_) (fun c67 => absurd c67 (by decide))
            refine lv_aload_n hx hb dX7_deal_92 rfl (lv_at hl 5 rfl) ?_
            refine va_get (D := (dC, dI)) (ci := 7) (v := .ref dl) (C := RX7) (T := TX7) (N := 10) hx hb hts hin7 hown hK hP 0 rfl rfl 9 (by decide) hw0 (fun _ h9 => h9) rfl dX7_deal_93 ?_
            refine lv_iload hx hb dX7_deal_96 (lv_at hl 1 rfl) ?_
            refine lv_dup2_11 hx hb dX7_deal_98 rfl rfl ?_
            refine va_iald hx hb hK hP 1 0 rfl rfl (vin (by decide) (by decide)) dX7_deal_99 ?_
            refine lv_topi (fun x68 e68 => ?_)
            refine lv_iconst (v := 1) hx hb dX7_deal_100 (by decide) ?_
            refine lv_iadd hx hb dX7_deal_101 ?_
            refine lv_topi (fun x69 e69 => ?_)
            refine va_iast hx hb hK hP hD hS 1 0 rfl rfl (vin (by decide) (by decide)) dX7_deal_102 (fun H locs hP hD hS => ?_)
            replace hP : va_P (dC, dI) vwCl [(h, .inr (7, [.ref k, .ref d, .ref j, .ref o, .ref f, .ref g, .ref wk, .ref im, .ref kt, .ref dl])), (dl, .inl (cI, 4, .inl (upd yld 3 x69)))] H := hP
            replace hD : va_D A [(h, .inr (7, [.ref k, .ref d, .ref j, .ref o, .ref f, .ref g, .ref wk, .ref im, .ref kt, .ref dl])), (dl, .inl (cI, 4, .inl (upd yld 3 x69)))] := hD
            obtain ⟨x70, e70⟩ : ∃ y : Int32, y = y6 + Int32.ofInt 1 := ⟨_, rfl⟩
            refine lv_iinc (v := x70) (lv' := [(6, .int x70), (8, .int 4), (7, .int 3), (5, .int x14), (4, .int x12), (0, .ref h), (1, .int i0), (2, .int i1), (3, .int i2)]) hx hb dX7_deal_103 hl (k := 2) rfl e70.symm (by decide) rfl (fun ls hl => ?_)
            have f70 : x70.toInt = y6.toInt + 1 := by rw [e70]; exact tinc (by decide) (by have t8 := tb y6; omega) (by have t8 := tb y6; omega)
            refine lv_goto (tgt := 47) hx hb dX7_deal_106 (by decide) ?_
            exact ih (H := H) (locs := locs) (ls := ls) (y6 := x70) (yld := (upd yld 3 x69)) hS (by omega)  (show lv_has ls 9 [(6, .int x70), (5, .int x14), (4, .int x12), (0, .ref h), (1, .int i0), (2, .int i1), (3, .int i2)] from lv_sub hl [0, 3, 4, 5, 6, 7, 8] rfl) (mx_subP (wc := [(h, .inr (7, [.ref k, .ref d, .ref j, .ref o, .ref f, .ref g, .ref wk, .ref im, .ref kt, .ref dl])), (dl, .inl (cI, 4, .inl (upd yld 3 x69)))]) hP [0, 1] rfl) (hD.sub (ws' := [(h, .inr (7, [.ref k, .ref d, .ref j, .ref o, .ref f, .ref g, .ref wk, .ref im, .ref kt, .ref dl])), (dl, .inl (cI, 4, .inl (upd yld 3 x69)))]) [0, 1] (by decide) rfl) (by omega)
        · have t58 : x56.toInt < x57.toInt := (tnle c58)
          refine lv_iload hx hb dX7_deal_82 (lv_at hl 0 rfl) ?_
          refine lv_istore (lv' := [(7, .int 2), (8, .int 2), (6, .int y6), (5, .int x14), (4, .int x12), (0, .ref h), (1, .int i0), (2, .int i1), (3, .int i2)]) hx hb dX7_deal_84 hl (by decide) rfl (fun ls hl => ?_)
          refine lv_iinc (v := 3) (lv' := [(8, .int 3), (7, .int 2), (6, .int y6), (5, .int x14), (4, .int x12), (0, .ref h), (1, .int i0), (2, .int i1), (3, .int i2)]) hx hb dX7_deal_86 hl (k := 1) rfl (by decide) (by decide) rfl (fun ls hl => ?_)
          refine lv_goto (tgt := 59) hx hb dX7_deal_89 (by decide) ?_
          refine lv_iload hx hb dX7_deal_59 (lv_at hl 0 rfl) ?_
          refine lv_iconst (v := 4) hx hb dX7_deal_61 (by decide) ?_
          refine lv_icmp_ge (tgt := 92) hx hb dX7_deal_62 (by decide) (fun c71 => absurd c71 (by decide)) (fun c71 => ?_)
          refine lv_aload_n hx hb dX7_deal_65 rfl (lv_at hl 5 rfl) ?_
          refine va_get (D := (dC, dI)) (ci := 7) (v := .ref dl) (C := RX7) (T := TX7) (N := 10) hx hb hts hin7 hown hK hP 0 rfl rfl 9 (by decide) hw0 (fun _ h9 => h9) rfl dX7_deal_66 ?_
          refine lv_iload hx hb dX7_deal_69 (lv_at hl 0 rfl) ?_
          refine va_iald hx hb hK hP 1 0 rfl rfl (vin (by decide) (by decide)) dX7_deal_71 ?_
          refine lv_topi (fun x72 e72 => ?_)
          refine lv_aload_n hx hb dX7_deal_72 rfl (lv_at hl 5 rfl) ?_
          refine va_get (D := (dC, dI)) (ci := 7) (v := .ref dl) (C := RX7) (T := TX7) (N := 10) hx hb hts hin7 hown hK hP 0 rfl rfl 9 (by decide) hw0 (fun _ h9 => h9) rfl dX7_deal_73 ?_
          refine lv_iload hx hb dX7_deal_76 (lv_at hl 1 rfl) ?_
          refine va_iald hx hb hK hP 1 0 rfl rfl (vin (by decide) (by decide)) dX7_deal_78 ?_
          refine lv_topi (fun x73 e73 => ?_)
          refine lv_icmp_ge (tgt := 86) hx hb dX7_deal_79 (by decide) (fun c74 => ?_) (fun c74 => ?_)
          · have t74 : x73.toInt ≤ x72.toInt := (tle c74)
            refine lv_iinc (v := 4) (lv' := [(8, .int 4), (7, .int 2), (6, .int y6), (5, .int x14), (4, .int x12), (0, .ref h), (1, .int i0), (2, .int i1), (3, .int i2)]) hx hb dX7_deal_86 hl (k := 0) rfl (by decide) (by decide) rfl (fun ls hl => ?_)
            refine lv_goto (tgt := 59) hx hb dX7_deal_89 (by decide) ?_
            refine lv_iload hx hb dX7_deal_59 (lv_at hl 0 rfl) ?_
            refine lv_iconst (v := 4) hx hb dX7_deal_61 (by decide) ?_
            refine lv_icmp_ge (tgt := 92) hx hb dX7_deal_62 (by decide) (fun c75 => ?_) (fun c75 => absurd c75 (by decide))
            refine lv_aload_n hx hb dX7_deal_92 rfl (lv_at hl 5 rfl) ?_
            refine va_get (D := (dC, dI)) (ci := 7) (v := .ref dl) (C := RX7) (T := TX7) (N := 10) hx hb hts hin7 hown hK hP 0 rfl rfl 9 (by decide) hw0 (fun _ h9 => h9) rfl dX7_deal_93 ?_
            refine lv_iload hx hb dX7_deal_96 (lv_at hl 1 rfl) ?_
            refine lv_dup2_11 hx hb dX7_deal_98 rfl rfl ?_
            refine va_iald hx hb hK hP 1 0 rfl rfl (vin (by decide) (by decide)) dX7_deal_99 ?_
            refine lv_topi (fun x76 e76 => ?_)
            refine lv_iconst (v := 1) hx hb dX7_deal_100 (by decide) ?_
            refine lv_iadd hx hb dX7_deal_101 ?_
            refine lv_topi (fun x77 e77 => ?_)
            refine va_iast hx hb hK hP hD hS 1 0 rfl rfl (vin (by decide) (by decide)) dX7_deal_102 (fun H locs hP hD hS => ?_)
            replace hP : va_P (dC, dI) vwCl [(h, .inr (7, [.ref k, .ref d, .ref j, .ref o, .ref f, .ref g, .ref wk, .ref im, .ref kt, .ref dl])), (dl, .inl (cI, 4, .inl (upd yld 2 x77)))] H := hP
            replace hD : va_D A [(h, .inr (7, [.ref k, .ref d, .ref j, .ref o, .ref f, .ref g, .ref wk, .ref im, .ref kt, .ref dl])), (dl, .inl (cI, 4, .inl (upd yld 2 x77)))] := hD
            obtain ⟨x78, e78⟩ : ∃ y : Int32, y = y6 + Int32.ofInt 1 := ⟨_, rfl⟩
            refine lv_iinc (v := x78) (lv' := [(6, .int x78), (8, .int 4), (7, .int 2), (5, .int x14), (4, .int x12), (0, .ref h), (1, .int i0), (2, .int i1), (3, .int i2)]) hx hb dX7_deal_103 hl (k := 2) rfl e78.symm (by decide) rfl (fun ls hl => ?_)
            have f78 : x78.toInt = y6.toInt + 1 := by rw [e78]; exact tinc (by decide) (by have t8 := tb y6; omega) (by have t8 := tb y6; omega)
            refine lv_goto (tgt := 47) hx hb dX7_deal_106 (by decide) ?_
            exact ih (H := H) (locs := locs) (ls := ls) (y6 := x78) (yld := (upd yld 2 x77)) hS (by omega)  (show lv_has ls 9 [(6, .int x78), (5, .int x14), (4, .int x12), (0, .ref h), (1, .int i0), (2, .int i1), (3, .int i2)] from lv_sub hl [0, 3, 4, 5, 6, 7, 8] rfl) (mx_subP (wc := [(h, .inr (7, [.ref k, .ref d, .ref j, .ref o, .ref f, .ref g, .ref wk, .ref im, .ref kt, .ref dl])), (dl, .inl (cI, 4, .inl (upd yld 2 x77)))]) hP [0, 1] rfl) (hD.sub (ws' := [(h, .inr (7, [.ref k, .ref d, .ref j, .ref o, .ref f, .ref g, .ref wk, .ref im, .ref kt, .ref dl])), (dl, .inl (cI, 4, .inl (upd yld 2 x77)))]) [0, 1] (by decide) rfl) (by omega)
          · have t74 : x72.toInt < x73.toInt := (tnle c74)
            refine lv_iload hx hb dX7_deal_82 (lv_at hl 0 rfl) ?_
            refine lv_istore (lv' := [(7, .int 3), (8, .int 3), (6, .int y6), (5, .int x14), (4, .int x12), (0, .ref h), (1, .int i0), (2, .int i1), (3, .int i2)]) hx hb dX7_deal_84 hl (by decide) rfl (fun ls hl => ?_)
            refine lv_iinc (v := 4) (lv' := [(8, .int 4), (7, .int 3), (6, .int y6), (5, .int x14), (4, .int x12), (0, .ref h), (1, .int i0), (2, .int i1), (3, .int i2)]) hx hb dX7_deal_86 hl (k := 1) rfl (by decide) (by decide) rfl (fun ls hl => ?_)
            refine lv_goto (tgt := 59) hx hb dX7_deal_89 (by decide) ?_
            refine lv_iload hx hb dX7_deal_59 (lv_at hl 0 rfl) ?_
            refine lv_iconst (v := 4) hx hb dX7_deal_61 (by decide) ?_
            refine lv_icmp_ge (tgt := 92) hx hb dX7_deal_62 (by decide) (fun c79 => ?_) (fun c79 => absurd c79 (by decide))
            refine lv_aload_n hx hb dX7_deal_92 rfl (lv_at hl 5 rfl) ?_
            refine va_get (D := (dC, dI)) (ci := 7) (v := .ref dl) (C := RX7) (T := TX7) (N := 10) hx hb hts hin7 hown hK hP 0 rfl rfl 9 (by decide) hw0 (fun _ h9 => h9) rfl dX7_deal_93 ?_
            refine lv_iload hx hb dX7_deal_96 (lv_at hl 1 rfl) ?_
            refine lv_dup2_11 hx hb dX7_deal_98 rfl rfl ?_
            refine va_iald hx hb hK hP 1 0 rfl rfl (vin (by decide) (by decide)) dX7_deal_99 ?_
            refine lv_topi (fun x80 e80 => ?_)
            refine lv_iconst (v := 1) hx hb dX7_deal_100 (by decide) ?_
            refine lv_iadd hx hb dX7_deal_101 ?_
            refine lv_topi (fun x81 e81 => ?_)
            refine va_iast hx hb hK hP hD hS 1 0 rfl rfl (vin (by decide) (by decide)) dX7_deal_102 (fun H locs hP hD hS => ?_)
            replace hP : va_P (dC, dI) vwCl [(h, .inr (7, [.ref k, .ref d, .ref j, .ref o, .ref f, .ref g, .ref wk, .ref im, .ref kt, .ref dl])), (dl, .inl (cI, 4, .inl (upd yld 3 x81)))] H := hP
            replace hD : va_D A [(h, .inr (7, [.ref k, .ref d, .ref j, .ref o, .ref f, .ref g, .ref wk, .ref im, .ref kt, .ref dl])), (dl, .inl (cI, 4, .inl (upd yld 3 x81)))] := hD
            obtain ⟨x82, e82⟩ : ∃ y : Int32, y = y6 + Int32.ofInt 1 := ⟨_, rfl⟩
            refine lv_iinc (v := x82) (lv' := [(6, .int x82), (8, .int 4), (7, .int 3), (5, .int x14), (4, .int x12), (0, .ref h), (1, .int i0), (2, .int i1), (3, .int i2)]) hx hb dX7_deal_103 hl (k := 2) rfl e82.symm (by decide) rfl (fun ls hl => ?_)
            have f82 : x82.toInt = y6.toInt + 1 := by rw [e82]; exact tinc (by decide) (by have t8 := tb y6; omega) (by have t8 := tb y6; omega)
            refine lv_goto (tgt := 47) hx hb dX7_deal_106 (by decide) ?_
            exact ih (H := H) (locs := locs) (ls := ls) (y6 := x82) (yld := (upd yld 3 x81)) hS (by omega)  (show lv_has ls 9 [(6, .int x82), (5, .int x14), (4, .int x12), (0, .ref h), (1, .int i0), (2, .int i1), (3, .int i2)] from lv_sub hl [0, 3, 4, 5, 6, 7, 8] rfl) (mx_subP (wc := [(h, .inr (7, [.ref k, .ref d, .ref j, .ref o, .ref f, .ref g, .ref wk, .ref im, .ref kt, .ref dl])), (dl, .inl (cI, 4, .inl (upd yld 3 x81)))]) hP [0, 1] rfl) (hD.sub (ws' := [(h, .inr (7, [.ref k, .ref d, .ref j, .ref o, .ref f, .ref g, .ref wk, .ref im, .ref kt, .ref dl])), (dl, .inl (cI, 4, .inl (upd yld 3 x81)))]) [0, 1] (by decide) rfl) (by omega)
