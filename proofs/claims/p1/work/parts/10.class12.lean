set_option maxHeartbeats 4000000 in
set_option maxRecDepth 100000 in
theorem c_X7_gustRefusalNo (l : Launch) (dC : Nat → ClassId) (dI : Nat → Nat → Nat) (cI cZ cK : ClassId) (tS aK aV : Nat) (h : Nat) (o : Nat) (f : Nat) (g : Nat) (wk : Nat) (im : Nat) (kt : Nat) (dl : Nat) (j : Nat) (k : Nat) (d : Nat) (i0 : Int32) (i1 : Int32) (i2 : Int32) (sz : Nat) (hi0 : i0.toInt < 0 ∨ 10 < i0.toInt ∨ i1.toInt < 0 ∨ 1 < i1.toInt ∨ i2.toInt < 0 ∨ 1 < i2.toInt) : Ci l yX7_gustRefusal (wq yX7_gustRefusal cX7_gustRefusal 5 (some .int)) ({ frames := 1, cells := 0, slots := 0, locals := 22 }) dC dI cI cZ cK tS aK aV [.ref h, .int i0, .int i1, .int i2] sz [(h, .inr (7, [.ref k, .ref d, .ref j, .ref o, .ref f, .ref g, .ref wk, .ref im, .ref kt, .ref dl]))] (fun (r : Int32) (_ : Unit) => r = (-2)) (fun _ => [(h, .inr (7, [.ref k, .ref d, .ref j, .ref o, .ref f, .ref g, .ref wk, .ref im, .ref kt, .ref dl]))]) := by
  refine Met.ofW (cc := cX7_gustRefusal) (maxL := 5) (ret := (some .int)) (by decide) rfl ?_
  intro p e s m args below meth c s₁ B hml hv
  obtain ⟨rfl, hsz, hP, hKx, hD0⟩ := hv
  have hx := B.exec
  have hb := B.bytes
  have hr := B.returns
  have hts := atoms_spec (ws := wq yX7_gustRefusal cX7_gustRefusal 5 (some .int)) B.pre
  have hown : s.vm.findClass RX7 = some m.cls := findClass_of_methodNamed B.named
  have hlocks := B.notSynchronized
  subst hsz
  have hD := hD0.self (sz := s.heap.size)
  generalize hAe : va_A [(h, .inr (7, [.ref k, .ref d, .ref j, .ref o, .ref f, .ref g, .ref wk, .ref im, .ref kt, .ref dl]))] s.heap.size = A at hD hKx ⊢
  have hA : ∀ q : Nat, s.heap.size ≤ q → A q := fun q h => by rw [← hAe]; exact Or.inr h
  have hS : va_S A s.heap s.heap [] := va_S.rf
  have hP : va_P (dC, dI) vwCl [(h, .inr (7, [.ref k, .ref d, .ref j, .ref o, .ref f, .ref g, .ref wk, .ref im, .ref kt, .ref dl]))] s.heap := hP
  have hl := lv_entry ([.ref h, .int i0, .int i1, .int i2]) (n := 5) (Nat.le_of_ble_eq_true rfl)
  rw [lg_entry_eq]
  generalize (lg_sl ([.ref h, .int i0, .int i1, .int i2]) ++ List.replicate (5 - (lg_sl ([.ref h, .int i0, .int i1, .int i2])).length) Slot.unset).toArray = ls at hl ⊢
  have hl : lv_has ls 5 [(0, .ref h), (1, .int i0), (2, .int i1), (3, .int i2)] := hl
  have hK := hKx.1
  refine lv_iload_n hx hb dX7_gustRefusal_0 rfl (lv_at hl 1 rfl) ?_
  refine lv_iconst (v := 0) hx hb dX7_gustRefusal_1 (by decide) ?_
  refine lv_bipush (v := 10) hx hb dX7_gustRefusal_2 (by decide) ?_
  refine mx_i (wr := [(h, .inr (7, [.ref k, .ref d, .ref j, .ref o, .ref f, .ref g, .ref wk, .ref im, .ref kt, .ref dl]))]) (va_runS (As := [.int i0, .int 0, .int 10]) (rest := []) ⟨hx, hb, hml, hown, hts⟩ (c_X7_isIn l dC dI cI cZ cK tS aK aV i0 0 10 s.heap.size) (va_cwS 3 hts (gw_s (fun _ h9 => List.mem_cons_of_mem _ h9) wm_0 wm_1 wm_2 wm_3) rfl rfl rfl (by decide +kernel) ⟨Nat.le_of_ble_eq_true rfl, Nat.le_of_ble_eq_true rfl⟩) (mx_preS hKx hP hD hS hA [] (by decide) rfl) rfl rfl hl.1 rfl (lv_room (Nat.le_of_ble_eq_true rfl)) dX7_gustRefusal_4 ⟨Nat.le_of_ble_eq_true rfl, Nat.le_of_ble_eq_true rfl⟩) hP hD hS hA [] [0] rfl rfl (by decide) (by decide) (fun r1 u1 H locs hq1 hP hD hS => ?_)
  replace hP : va_P (dC, dI) vwCl [(h, .inr (7, [.ref k, .ref d, .ref j, .ref o, .ref f, .ref g, .ref wk, .ref im, .ref kt, .ref dl]))] H := hP
  replace hD : va_D A [(h, .inr (7, [.ref k, .ref d, .ref j, .ref o, .ref f, .ref g, .ref wk, .ref im, .ref kt, .ref dl]))] := hD
  rcases hq1 with ⟨rfl, hf1⟩ | ⟨rfl, hf1⟩
  · have hf1 : (0 : Int) ≤ i0.toInt ∧ i0.toInt ≤ (10 : Int) := hf1
    refine lv_if_eq (tgt := 28) hx hb dX7_gustRefusal_7 (by decide) (fun c2 => absurd c2 (by decide)) (fun c2 => ?_)
    refine lv_iload_n hx hb dX7_gustRefusal_10 rfl (lv_at hl 2 rfl) ?_
    refine lv_iconst (v := 0) hx hb dX7_gustRefusal_11 (by decide) ?_
    refine lv_iconst (v := 1) hx hb dX7_gustRefusal_12 (by decide) ?_
    refine mx_i (wr := [(h, .inr (7, [.ref k, .ref d, .ref j, .ref o, .ref f, .ref g, .ref wk, .ref im, .ref kt, .ref dl]))]) (va_runS (As := [.int i1, .int 0, .int 1]) (rest := []) ⟨hx, hb, hml, hown, hts⟩ (c_X7_isIn l dC dI cI cZ cK tS aK aV i1 0 1 H.size) (va_cwS 3 hts (gw_s (fun _ h9 => List.mem_cons_of_mem _ h9) wm_0 wm_1 wm_2 wm_3) rfl rfl rfl (by decide +kernel) ⟨Nat.le_of_ble_eq_true rfl, Nat.le_of_ble_eq_true rfl⟩) (mx_preS hKx hP hD hS hA [] (by decide) rfl) rfl rfl hl.1 rfl (lv_room (Nat.le_of_ble_eq_true rfl)) dX7_gustRefusal_13 ⟨Nat.le_of_ble_eq_true rfl, Nat.le_of_ble_eq_true rfl⟩) hP hD hS hA [] [0] rfl rfl (by decide) (by decide) (fun r3 u3 H locs hq3 hP hD hS => ?_)
    replace hP : va_P (dC, dI) vwCl [(h, .inr (7, [.ref k, .ref d, .ref j, .ref o, .ref f, .ref g, .ref wk, .ref im, .ref kt, .ref dl]))] H := hP
    replace hD : va_D A [(h, .inr (7, [.ref k, .ref d, .ref j, .ref o, .ref f, .ref g, .ref wk, .ref im, .ref kt, .ref dl]))] := hD
    rcases hq3 with ⟨rfl, hf3⟩ | ⟨rfl, hf3⟩
    · have hf3 : (0 : Int) ≤ i1.toInt ∧ i1.toInt ≤ (1 : Int) := hf3
      refine lv_if_eq (tgt := 28) hx hb dX7_gustRefusal_16 (by decide) (fun c4 => absurd c4 (by decide)) (fun c4 => ?_)
      refine lv_iload_n hx hb dX7_gustRefusal_19 rfl (lv_at hl 3 rfl) ?_
      refine lv_iconst (v := 0) hx hb dX7_gustRefusal_20 (by decide) ?_
      refine lv_iconst (v := 1) hx hb dX7_gustRefusal_21 (by decide) ?_
      refine mx_i (wr := [(h, .inr (7, [.ref k, .ref d, .ref j, .ref o, .ref f, .ref g, .ref wk, .ref im, .ref kt, .ref dl]))]) (va_runS (As := [.int i2, .int 0, .int 1]) (rest := []) ⟨hx, hb, hml, hown, hts⟩ (c_X7_isIn l dC dI cI cZ cK tS aK aV i2 0 1 H.size) (va_cwS 3 hts (gw_s (fun _ h9 => List.mem_cons_of_mem _ h9) wm_0 wm_1 wm_2 wm_3) rfl rfl rfl (by decide +kernel) ⟨Nat.le_of_ble_eq_true rfl, Nat.le_of_ble_eq_true rfl⟩) (mx_preS hKx hP hD hS hA [] (by decide) rfl) rfl rfl hl.1 rfl (lv_room (Nat.le_of_ble_eq_true rfl)) dX7_gustRefusal_22 ⟨Nat.le_of_ble_eq_true rfl, Nat.le_of_ble_eq_true rfl⟩) hP hD hS hA [] [0] rfl rfl (by decide) (by decide) (fun r5 u5 H locs hq5 hP hD hS => ?_)
      replace hP : va_P (dC, dI) vwCl [(h, .inr (7, [.ref k, .ref d, .ref j, .ref o, .ref f, .ref g, .ref wk, .ref im, .ref kt, .ref dl]))] H := hP
      replace hD : va_D A [(h, .inr (7, [.ref k, .ref d, .ref j, .ref o, .ref f, .ref g, .ref wk, .ref im, .ref kt, .ref dl]))] := hD
      rcases hq5 with ⟨rfl, hf5⟩ | ⟨rfl, hf5⟩
      · have hf5 : (0 : Int) ≤ i2.toInt ∧ i2.toInt ≤ (1 : Int) := hf5
        refine lv_if_ne (tgt := 31) hx hb dX7_gustRefusal_25 (by decide) (fun c6 => ?_) (fun c6 => absurd c6 (by decide))
        exfalso; omega
      · have hf5 : i2.toInt < (0 : Int) ∨ (1 : Int) < i2.toInt := hf5
        refine lv_if_ne (tgt := 31) hx hb dX7_gustRefusal_25 (by decide) (fun c7 => absurd c7 (by decide)) (fun c7 => ?_)
        refine lv_bipush (v := (-2)) hx hb dX7_gustRefusal_28 (by decide) ?_
        have hP9 := mx_subP (wc := [(h, .inr (7, [.ref k, .ref d, .ref j, .ref o, .ref f, .ref g, .ref wk, .ref im, .ref kt, .ref dl]))]) hP [0] rfl
        have hD9 := hD.sub (ws' := [(h, .inr (7, [.ref k, .ref d, .ref j, .ref o, .ref f, .ref g, .ref wk, .ref im, .ref kt, .ref dl]))]) [0] (by decide) rfl
        exact W.iret (v := (-2)) hx hb hr (fun t ht hW => ⟨⟨(-2), (), rfl, rfl, by rw [ht]; exact hP9, hD9⟩, hS.F ht⟩) hS.2.2 dX7_gustRefusal_30
    · have hf3 : i1.toInt < (0 : Int) ∨ (1 : Int) < i1.toInt := hf3
      refine lv_if_eq (tgt := 28) hx hb dX7_gustRefusal_16 (by decide) (fun c8 => ?_) (fun c8 => absurd c8 (by decide))
      refine lv_bipush (v := (-2)) hx hb dX7_gustRefusal_28 (by decide) ?_
      have hP9 := mx_subP (wc := [(h, .inr (7, [.ref k, .ref d, .ref j, .ref o, .ref f, .ref g, .ref wk, .ref im, .ref kt, .ref dl]))]) hP [0] rfl
      have hD9 := hD.sub (ws' := [(h, .inr (7, [.ref k, .ref d, .ref j, .ref o, .ref f, .ref g, .ref wk, .ref im, .ref kt, .ref dl]))]) [0] (by decide) rfl
      exact W.iret (v := (-2)) hx hb hr (fun t ht hW => ⟨⟨(-2), (), rfl, rfl, by rw [ht]; exact hP9, hD9⟩, hS.F ht⟩) hS.2.2 dX7_gustRefusal_30
  · have hf1 : i0.toInt < (0 : Int) ∨ (10 : Int) < i0.toInt := hf1
    refine lv_if_eq (tgt := 28) hx hb dX7_gustRefusal_7 (by decide) (fun c9 => ?_) (fun c9 => absurd c9 (by decide))
    refine lv_bipush (v := (-2)) hx hb dX7_gustRefusal_28 (by decide) ?_
    have hP9 := mx_subP (wc := [(h, .inr (7, [.ref k, .ref d, .ref j, .ref o, .ref f, .ref g, .ref wk, .ref im, .ref kt, .ref dl]))]) hP [0] rfl
    have hD9 := hD.sub (ws' := [(h, .inr (7, [.ref k, .ref d, .ref j, .ref o, .ref f, .ref g, .ref wk, .ref im, .ref kt, .ref dl]))]) [0] (by decide) rfl
    exact W.iret (v := (-2)) hx hb hr (fun t ht hW => ⟨⟨(-2), (), rfl, rfl, by rw [ht]; exact hP9, hD9⟩, hS.F ht⟩) hS.2.2 dX7_gustRefusal_30
set_option maxHeartbeats 4000000 in
set_option maxRecDepth 100000 in
theorem c_X7_gust_0_0 (l : Launch) (dC : Nat → ClassId) (dI : Nat → Nat → Nat) (cI cZ cK : ClassId) (tS aK aV : Nat) (h : Nat) (o : Nat) (f : Nat) (g : Nat) (wk : Nat) (im : Nat) (kt : Nat) (dl : Nat) (j : Nat) (jd : Nat) (jb : Nat) (jw : Nat) (jl : Nat) (k : Nat) (ks : Nat) (kw : Nat) (kc : Nat) (kq : Nat) (km : Nat) (kd : Nat) (ka : Nat) (kk : Nat) (d : Nat) (ds : Nat) (dk : Nat) (dw : Nat) (gg : Nat) (i0 : Int32) (sz : Nat) (hi0 : 0 ≤ i0.toInt ∧ i0.toInt ≤ 10) : Cl l yX7_gust (wq yX7_gust cX7_gust 5 (some .long)) ({ frames := 5, cells := 0, slots := 0, locals := 109 }) dC dI cI cZ cK tS aK aV [.ref h, .int i0, .int 0, .int 0] sz [(h, .inr (7, [.ref k, .ref d, .ref j, .ref o, .ref f, .ref g, .ref wk, .ref im, .ref kt, .ref dl])), (d, .inr (4, [.ref ds, .int 0, .ref dk, .ref dw, .int 0, .int 0])), (j, .inr (1, [.ref k, .ref d, .ref jd, .ref jb, .ref jw, .ref jl, .int 0, .int 0, .int 0, .int 0, .int 0, .int 0, .int 0, .int 0])), (jl, .inl (cI, 61, .inl (fun _ => 0))), (k, .inr (0, [.ref ks, .ref kw, .ref kc, .int (-6), .int 0, .int 0, .ref kq, .ref km, .ref kd, .int 0, .ref ka, .ref kk])), (ks, .inl (cI, 5, .inl (upd (fun _ => 0) 0 800))), (g, .inr (2, [.ref k, .ref d, .ref j, .ref gg, .long 0, .long 0]))] (fun (r : Int64) (_ : Unit) => r = 1) (fun _ => []) := by
  refine Met.ofW (cc := cX7_gust) (maxL := 5) (ret := (some .long)) (by decide) rfl ?_
  intro p e s m args below meth c s₁ B hml hv
  obtain ⟨rfl, hsz, hP, hKx, hD0⟩ := hv
  have hx := B.exec
  have hb := B.bytes
  have hr := B.returns
  have hts := atoms_spec (ws := wq yX7_gust cX7_gust 5 (some .long)) B.pre
  have hown : s.vm.findClass RX7 = some m.cls := findClass_of_methodNamed B.named
  have hlocks := B.notSynchronized
  subst hsz
  have hD := hD0.self (sz := s.heap.size)
  generalize hAe : va_A [(h, .inr (7, [.ref k, .ref d, .ref j, .ref o, .ref f, .ref g, .ref wk, .ref im, .ref kt, .ref dl])), (d, .inr (4, [.ref ds, .int 0, .ref dk, .ref dw, .int 0, .int 0])), (j, .inr (1, [.ref k, .ref d, .ref jd, .ref jb, .ref jw, .ref jl, .int 0, .int 0, .int 0, .int 0, .int 0, .int 0, .int 0, .int 0])), (jl, .inl (cI, 61, .inl (fun _ => 0))), (k, .inr (0, [.ref ks, .ref kw, .ref kc, .int (-6), .int 0, .int 0, .ref kq, .ref km, .ref kd, .int 0, .ref ka, .ref kk])), (ks, .inl (cI, 5, .inl (upd (fun _ => 0) 0 800))), (g, .inr (2, [.ref k, .ref d, .ref j, .ref gg, .long 0, .long 0]))] s.heap.size = A at hD hKx ⊢
  have hA : ∀ q : Nat, s.heap.size ≤ q → A q := fun q h => by rw [← hAe]; exact Or.inr h
  have hS : va_S A s.heap s.heap [] := va_S.rf
  have hP : va_P (dC, dI) vwCl [(h, .inr (7, [.ref k, .ref d, .ref j, .ref o, .ref f, .ref g, .ref wk, .ref im, .ref kt, .ref dl])), (d, .inr (4, [.ref ds, .int 0, .ref dk, .ref dw, .int 0, .int 0])), (j, .inr (1, [.ref k, .ref d, .ref jd, .ref jb, .ref jw, .ref jl, .int 0, .int 0, .int 0, .int 0, .int 0, .int 0, .int 0, .int 0])), (jl, .inl (cI, 61, .inl (fun _ => 0))), (k, .inr (0, [.ref ks, .ref kw, .ref kc, .int (-6), .int 0, .int 0, .ref kq, .ref km, .ref kd, .int 0, .ref ka, .ref kk])), (ks, .inl (cI, 5, .inl (upd (fun _ => 0) 0 800))), (g, .inr (2, [.ref k, .ref d, .ref j, .ref gg, .long 0, .long 0]))] s.heap := hP
  have hl := lv_entry ([.ref h, .int i0, .int 0, .int 0]) (n := 5) (Nat.le_of_ble_eq_true rfl)
  rw [lg_entry_eq]
  generalize (lg_sl ([.ref h, .int i0, .int 0, .int 0]) ++ List.replicate (5 - (lg_sl ([.ref h, .int i0, .int 0, .int 0])).length) Slot.unset).toArray = ls at hl ⊢
  have hl : lv_has ls 5 [(0, .ref h), (1, .int i0), (2, .int 0), (3, .int 0)] := hl
  have hK := hKx.1
  have hin7 := fun w9 h9 => List.mem_cons_of_mem (Cond.code yX7_gust cX7_gust 5 (some .long)) (inlX7 w9 h9)
  have hin2 := fun w9 h9 => List.mem_cons_of_mem (Cond.code yX7_gust cX7_gust 5 (some .long)) (inlX2 w9 h9)
  have hw0 := hts (.fieldLink RX7 53 "OneCan" "gusts" "LOneCan$Gusts;") (List.mem_cons_of_mem _ wm_286)
  have hw1 := hts (.fieldLink RX7 249 "OneCan$Gusts" "upper" "J") (List.mem_cons_of_mem _ wm_296)
  refine lv_aload_n hx hb dX7_gust_0 rfl (lv_at hl 0 rfl) ?_
  refine lv_iload_n hx hb dX7_gust_1 rfl (lv_at hl 1 rfl) ?_
  refine lv_iload_n hx hb dX7_gust_2 rfl (lv_at hl 2 rfl) ?_
  refine lv_iload_n hx hb dX7_gust_3 rfl (lv_at hl 3 rfl) ?_
  refine mx_i (wr := []) (va_runV (As := [.int i0, .int 0, .int 0]) (rest := []) ⟨hx, hb, hml, hown, hts⟩ (c_X7_gustRefusalOk l dC dI cI cZ cK tS aK aV h o f g wk im kt dl j jd jb jw jl k ks kw kc kq km kd ka kk d ds dk dw gg i0 0 0 s.heap.size (by have z8 : (0 : Int32).toInt = 0 := rfl; first | omega | decide | assumption | trivial)) (cwV 3 hts (gw_v (fun _ h9 => List.mem_cons_of_mem _ h9) wm_288 wm_289 wm_290 wm_2 wm_291) rfl rfl rfl (by decide +kernel) ⟨Nat.le_of_ble_eq_true rfl, Nat.le_of_ble_eq_true rfl⟩) (mx_preV (C := RX7) (T := TX7) (N := 10) (ci := 7) hKx hP hD hS hA [0, 1, 2, 3, 4, 5, 6] (by decide) rfl rfl rfl) rfl rfl hl.1 rfl (lv_room (Nat.le_of_ble_eq_true rfl)) dX7_gust_4 ⟨Nat.le_of_ble_eq_true rfl, Nat.le_of_ble_eq_true rfl⟩) hP hD hS hA [0, 1, 2, 3, 4, 5, 6] [] rfl rfl (by decide) (by decide) (fun r1 u1 H locs hq1 hP hD hS => ?_)
  replace hP : va_P (dC, dI) vwCl [(h, .inr (7, [.ref k, .ref d, .ref j, .ref o, .ref f, .ref g, .ref wk, .ref im, .ref kt, .ref dl])), (d, .inr (4, [.ref ds, .int 0, .ref dk, .ref dw, .int 0, .int (-6)])), (j, .inr (1, [.ref k, .ref d, .ref jd, .ref jb, .ref jw, .ref jl, .int (-6), .int (-6), .int 800, .int 0, .int (-6), .int 0, .int 0, .int 0])), (jl, .inl (cI, 61, .inl (upd (fun _ => 0) 0 800))), (k, .inr (0, [.ref ks, .ref kw, .ref kc, .int (-6), .int 0, .int 0, .ref kq, .ref km, .ref kd, .int 0, .ref ka, .ref kk])), (ks, .inl (cI, 5, .inl (upd (fun _ => 0) 0 800))), (g, .inr (2, [.ref k, .ref d, .ref j, .ref gg, .long 0, .long 0]))] H := hP
  replace hD : va_D A [(h, .inr (7, [.ref k, .ref d, .ref j, .ref o, .ref f, .ref g, .ref wk, .ref im, .ref kt, .ref dl])), (d, .inr (4, [.ref ds, .int 0, .ref dk, .ref dw, .int 0, .int (-6)])), (j, .inr (1, [.ref k, .ref d, .ref jd, .ref jb, .ref jw, .ref jl, .int (-6), .int (-6), .int 800, .int 0, .int (-6), .int 0, .int 0, .int 0])), (jl, .inl (cI, 61, .inl (upd (fun _ => 0) 0 800))), (k, .inr (0, [.ref ks, .ref kw, .ref kc, .int (-6), .int 0, .int 0, .ref kq, .ref km, .ref kd, .int 0, .ref ka, .ref kk])), (ks, .inl (cI, 5, .inl (upd (fun _ => 0) 0 800))), (g, .inr (2, [.ref k, .ref d, .ref j, .ref gg, .long 0, .long 0]))] := hD
  obtain rfl : r1 = 0 := hq1
  refine lv_istore (lv' := [(4, .int 0), (0, .ref h), (1, .int i0), (2, .int 0), (3, .int 0)]) hx hb dX7_gust_7 hl (by decide) rfl (fun ls hl => ?_)
  refine lv_iload hx hb dX7_gust_9 (lv_at hl 0 rfl) ?_
  refine lv_if_eq (tgt := 22) hx hb dX7_gust_11 (by decide) (fun c2 => ?_) (fun c2 => absurd c2 (by decide))
  refine lv_iload_n hx hb dX7_gust_22 rfl (lv_at hl 3 rfl) ?_
  refine lv_if_ne (tgt := 37) hx hb dX7_gust_23 (by decide) (fun c3 => absurd c3 (by decide)) (fun c3 => ?_)
  refine lv_aload_n hx hb dX7_gust_26 rfl (lv_at hl 1 rfl) ?_
  refine va_get (D := (dC, dI)) (ci := 7) (v := .ref g) (C := RX7) (T := TX7) (N := 10) hx hb hts hin7 hown hK hP 0 rfl rfl 5 (by decide) hw0 (fun _ h9 => h9) rfl dX7_gust_27 ?_
  refine lv_iload_n hx hb dX7_gust_30 rfl (lv_at hl 2 rfl) ?_
  refine mx_v (wr := [(h, .inr (7, [.ref k, .ref d, .ref j, .ref o, .ref f, .ref g, .ref wk, .ref im, .ref kt, .ref dl])), (jl, .inl (cI, 61, .inl (upd (fun _ => 0) 0 800)))]) (va_runV (As := [.int i0]) (rest := []) ⟨hx, hb, hml, hown, hts⟩ (c_X2_findChance l dC dI cI cZ cK tS aK aV g j jd jb jw jl k ks kw kc kq km kd ka kk d ds dk dw gg i0 H.size (by first | omega | decide | assumption | trivial)) (cwV 1 hts (gw_v (fun _ h9 => List.mem_cons_of_mem _ h9) wm_292 wm_293 wm_294 wm_262 wm_295) rfl rfl rfl (by decide +kernel) ⟨Nat.le_of_ble_eq_true rfl, Nat.le_of_ble_eq_true rfl⟩) (mx_preV (C := RX2) (T := TX2) (N := 6) (ci := 2) hKx hP hD hS hA [6, 2, 1, 4, 5] (by decide) rfl rfl rfl) rfl rfl hl.1 rfl (lv_room (Nat.le_of_ble_eq_true rfl)) dX7_gust_31 ⟨Nat.le_of_ble_eq_true rfl, Nat.le_of_ble_eq_true rfl⟩) hP hD hS hA [6, 2, 1, 4, 5] [0, 3] rfl rfl (by decide) (by decide) (fun u4 H locs hq4 hP hD hS => ?_)
  replace hP : va_P (dC, dI) vwCl [(h, .inr (7, [.ref k, .ref d, .ref j, .ref o, .ref f, .ref g, .ref wk, .ref im, .ref kt, .ref dl])), (jl, .inl (cI, 61, .inl (upd (fun _ => 0) 0 800))), (g, .inr (2, [.ref k, .ref d, .ref j, .ref gg, .long 1, .long 1])), (j, .inr (1, [.ref k, .ref d, .ref jd, .ref jb, .ref jw, .ref jl, .int (-6), .int (-6), .int 800, .int 0, .int (-6), .int 0, .int 0, .int 0])), (d, .inr (4, [.ref ds, .int 0, .ref dk, .ref dw, .int 0, .int (-6)])), (k, .inr (0, [.ref ks, .ref kw, .ref kc, .int (-6), .int 0, .int 0, .ref kq, .ref km, .ref kd, .int 0, .ref ka, .ref kk])), (ks, .inl (cI, 5, .inl (upd (fun _ => 0) 0 800)))] H := hP
  replace hD : va_D A [(h, .inr (7, [.ref k, .ref d, .ref j, .ref o, .ref f, .ref g, .ref wk, .ref im, .ref kt, .ref dl])), (jl, .inl (cI, 61, .inl (upd (fun _ => 0) 0 800))), (g, .inr (2, [.ref k, .ref d, .ref j, .ref gg, .long 1, .long 1])), (j, .inr (1, [.ref k, .ref d, .ref jd, .ref jb, .ref jw, .ref jl, .int (-6), .int (-6), .int 800, .int 0, .int (-6), .int 0, .int 0, .int 0])), (d, .inr (4, [.ref ds, .int 0, .ref dk, .ref dw, .int 0, .int (-6)])), (k, .inr (0, [.ref ks, .ref kw, .ref kc, .int (-6), .int 0, .int 0, .ref kq, .ref km, .ref kd, .int 0, .ref ka, .ref kk])), (ks, .inl (cI, 5, .inl (upd (fun _ => 0) 0 800)))] := hD
  refine lv_goto (tgt := 45) hx hb dX7_gust_34 (by decide) ?_
  refine lv_iload_n hx hb dX7_gust_45 rfl (lv_at hl 4 rfl) ?_
  refine lv_if_ne (tgt := 59) hx hb dX7_gust_46 (by decide) (fun c5 => absurd c5 (by decide)) (fun c5 => ?_)
  refine lv_aload_n hx hb dX7_gust_49 rfl (lv_at hl 1 rfl) ?_
  refine va_get (D := (dC, dI)) (ci := 7) (v := .ref g) (C := RX7) (T := TX7) (N := 10) hx hb hts hin7 hown hK hP 0 rfl rfl 5 (by decide) hw0 (fun _ h9 => h9) rfl dX7_gust_50 ?_
  refine va_get (D := (dC, dI)) (ci := 2) (v := .long 1) (C := RX2) (T := TX2) (N := 6) hx hb hts hin2 hown hK hP 2 rfl rfl 4 (by decide) hw1 (fun _ h9 => h9) rfl dX7_gust_53 ?_
  refine lv_goto (tgt := 66) hx hb dX7_gust_56 (by decide) ?_
  have hP9 := mx_subP (wc := []) hP [] rfl
  have hD9 := hD.sub (ws' := []) [] (by decide) rfl
  exact W.lret (v := 1) hx hb hr (fun t ht hW => ⟨⟨1, (), rfl, rfl, by rw [ht]; exact hP9, hD9⟩, hS.F ht⟩) hS.2.2 dX7_gust_66
set_option maxHeartbeats 4000000 in
set_option maxRecDepth 100000 in
theorem c_X7_gust_0_1 (l : Launch) (dC : Nat → ClassId) (dI : Nat → Nat → Nat) (cI cZ cK : ClassId) (tS aK aV : Nat) (h : Nat) (o : Nat) (f : Nat) (g : Nat) (wk : Nat) (im : Nat) (kt : Nat) (dl : Nat) (j : Nat) (jd : Nat) (jb : Nat) (jw : Nat) (jl : Nat) (k : Nat) (ks : Nat) (kw : Nat) (kc : Nat) (kq : Nat) (km : Nat) (kd : Nat) (ka : Nat) (kk : Nat) (d : Nat) (ds : Nat) (dk : Nat) (dw : Nat) (gg : Nat) (i0 : Int32) (sz : Nat) (hi0 : 0 ≤ i0.toInt ∧ i0.toInt ≤ 10) : Cl l yX7_gust (wq yX7_gust cX7_gust 5 (some .long)) ({ frames := 5, cells := 0, slots := 0, locals := 109 }) dC dI cI cZ cK tS aK aV [.ref h, .int i0, .int 0, .int 1] sz [(h, .inr (7, [.ref k, .ref d, .ref j, .ref o, .ref f, .ref g, .ref wk, .ref im, .ref kt, .ref dl])), (d, .inr (4, [.ref ds, .int 0, .ref dk, .ref dw, .int 0, .int 0])), (j, .inr (1, [.ref k, .ref d, .ref jd, .ref jb, .ref jw, .ref jl, .int 0, .int 0, .int 0, .int 0, .int 0, .int 0, .int 0, .int 0])), (jl, .inl (cI, 61, .inl (fun _ => 0))), (k, .inr (0, [.ref ks, .ref kw, .ref kc, .int (-6), .int 0, .int 0, .ref kq, .ref km, .ref kd, .int 0, .ref ka, .ref kk])), (ks, .inl (cI, 5, .inl (upd (fun _ => 0) 0 800))), (g, .inr (2, [.ref k, .ref d, .ref j, .ref gg, .long 0, .long 0]))] (fun (r : Int64) (_ : Unit) => r = 1) (fun _ => []) := by
  refine Met.ofW (cc := cX7_gust) (maxL := 5) (ret := (some .long)) (by decide) rfl ?_
  intro p e s m args below meth c s₁ B hml hv
  obtain ⟨rfl, hsz, hP, hKx, hD0⟩ := hv
  have hx := B.exec
  have hb := B.bytes
  have hr := B.returns
  have hts := atoms_spec (ws := wq yX7_gust cX7_gust 5 (some .long)) B.pre
  have hown : s.vm.findClass RX7 = some m.cls := findClass_of_methodNamed B.named
  have hlocks := B.notSynchronized
  subst hsz
  have hD := hD0.self (sz := s.heap.size)
  generalize hAe : va_A [(h, .inr (7, [.ref k, .ref d, .ref j, .ref o, .ref f, .ref g, .ref wk, .ref im, .ref kt, .ref dl])), (d, .inr (4, [.ref ds, .int 0, .ref dk, .ref dw, .int 0, .int 0])), (j, .inr (1, [.ref k, .ref d, .ref jd, .ref jb, .ref jw, .ref jl, .int 0, .int 0, .int 0, .int 0, .int 0, .int 0, .int 0, .int 0])), (jl, .inl (cI, 61, .inl (fun _ => 0))), (k, .inr (0, [.ref ks, .ref kw, .ref kc, .int (-6), .int 0, .int 0, .ref kq, .ref km, .ref kd, .int 0, .ref ka, .ref kk])), (ks, .inl (cI, 5, .inl (upd (fun _ => 0) 0 800))), (g, .inr (2, [.ref k, .ref d, .ref j, .ref gg, .long 0, .long 0]))] s.heap.size = A at hD hKx ⊢
  have hA : ∀ q : Nat, s.heap.size ≤ q → A q := fun q h => by rw [← hAe]; exact Or.inr h
  have hS : va_S A s.heap s.heap [] := va_S.rf
  have hP : va_P (dC, dI) vwCl [(h, .inr (7, [.ref k, .ref d, .ref j, .ref o, .ref f, .ref g, .ref wk, .ref im, .ref kt, .ref dl])), (d, .inr (4, [.ref ds, .int 0, .ref dk, .ref dw, .int 0, .int 0])), (j, .inr (1, [.ref k, .ref d, .ref jd, .ref jb, .ref jw, .ref jl, .int 0, .int 0, .int 0, .int 0, .int 0, .int 0, .int 0, .int 0])), (jl, .inl (cI, 61, .inl (fun _ => 0))), (k, .inr (0, [.ref ks, .ref kw, .ref kc, .int (-6), .int 0, .int 0, .ref kq, .ref km, .ref kd, .int 0, .ref ka, .ref kk])), (ks, .inl (cI, 5, .inl (upd (fun _ => 0) 0 800))), (g, .inr (2, [.ref k, .ref d, .ref j, .ref gg, .long 0, .long 0]))] s.heap := hP
  have hl := lv_entry ([.ref h, .int i0, .int 0, .int 1]) (n := 5) (Nat.le_of_ble_eq_true rfl)
  rw [lg_entry_eq]
  generalize (lg_sl ([.ref h, .int i0, .int 0, .int 1]) ++ List.replicate (5 - (lg_sl ([.ref h, .int i0, .int 0, .int 1])).length) Slot.unset).toArray = ls at hl ⊢
  have hl : lv_has ls 5 [(0, .ref h), (1, .int i0), (2, .int 0), (3, .int 1)] := hl
  have hK := hKx.1
  have hin7 := fun w9 h9 => List.mem_cons_of_mem (Cond.code yX7_gust cX7_gust 5 (some .long)) (inlX7 w9 h9)
  have hin2 := fun w9 h9 => List.mem_cons_of_mem (Cond.code yX7_gust cX7_gust 5 (some .long)) (inlX2 w9 h9)
  have hw0 := hts (.fieldLink RX7 53 "OneCan" "gusts" "LOneCan$Gusts;") (List.mem_cons_of_mem _ wm_286)
  have hw1 := hts (.fieldLink RX7 253 "OneCan$Gusts" "lower" "J") (List.mem_cons_of_mem _ wm_297)
  refine lv_aload_n hx hb dX7_gust_0 rfl (lv_at hl 0 rfl) ?_
  refine lv_iload_n hx hb dX7_gust_1 rfl (lv_at hl 1 rfl) ?_
  refine lv_iload_n hx hb dX7_gust_2 rfl (lv_at hl 2 rfl) ?_
  refine lv_iload_n hx hb dX7_gust_3 rfl (lv_at hl 3 rfl) ?_
  refine mx_i (wr := []) (va_runV (As := [.int i0, .int 0, .int 1]) (rest := []) ⟨hx, hb, hml, hown, hts⟩ (c_X7_gustRefusalOk l dC dI cI cZ cK tS aK aV h o f g wk im kt dl j jd jb jw jl k ks kw kc kq km kd ka kk d ds dk dw gg i0 0 1 s.heap.size (by have z8 : (0 : Int32).toInt = 0 := rfl; have z8 : (1 : Int32).toInt = 1 := rfl; first | omega | decide | assumption | trivial)) (cwV 3 hts (gw_v (fun _ h9 => List.mem_cons_of_mem _ h9) wm_288 wm_289 wm_290 wm_2 wm_291) rfl rfl rfl (by decide +kernel) ⟨Nat.le_of_ble_eq_true rfl, Nat.le_of_ble_eq_true rfl⟩) (mx_preV (C := RX7) (T := TX7) (N := 10) (ci := 7) hKx hP hD hS hA [0, 1, 2, 3, 4, 5, 6] (by decide) rfl rfl rfl) rfl rfl hl.1 rfl (lv_room (Nat.le_of_ble_eq_true rfl)) dX7_gust_4 ⟨Nat.le_of_ble_eq_true rfl, Nat.le_of_ble_eq_true rfl⟩) hP hD hS hA [0, 1, 2, 3, 4, 5, 6] [] rfl rfl (by decide) (by decide) (fun r1 u1 H locs hq1 hP hD hS => ?_)
  replace hP : va_P (dC, dI) vwCl [(h, .inr (7, [.ref k, .ref d, .ref j, .ref o, .ref f, .ref g, .ref wk, .ref im, .ref kt, .ref dl])), (d, .inr (4, [.ref ds, .int 0, .ref dk, .ref dw, .int 0, .int (-6)])), (j, .inr (1, [.ref k, .ref d, .ref jd, .ref jb, .ref jw, .ref jl, .int (-6), .int (-6), .int 800, .int 0, .int (-6), .int 0, .int 0, .int 0])), (jl, .inl (cI, 61, .inl (upd (fun _ => 0) 0 800))), (k, .inr (0, [.ref ks, .ref kw, .ref kc, .int (-6), .int 0, .int 0, .ref kq, .ref km, .ref kd, .int 0, .ref ka, .ref kk])), (ks, .inl (cI, 5, .inl (upd (fun _ => 0) 0 800))), (g, .inr (2, [.ref k, .ref d, .ref j, .ref gg, .long 0, .long 0]))] H := hP
  replace hD : va_D A [(h, .inr (7, [.ref k, .ref d, .ref j, .ref o, .ref f, .ref g, .ref wk, .ref im, .ref kt, .ref dl])), (d, .inr (4, [.ref ds, .int 0, .ref dk, .ref dw, .int 0, .int (-6)])), (j, .inr (1, [.ref k, .ref d, .ref jd, .ref jb, .ref jw, .ref jl, .int (-6), .int (-6), .int 800, .int 0, .int (-6), .int 0, .int 0, .int 0])), (jl, .inl (cI, 61, .inl (upd (fun _ => 0) 0 800))), (k, .inr (0, [.ref ks, .ref kw, .ref kc, .int (-6), .int 0, .int 0, .ref kq, .ref km, .ref kd, .int 0, .ref ka, .ref kk])), (ks, .inl (cI, 5, .inl (upd (fun _ => 0) 0 800))), (g, .inr (2, [.ref k, .ref d, .ref j, .ref gg, .long 0, .long 0]))] := hD
  obtain rfl : r1 = 0 := hq1
  refine lv_istore (lv' := [(4, .int 0), (0, .ref h), (1, .int i0), (2, .int 0), (3, .int 1)]) hx hb dX7_gust_7 hl (by decide) rfl (fun ls hl => ?_)
  refine lv_iload hx hb dX7_gust_9 (lv_at hl 0 rfl) ?_
  refine lv_if_eq (tgt := 22) hx hb dX7_gust_11 (by decide) (fun c2 => ?_) (fun c2 => absurd c2 (by decide))
  refine lv_iload_n hx hb dX7_gust_22 rfl (lv_at hl 3 rfl) ?_
  refine lv_if_ne (tgt := 37) hx hb dX7_gust_23 (by decide) (fun c3 => absurd c3 (by decide)) (fun c3 => ?_)
  refine lv_aload_n hx hb dX7_gust_26 rfl (lv_at hl 1 rfl) ?_
  refine va_get (D := (dC, dI)) (ci := 7) (v := .ref g) (C := RX7) (T := TX7) (N := 10) hx hb hts hin7 hown hK hP 0 rfl rfl 5 (by decide) hw0 (fun _ h9 => h9) rfl dX7_gust_27 ?_
  refine lv_iload_n hx hb dX7_gust_30 rfl (lv_at hl 2 rfl) ?_
  refine mx_v (wr := [(h, .inr (7, [.ref k, .ref d, .ref j, .ref o, .ref f, .ref g, .ref wk, .ref im, .ref kt, .ref dl])), (jl, .inl (cI, 61, .inl (upd (fun _ => 0) 0 800)))]) (va_runV (As := [.int i0]) (rest := []) ⟨hx, hb, hml, hown, hts⟩ (c_X2_findChance l dC dI cI cZ cK tS aK aV g j jd jb jw jl k ks kw kc kq km kd ka kk d ds dk dw gg i0 H.size (by first | omega | decide | assumption | trivial)) (cwV 1 hts (gw_v (fun _ h9 => List.mem_cons_of_mem _ h9) wm_292 wm_293 wm_294 wm_262 wm_295) rfl rfl rfl (by decide +kernel) ⟨Nat.le_of_ble_eq_true rfl, Nat.le_of_ble_eq_true rfl⟩) (mx_preV (C := RX2) (T := TX2) (N := 6) (ci := 2) hKx hP hD hS hA [6, 2, 1, 4, 5] (by decide) rfl rfl rfl) rfl rfl hl.1 rfl (lv_room (Nat.le_of_ble_eq_true rfl)) dX7_gust_31 ⟨Nat.le_of_ble_eq_true rfl, Nat.le_of_ble_eq_true rfl⟩) hP hD hS hA [6, 2, 1, 4, 5] [0, 3] rfl rfl (by decide) (by decide) (fun u4 H locs hq4 hP hD hS => ?_)
  replace hP : va_P (dC, dI) vwCl [(h, .inr (7, [.ref k, .ref d, .ref j, .ref o, .ref f, .ref g, .ref wk, .ref im, .ref kt, .ref dl])), (jl, .inl (cI, 61, .inl (upd (fun _ => 0) 0 800))), (g, .inr (2, [.ref k, .ref d, .ref j, .ref gg, .long 1, .long 1])), (j, .inr (1, [.ref k, .ref d, .ref jd, .ref jb, .ref jw, .ref jl, .int (-6), .int (-6), .int 800, .int 0, .int (-6), .int 0, .int 0, .int 0])), (d, .inr (4, [.ref ds, .int 0, .ref dk, .ref dw, .int 0, .int (-6)])), (k, .inr (0, [.ref ks, .ref kw, .ref kc, .int (-6), .int 0, .int 0, .ref kq, .ref km, .ref kd, .int 0, .ref ka, .ref kk])), (ks, .inl (cI, 5, .inl (upd (fun _ => 0) 0 800)))] H := hP
  replace hD : va_D A [(h, .inr (7, [.ref k, .ref d, .ref j, .ref o, .ref f, .ref g, .ref wk, .ref im, .ref kt, .ref dl])), (jl, .inl (cI, 61, .inl (upd (fun _ => 0) 0 800))), (g, .inr (2, [.ref k, .ref d, .ref j, .ref gg, .long 1, .long 1])), (j, .inr (1, [.ref k, .ref d, .ref jd, .ref jb, .ref jw, .ref jl, .int (-6), .int (-6), .int 800, .int 0, .int (-6), .int 0, .int 0, .int 0])), (d, .inr (4, [.ref ds, .int 0, .ref dk, .ref dw, .int 0, .int (-6)])), (k, .inr (0, [.ref ks, .ref kw, .ref kc, .int (-6), .int 0, .int 0, .ref kq, .ref km, .ref kd, .int 0, .ref ka, .ref kk])), (ks, .inl (cI, 5, .inl (upd (fun _ => 0) 0 800)))] := hD
  refine lv_goto (tgt := 45) hx hb dX7_gust_34 (by decide) ?_
  refine lv_iload_n hx hb dX7_gust_45 rfl (lv_at hl 4 rfl) ?_
  refine lv_if_ne (tgt := 59) hx hb dX7_gust_46 (by decide) (fun c5 => ?_) (fun c5 => absurd c5 (by decide))
  refine lv_aload_n hx hb dX7_gust_59 rfl (lv_at hl 1 rfl) ?_
  refine va_get (D := (dC, dI)) (ci := 7) (v := .ref g) (C := RX7) (T := TX7) (N := 10) hx hb hts hin7 hown hK hP 0 rfl rfl 5 (by decide) hw0 (fun _ h9 => h9) rfl dX7_gust_60 ?_
  refine va_get (D := (dC, dI)) (ci := 2) (v := .long 1) (C := RX2) (T := TX2) (N := 6) hx hb hts hin2 hown hK hP 2 rfl rfl 5 (by decide) hw1 (fun _ h9 => h9) rfl dX7_gust_63 ?_
  have hP9 := mx_subP (wc := []) hP [] rfl
  have hD9 := hD.sub (ws' := []) [] (by decide) rfl
  exact W.lret (v := 1) hx hb hr (fun t ht hW => ⟨⟨1, (), rfl, rfl, by rw [ht]; exact hP9, hD9⟩, hS.F ht⟩) hS.2.2 dX7_gust_66
set_option maxHeartbeats 4000000 in
set_option maxRecDepth 100000 in
theorem c_X7_gust_1_0 (l : Launch) (dC : Nat → ClassId) (dI : Nat → Nat → Nat) (cI cZ cK : ClassId) (tS aK aV : Nat) (h : Nat) (o : Nat) (f : Nat) (g : Nat) (wk : Nat) (im : Nat) (kt : Nat) (dl : Nat) (j : Nat) (jd : Nat) (jb : Nat) (jw : Nat) (jl : Nat) (k : Nat) (ks : Nat) (kw : Nat) (kc : Nat) (kq : Nat) (km : Nat) (kd : Nat) (ka : Nat) (kk : Nat) (d : Nat) (ds : Nat) (dk : Nat) (dw : Nat) (gg : Nat) (i0 : Int32) (sz : Nat) (hi0 : 0 ≤ i0.toInt ∧ i0.toInt ≤ 10) : Cl l yX7_gust (wq yX7_gust cX7_gust 5 (some .long)) ({ frames := 5, cells := 0, slots := 0, locals := 109 }) dC dI cI cZ cK tS aK aV [.ref h, .int i0, .int 1, .int 0] sz [(h, .inr (7, [.ref k, .ref d, .ref j, .ref o, .ref f, .ref g, .ref wk, .ref im, .ref kt, .ref dl])), (d, .inr (4, [.ref ds, .int 0, .ref dk, .ref dw, .int 0, .int 0])), (j, .inr (1, [.ref k, .ref d, .ref jd, .ref jb, .ref jw, .ref jl, .int 0, .int 0, .int 0, .int 0, .int 0, .int 0, .int 0, .int 0])), (jl, .inl (cI, 61, .inl (fun _ => 0))), (k, .inr (0, [.ref ks, .ref kw, .ref kc, .int (-6), .int 0, .int 0, .ref kq, .ref km, .ref kd, .int 0, .ref ka, .ref kk])), (ks, .inl (cI, 5, .inl (upd (fun _ => 0) 0 800))), (g, .inr (2, [.ref k, .ref d, .ref j, .ref gg, .long 0, .long 0]))] (fun (r : Int64) (_ : Unit) => r = 0) (fun _ => []) := by
  refine Met.ofW (cc := cX7_gust) (maxL := 5) (ret := (some .long)) (by decide) rfl ?_
  intro p e s m args below meth c s₁ B hml hv
  obtain ⟨rfl, hsz, hP, hKx, hD0⟩ := hv
  have hx := B.exec
  have hb := B.bytes
  have hr := B.returns
  have hts := atoms_spec (ws := wq yX7_gust cX7_gust 5 (some .long)) B.pre
  have hown : s.vm.findClass RX7 = some m.cls := findClass_of_methodNamed B.named
  have hlocks := B.notSynchronized
  subst hsz
  have hD := hD0.self (sz := s.heap.size)
  generalize hAe : va_A [(h, .inr (7, [.ref k, .ref d, .ref j, .ref o, .ref f, .ref g, .ref wk, .ref im, .ref kt, .ref dl])), (d, .inr (4, [.ref ds, .int 0, .ref dk, .ref dw, .int 0, .int 0])), (j, .inr (1, [.ref k, .ref d, .ref jd, .ref jb, .ref jw, .ref jl, .int 0, .int 0, .int 0, .int 0, .int 0, .int 0, .int 0, .int 0])), (jl, .inl (cI, 61, .inl (fun _ => 0))), (k, .inr (0, [.ref ks, .ref kw, .ref kc, .int (-6), .int 0, .int 0, .ref kq, .ref km, .ref kd, .int 0, .ref ka, .ref kk])), (ks, .inl (cI, 5, .inl (upd (fun _ => 0) 0 800))), (g, .inr (2, [.ref k, .ref d, .ref j, .ref gg, .long 0, .long 0]))] s.heap.size = A at hD hKx ⊢
  have hA : ∀ q : Nat, s.heap.size ≤ q → A q := fun q h => by rw [← hAe]; exact Or.inr h
  have hS : va_S A s.heap s.heap [] := va_S.rf
  have hP : va_P (dC, dI) vwCl [(h, .inr (7, [.ref k, .ref d, .ref j, .ref o, .ref f, .ref g, .ref wk, .ref im, .ref kt, .ref dl])), (d, .inr (4, [.ref ds, .int 0, .ref dk, .ref dw, .int 0, .int 0])), (j, .inr (1, [.ref k, .ref d, .ref jd, .ref jb, .ref jw, .ref jl, .int 0, .int 0, .int 0, .int 0, .int 0, .int 0, .int 0, .int 0])), (jl, .inl (cI, 61, .inl (fun _ => 0))), (k, .inr (0, [.ref ks, .ref kw, .ref kc, .int (-6), .int 0, .int 0, .ref kq, .ref km, .ref kd, .int 0, .ref ka, .ref kk])), (ks, .inl (cI, 5, .inl (upd (fun _ => 0) 0 800))), (g, .inr (2, [.ref k, .ref d, .ref j, .ref gg, .long 0, .long 0]))] s.heap := hP
  have hl := lv_entry ([.ref h, .int i0, .int 1, .int 0]) (n := 5) (Nat.le_of_ble_eq_true rfl)
  rw [lg_entry_eq]
  generalize (lg_sl ([.ref h, .int i0, .int 1, .int 0]) ++ List.replicate (5 - (lg_sl ([.ref h, .int i0, .int 1, .int 0])).length) Slot.unset).toArray = ls at hl ⊢
  have hl : lv_has ls 5 [(0, .ref h), (1, .int i0), (2, .int 1), (3, .int 0)] := hl
  have hK := hKx.1
  have hin7 := fun w9 h9 => List.mem_cons_of_mem (Cond.code yX7_gust cX7_gust 5 (some .long)) (inlX7 w9 h9)
  have hin2 := fun w9 h9 => List.mem_cons_of_mem (Cond.code yX7_gust cX7_gust 5 (some .long)) (inlX2 w9 h9)
  have hw0 := hts (.fieldLink RX7 53 "OneCan" "gusts" "LOneCan$Gusts;") (List.mem_cons_of_mem _ wm_286)
  have hw1 := hts (.fieldLink RX7 249 "OneCan$Gusts" "upper" "J") (List.mem_cons_of_mem _ wm_296)
  refine lv_aload_n hx hb dX7_gust_0 rfl (lv_at hl 0 rfl) ?_
  refine lv_iload_n hx hb dX7_gust_1 rfl (lv_at hl 1 rfl) ?_
  refine lv_iload_n hx hb dX7_gust_2 rfl (lv_at hl 2 rfl) ?_
  refine lv_iload_n hx hb dX7_gust_3 rfl (lv_at hl 3 rfl) ?_
  refine mx_i (wr := []) (va_runV (As := [.int i0, .int 1, .int 0]) (rest := []) ⟨hx, hb, hml, hown, hts⟩ (c_X7_gustRefusalOk l dC dI cI cZ cK tS aK aV h o f g wk im kt dl j jd jb jw jl k ks kw kc kq km kd ka kk d ds dk dw gg i0 1 0 s.heap.size (by have z8 : (0 : Int32).toInt = 0 := rfl; have z8 : (1 : Int32).toInt = 1 := rfl; first | omega | decide | assumption | trivial)) (cwV 3 hts (gw_v (fun _ h9 => List.mem_cons_of_mem _ h9) wm_288 wm_289 wm_290 wm_2 wm_291) rfl rfl rfl (by decide +kernel) ⟨Nat.le_of_ble_eq_true rfl, Nat.le_of_ble_eq_true rfl⟩) (mx_preV (C := RX7) (T := TX7) (N := 10) (ci := 7) hKx hP hD hS hA [0, 1, 2, 3, 4, 5, 6] (by decide) rfl rfl rfl) rfl rfl hl.1 rfl (lv_room (Nat.le_of_ble_eq_true rfl)) dX7_gust_4 ⟨Nat.le_of_ble_eq_true rfl, Nat.le_of_ble_eq_true rfl⟩) hP hD hS hA [0, 1, 2, 3, 4, 5, 6] [] rfl rfl (by decide) (by decide) (fun r1 u1 H locs hq1 hP hD hS => ?_)
  replace hP : va_P (dC, dI) vwCl [(h, .inr (7, [.ref k, .ref d, .ref j, .ref o, .ref f, .ref g, .ref wk, .ref im, .ref kt, .ref dl])), (d, .inr (4, [.ref ds, .int 0, .ref dk, .ref dw, .int 0, .int (-6)])), (j, .inr (1, [.ref k, .ref d, .ref jd, .ref jb, .ref jw, .ref jl, .int (-6), .int (-6), .int 800, .int 0, .int (-6), .int 0, .int 0, .int 0])), (jl, .inl (cI, 61, .inl (upd (fun _ => 0) 0 800))), (k, .inr (0, [.ref ks, .ref kw, .ref kc, .int (-6), .int 0, .int 0, .ref kq, .ref km, .ref kd, .int 0, .ref ka, .ref kk])), (ks, .inl (cI, 5, .inl (upd (fun _ => 0) 0 800))), (g, .inr (2, [.ref k, .ref d, .ref j, .ref gg, .long 0, .long 0]))] H := hP
  replace hD : va_D A [(h, .inr (7, [.ref k, .ref d, .ref j, .ref o, .ref f, .ref g, .ref wk, .ref im, .ref kt, .ref dl])), (d, .inr (4, [.ref ds, .int 0, .ref dk, .ref dw, .int 0, .int (-6)])), (j, .inr (1, [.ref k, .ref d, .ref jd, .ref jb, .ref jw, .ref jl, .int (-6), .int (-6), .int 800, .int 0, .int (-6), .int 0, .int 0, .int 0])), (jl, .inl (cI, 61, .inl (upd (fun _ => 0) 0 800))), (k, .inr (0, [.ref ks, .ref kw, .ref kc, .int (-6), .int 0, .int 0, .ref kq, .ref km, .ref kd, .int 0, .ref ka, .ref kk])), (ks, .inl (cI, 5, .inl (upd (fun _ => 0) 0 800))), (g, .inr (2, [.ref k, .ref d, .ref j, .ref gg, .long 0, .long 0]))] := hD
  obtain rfl : r1 = 0 := hq1
  refine lv_istore (lv' := [(4, .int 0), (0, .ref h), (1, .int i0), (2, .int 1), (3, .int 0)]) hx hb dX7_gust_7 hl (by decide) rfl (fun ls hl => ?_)
  refine lv_iload hx hb dX7_gust_9 (lv_at hl 0 rfl) ?_
  refine lv_if_eq (tgt := 22) hx hb dX7_gust_11 (by decide) (fun c2 => ?_) (fun c2 => absurd c2 (by decide))
  refine lv_iload_n hx hb dX7_gust_22 rfl (lv_at hl 3 rfl) ?_
  refine lv_if_ne (tgt := 37) hx hb dX7_gust_23 (by decide) (fun c3 => ?_) (fun c3 => absurd c3 (by decide))
  refine lv_aload_n hx hb dX7_gust_37 rfl (lv_at hl 1 rfl) ?_
  refine va_get (D := (dC, dI)) (ci := 7) (v := .ref g) (C := RX7) (T := TX7) (N := 10) hx hb hts hin7 hown hK hP 0 rfl rfl 5 (by decide) hw0 (fun _ h9 => h9) rfl dX7_gust_38 ?_
  refine lv_iload_n hx hb dX7_gust_41 rfl (lv_at hl 2 rfl) ?_
  refine mx_v (wr := [(h, .inr (7, [.ref k, .ref d, .ref j, .ref o, .ref f, .ref g, .ref wk, .ref im, .ref kt, .ref dl])), (jl, .inl (cI, 61, .inl (upd (fun _ => 0) 0 800)))]) (va_runV (As := [.int i0]) (rest := []) ⟨hx, hb, hml, hown, hts⟩ (c_X2_findMean l dC dI cI cZ cK tS aK aV g j jd jb jw jl k ks kw kc kq km kd ka kk d ds dk dw gg i0 H.size) (cwV 1 hts (gw_v (fun _ h9 => List.mem_cons_of_mem _ h9) wm_298 wm_299 wm_300 wm_262 wm_301) rfl rfl rfl (by decide +kernel) ⟨Nat.le_of_ble_eq_true rfl, Nat.le_of_ble_eq_true rfl⟩) (mx_preV (C := RX2) (T := TX2) (N := 6) (ci := 2) hKx hP hD hS hA [6, 2, 1, 4, 5] (by decide) rfl rfl rfl) rfl rfl hl.1 rfl (lv_room (Nat.le_of_ble_eq_true rfl)) dX7_gust_42 ⟨Nat.le_of_ble_eq_true rfl, Nat.le_of_ble_eq_true rfl⟩) hP hD hS hA [6, 2, 1, 4, 5] [0, 3] rfl rfl (by decide) (by decide) (fun u4 H locs hq4 hP hD hS => ?_)
  replace hP : va_P (dC, dI) vwCl [(h, .inr (7, [.ref k, .ref d, .ref j, .ref o, .ref f, .ref g, .ref wk, .ref im, .ref kt, .ref dl])), (jl, .inl (cI, 61, .inl (upd (fun _ => 0) 0 800))), (g, .inr (2, [.ref k, .ref d, .ref j, .ref gg, .long 0, .long 1])), (j, .inr (1, [.ref k, .ref d, .ref jd, .ref jb, .ref jw, .ref jl, .int (-6), .int (-6), .int 800, .int 0, .int (-6), .int 0, .int 0, .int 0])), (d, .inr (4, [.ref ds, .int 0, .ref dk, .ref dw, .int 0, .int (-6)])), (k, .inr (0, [.ref ks, .ref kw, .ref kc, .int (-6), .int 0, .int 0, .ref kq, .ref km, .ref kd, .int 0, .ref ka, .ref kk])), (ks, .inl (cI, 5, .inl (upd (fun _ => 0) 0 800)))] H := hP
  replace hD : va_D A [(h, .inr (7, [.ref k, .ref d, .ref j, .ref o, .ref f, .ref g, .ref wk, .ref im, .ref kt, .ref dl])), (jl, .inl (cI, 61, .inl (upd (fun _ => 0) 0 800))), (g, .inr (2, [.ref k, .ref d, .ref j, .ref gg, .long 0, .long 1])), (j, .inr (1, [.ref k, .ref d, .ref jd, .ref jb, .ref jw, .ref jl, .int (-6), .int (-6), .int 800, .int 0, .int (-6), .int 0, .int 0, .int 0])), (d, .inr (4, [.ref ds, .int 0, .ref dk, .ref dw, .int 0, .int (-6)])), (k, .inr (0, [.ref ks, .ref kw, .ref kc, .int (-6), .int 0, .int 0, .ref kq, .ref km, .ref kd, .int 0, .ref ka, .ref kk])), (ks, .inl (cI, 5, .inl (upd (fun _ => 0) 0 800)))] := hD
  refine lv_iload_n hx hb dX7_gust_45 rfl (lv_at hl 4 rfl) ?_
  refine lv_if_ne (tgt := 59) hx hb dX7_gust_46 (by decide) (fun c5 => absurd c5 (by decide)) (fun c5 => ?_)
  refine lv_aload_n hx hb dX7_gust_49 rfl (lv_at hl 1 rfl) ?_
  refine va_get (D := (dC, dI)) (ci := 7) (v := .ref g) (C := RX7) (T := TX7) (N := 10) hx hb hts hin7 hown hK hP 0 rfl rfl 5 (by decide) hw0 (fun _ h9 => h9) rfl dX7_gust_50 ?_
  refine va_get (D := (dC, dI)) (ci := 2) (v := .long 0) (C := RX2) (T := TX2) (N := 6) hx hb hts hin2 hown hK hP 2 rfl rfl 4 (by decide) hw1 (fun _ h9 => h9) rfl dX7_gust_53 ?_
  refine lv_goto (tgt := 66) hx hb dX7_gust_56 (by decide) ?_
  have hP9 := mx_subP (wc := []) hP [] rfl
  have hD9 := hD.sub (ws' := []) [] (by decide) rfl
  exact W.lret (v := 0) hx hb hr (fun t ht hW => ⟨⟨0, (), rfl, rfl, by rw [ht]; exact hP9, hD9⟩, hS.F ht⟩) hS.2.2 dX7_gust_66
set_option maxHeartbeats 4000000 in
set_option maxRecDepth 100000 in
theorem c_X7_gust_1_1 (l : Launch) (dC : Nat → ClassId) (dI : Nat → Nat → Nat) (cI cZ cK : ClassId) (tS aK aV : Nat) (h : Nat) (o : Nat) (f : Nat) (g : Nat) (wk : Nat) (im : Nat) (kt : Nat) (dl : Nat) (j : Nat) (jd : Nat) (jb : Nat) (jw : Nat) (jl : Nat) (k : Nat) (ks : Nat) (kw : Nat) (kc : Nat) (kq : Nat) (km : Nat) (kd : Nat) (ka : Nat) (kk : Nat) (d : Nat) (ds : Nat) (dk : Nat) (dw : Nat) (gg : Nat) (i0 : Int32) (sz : Nat) (hi0 : 0 ≤ i0.toInt ∧ i0.toInt ≤ 10) : Cl l yX7_gust (wq yX7_gust cX7_gust 5 (some .long)) ({ frames := 5, cells := 0, slots := 0, locals := 109 }) dC dI cI cZ cK tS aK aV [.ref h, .int i0, .int 1, .int 1] sz [(h, .inr (7, [.ref k, .ref d, .ref j, .ref o, .ref f, .ref g, .ref wk, .ref im, .ref kt, .ref dl])), (d, .inr (4, [.ref ds, .int 0, .ref dk, .ref dw, .int 0, .int 0])), (j, .inr (1, [.ref k, .ref d, .ref jd, .ref jb, .ref jw, .ref jl, .int 0, .int 0, .int 0, .int 0, .int 0, .int 0, .int 0, .int 0])), (jl, .inl (cI, 61, .inl (fun _ => 0))), (k, .inr (0, [.ref ks, .ref kw, .ref kc, .int (-6), .int 0, .int 0, .ref kq, .ref km, .ref kd, .int 0, .ref ka, .ref kk])), (ks, .inl (cI, 5, .inl (upd (fun _ => 0) 0 800))), (g, .inr (2, [.ref k, .ref d, .ref j, .ref gg, .long 0, .long 0]))] (fun (r : Int64) (_ : Unit) => r = 1) (fun _ => []) := by
  refine Met.ofW (cc := cX7_gust) (maxL := 5) (ret := (some .long)) (by decide) rfl ?_
  intro p e s m args below meth c s₁ B hml hv
  obtain ⟨rfl, hsz, hP, hKx, hD0⟩ := hv
  have hx := B.exec
  have hb := B.bytes
  have hr := B.returns
  have hts := atoms_spec (ws := wq yX7_gust cX7_gust 5 (some .long)) B.pre
  have hown : s.vm.findClass RX7 = some m.cls := findClass_of_methodNamed B.named
  have hlocks := B.notSynchronized
  subst hsz
  have hD := hD0.self (sz := s.heap.size)
  generalize hAe : va_A [(h, .inr (7, [.ref k, .ref d, .ref j, .ref o, .ref f, .ref g, .ref wk, .ref im, .ref kt, .ref dl])), (d, .inr (4, [.ref ds, .int 0, .ref dk, .ref dw, .int 0, .int 0])), (j, .inr (1, [.ref k, .ref d, .ref jd, .ref jb, .ref jw, .ref jl, .int 0, .int 0, .int 0, .int 0, .int 0, .int 0, .int 0, .int 0])), (jl, .inl (cI, 61, .inl (fun _ => 0))), (k, .inr (0, [.ref ks, .ref kw, .ref kc, .int (-6), .int 0, .int 0, .ref kq, .ref km, .ref kd, .int 0, .ref ka, .ref kk])), (ks, .inl (cI, 5, .inl (upd (fun _ => 0) 0 800))), (g, .inr (2, [.ref k, .ref d, .ref j, .ref gg, .long 0, .long 0]))] s.heap.size = A at hD hKx ⊢
  have hA : ∀ q : Nat, s.heap.size ≤ q → A q := fun q h => by rw [← hAe]; exact Or.inr h
  have hS : va_S A s.heap s.heap [] := va_S.rf
  have hP : va_P (dC, dI) vwCl [(h, .inr (7, [.ref k, .ref d, .ref j, .ref o, .ref f, .ref g, .ref wk, .ref im, .ref kt, .ref dl])), (d, .inr (4, [.ref ds, .int 0, .ref dk, .ref dw, .int 0, .int 0])), (j, .inr (1, [.ref k, .ref d, .ref jd, .ref jb, .ref jw, .ref jl, .int 0, .int 0, .int 0, .int 0, .int 0, .int 0, .int 0, .int 0])), (jl, .inl (cI, 61, .inl (fun _ => 0))), (k, .inr (0, [.ref ks, .ref kw, .ref kc, .int (-6), .int 0, .int 0, .ref kq, .ref km, .ref kd, .int 0, .ref ka, .ref kk])), (ks, .inl (cI, 5, .inl (upd (fun _ => 0) 0 800))), (g, .inr (2, [.ref k, .ref d, .ref j, .ref gg, .long 0, .long 0]))] s.heap := hP
  have hl := lv_entry ([.ref h, .int i0, .int 1, .int 1]) (n := 5) (Nat.le_of_ble_eq_true rfl)
  rw [lg_entry_eq]
  generalize (lg_sl ([.ref h, .int i0, .int 1, .int 1]) ++ List.replicate (5 - (lg_sl ([.ref h, .int i0, .int 1, .int 1])).length) Slot.unset).toArray = ls at hl ⊢
  have hl : lv_has ls 5 [(0, .ref h), (1, .int i0), (2, .int 1), (3, .int 1)] := hl
  have hK := hKx.1
  have hin7 := fun w9 h9 => List.mem_cons_of_mem (Cond.code yX7_gust cX7_gust 5 (some .long)) (inlX7 w9 h9)
  have hin2 := fun w9 h9 => List.mem_cons_of_mem (Cond.code yX7_gust cX7_gust 5 (some .long)) (inlX2 w9 h9)
  have hw0 := hts (.fieldLink RX7 53 "OneCan" "gusts" "LOneCan$Gusts;") (List.mem_cons_of_mem _ wm_286)
  have hw1 := hts (.fieldLink RX7 253 "OneCan$Gusts" "lower" "J") (List.mem_cons_of_mem _ wm_297)
  refine lv_aload_n hx hb dX7_gust_0 rfl (lv_at hl 0 rfl) ?_
  refine lv_iload_n hx hb dX7_gust_1 rfl (lv_at hl 1 rfl) ?_
  refine lv_iload_n hx hb dX7_gust_2 rfl (lv_at hl 2 rfl) ?_
  refine lv_iload_n hx hb dX7_gust_3 rfl (lv_at hl 3 rfl) ?_
  refine mx_i (wr := []) (va_runV (As := [.int i0, .int 1, .int 1]) (rest := []) ⟨hx, hb, hml, hown, hts⟩ (c_X7_gustRefusalOk l dC dI cI cZ cK tS aK aV h o f g wk im kt dl j jd jb jw jl k ks kw kc kq km kd ka kk d ds dk dw gg i0 1 1 s.heap.size (by have z8 : (1 : Int32).toInt = 1 := rfl; first | omega | decide | assumption | trivial)) (cwV 3 hts (gw_v (fun _ h9 => List.mem_cons_of_mem _ h9) wm_288 wm_289 wm_290 wm_2 wm_291) rfl rfl rfl (by decide +kernel) ⟨Nat.le_of_ble_eq_true rfl, Nat.le_of_ble_eq_true rfl⟩) (mx_preV (C := RX7) (T := TX7) (N := 10) (ci := 7) hKx hP hD hS hA [0, 1, 2, 3, 4, 5, 6] (by decide) rfl rfl rfl) rfl rfl hl.1 rfl (lv_room (Nat.le_of_ble_eq_true rfl)) dX7_gust_4 ⟨Nat.le_of_ble_eq_true rfl, Nat.le_of_ble_eq_true rfl⟩) hP hD hS hA [0, 1, 2, 3, 4, 5, 6] [] rfl rfl (by decide) (by decide) (fun r1 u1 H locs hq1 hP hD hS => ?_)
  replace hP : va_P (dC, dI) vwCl [(h, .inr (7, [.ref k, .ref d, .ref j, .ref o, .ref f, .ref g, .ref wk, .ref im, .ref kt, .ref dl])), (d, .inr (4, [.ref ds, .int 0, .ref dk, .ref dw, .int 0, .int (-6)])), (j, .inr (1, [.ref k, .ref d, .ref jd, .ref jb, .ref jw, .ref jl, .int (-6), .int (-6), .int 800, .int 0, .int (-6), .int 0, .int 0, .int 0])), (jl, .inl (cI, 61, .inl (upd (fun _ => 0) 0 800))), (k, .inr (0, [.ref ks, .ref kw, .ref kc, .int (-6), .int 0, .int 0, .ref kq, .ref km, .ref kd, .int 0, .ref ka, .ref kk])), (ks, .inl (cI, 5, .inl (upd (fun _ => 0) 0 800))), (g, .inr (2, [.ref k, .ref d, .ref j, .ref gg, .long 0, .long 0]))] H := hP
  replace hD : va_D A [(h, .inr (7, [.ref k, .ref d, .ref j, .ref o, .ref f, .ref g, .ref wk, .ref im, .ref kt, .ref dl])), (d, .inr (4, [.ref ds, .int 0, .ref dk, .ref dw, .int 0, .int (-6)])), (j, .inr (1, [.ref k, .ref d, .ref jd, .ref jb, .ref jw, .ref jl, .int (-6), .int (-6), .int 800, .int 0, .int (-6), .int 0, .int 0, .int 0])), (jl, .inl (cI, 61, .inl (upd (fun _ => 0) 0 800))), (k, .inr (0, [.ref ks, .ref kw, .ref kc, .int (-6), .int 0, .int 0, .ref kq, .ref km, .ref kd, .int 0, .ref ka, .ref kk])), (ks, .inl (cI, 5, .inl (upd (fun _ => 0) 0 800))), (g, .inr (2, [.ref k, .ref d, .ref j, .ref gg, .long 0, .long 0]))] := hD
  obtain rfl : r1 = 0 := hq1
  refine lv_istore (lv' := [(4, .int 0), (0, .ref h), (1, .int i0), (2, .int 1), (3, .int 1)]) hx hb dX7_gust_7 hl (by decide) rfl (fun ls hl => ?_)
  refine lv_iload hx hb dX7_gust_9 (lv_at hl 0 rfl) ?_
  refine lv_if_eq (tgt := 22) hx hb dX7_gust_11 (by decide) (fun c2 => ?_) (fun c2 => absurd c2 (by decide))
  refine lv_iload_n hx hb dX7_gust_22 rfl (lv_at hl 3 rfl) ?_
  refine lv_if_ne (tgt := 37) hx hb dX7_gust_23 (by decide) (fun c3 => ?_) (fun c3 => absurd c3 (by decide))
  refine lv_aload_n hx hb dX7_gust_37 rfl (lv_at hl 1 rfl) ?_
  refine va_get (D := (dC, dI)) (ci := 7) (v := .ref g) (C := RX7) (T := TX7) (N := 10) hx hb hts hin7 hown hK hP 0 rfl rfl 5 (by decide) hw0 (fun _ h9 => h9) rfl dX7_gust_38 ?_
  refine lv_iload_n hx hb dX7_gust_41 rfl (lv_at hl 2 rfl) ?_
  refine mx_v (wr := [(h, .inr (7, [.ref k, .ref d, .ref j, .ref o, .ref f, .ref g, .ref wk, .ref im, .ref kt, .ref dl])), (jl, .inl (cI, 61, .inl (upd (fun _ => 0) 0 800)))]) (va_runV (As := [.int i0]) (rest := []) ⟨hx, hb, hml, hown, hts⟩ (c_X2_findMean l dC dI cI cZ cK tS aK aV g j jd jb jw jl k ks kw kc kq km kd ka kk d ds dk dw gg i0 H.size) (cwV 1 hts (gw_v (fun _ h9 => List.mem_cons_of_mem _ h9) wm_298 wm_299 wm_300 wm_262 wm_301) rfl rfl rfl (by decide +kernel) ⟨Nat.le_of_ble_eq_true rfl, Nat.le_of_ble_eq_true rfl⟩) (mx_preV (C := RX2) (T := TX2) (N := 6) (ci := 2) hKx hP hD hS hA [6, 2, 1, 4, 5] (by decide) rfl rfl rfl) rfl rfl hl.1 rfl (lv_room (Nat.le_of_ble_eq_true rfl)) dX7_gust_42 ⟨Nat.le_of_ble_eq_true rfl, Nat.le_of_ble_eq_true rfl⟩) hP hD hS hA [6, 2, 1, 4, 5] [0, 3] rfl rfl (by decide) (by decide) (fun u4 H locs hq4 hP hD hS => ?_)
  replace hP : va_P (dC, dI) vwCl [(h, .inr (7, [.ref k, .ref d, .ref j, .ref o, .ref f, .ref g, .ref wk, .ref im, .ref kt, .ref dl])), (jl, .inl (cI, 61, .inl (upd (fun _ => 0) 0 800))), (g, .inr (2, [.ref k, .ref d, .ref j, .ref gg, .long 0, .long 1])), (j, .inr (1, [.ref k, .ref d, .ref jd, .ref jb, .ref jw, .ref jl, .int (-6), .int (-6), .int 800, .int 0, .int (-6), .int 0, .int 0, .int 0])), (d, .inr (4, [.ref ds, .int 0, .ref dk, .ref dw, .int 0, .int (-6)])), (k, .inr (0, [.ref ks, .ref kw, .ref kc, .int (-6), .int 0, .int 0, .ref kq, .ref km, .ref kd, .int 0, .ref ka, .ref kk])), (ks, .inl (cI, 5, .inl (upd (fun _ => 0) 0 800)))] H := hP
  replace hD : va_D A [(h, .inr (7, [.ref k, .ref d, .ref j, .ref o, .ref f, .ref g, .ref wk, .ref im, .ref kt, .ref dl])), (jl, .inl (cI, 61, .inl (upd (fun _ => 0) 0 800))), (g, .inr (2, [.ref k, .ref d, .ref j, .ref gg, .long 0, .long 1])), (j, .inr (1, [.ref k, .ref d, .ref jd, .ref jb, .ref jw, .ref jl, .int (-6), .int (-6), .int 800, .int 0, .int (-6), .int 0, .int 0, .int 0])), (d, .inr (4, [.ref ds, .int 0, .ref dk, .ref dw, .int 0, .int (-6)])), (k, .inr (0, [.ref ks, .ref kw, .ref kc, .int (-6), .int 0, .int 0, .ref kq, .ref km, .ref kd, .int 0, .ref ka, .ref kk])), (ks, .inl (cI, 5, .inl (upd (fun _ => 0) 0 800)))] := hD
  refine lv_iload_n hx hb dX7_gust_45 rfl (lv_at hl 4 rfl) ?_
  refine lv_if_ne (tgt := 59) hx hb dX7_gust_46 (by decide) (fun c5 => ?_) (fun c5 => absurd c5 (by decide))
  refine lv_aload_n hx hb dX7_gust_59 rfl (lv_at hl 1 rfl) ?_
  refine va_get (D := (dC, dI)) (ci := 7) (v := .ref g) (C := RX7) (T := TX7) (N := 10) hx hb hts hin7 hown hK hP 0 rfl rfl 5 (by decide) hw0 (fun _ h9 => h9) rfl dX7_gust_60 ?_
  refine va_get (D := (dC, dI)) (ci := 2) (v := .long 1) (C := RX2) (T := TX2) (N := 6) hx hb hts hin2 hown hK hP 2 rfl rfl 5 (by decide) hw1 (fun _ h9 => h9) rfl dX7_gust_63 ?_
  have hP9 := mx_subP (wc := []) hP [] rfl
  have hD9 := hD.sub (ws' := []) [] (by decide) rfl
  exact W.lret (v := 1) hx hb hr (fun t ht hW => ⟨⟨1, (), rfl, rfl, by rw [ht]; exact hP9, hD9⟩, hS.F ht⟩) hS.2.2 dX7_gust_66
set_option maxHeartbeats 4000000 in
set_option maxRecDepth 100000 in
theorem c_X7_gustNo (l : Launch) (dC : Nat → ClassId) (dI : Nat → Nat → Nat) (cI cZ cK : ClassId) (tS aK aV : Nat) (h : Nat) (o : Nat) (f : Nat) (g : Nat) (wk : Nat) (im : Nat) (kt : Nat) (dl : Nat) (j : Nat) (k : Nat) (d : Nat) (i0 : Int32) (i1 : Int32) (i2 : Int32) (sz : Nat) (hi0 : i0.toInt < 0 ∨ 10 < i0.toInt ∨ i1.toInt < 0 ∨ 1 < i1.toInt ∨ i2.toInt < 0 ∨ 1 < i2.toInt) : Cl l yX7_gust (wq yX7_gust cX7_gust 5 (some .long)) ({ frames := 2, cells := 0, slots := 0, locals := 46 }) dC dI cI cZ cK tS aK aV [.ref h, .int i0, .int i1, .int i2] sz [(h, .inr (7, [.ref k, .ref d, .ref j, .ref o, .ref f, .ref g, .ref wk, .ref im, .ref kt, .ref dl]))] (fun (r : Int64) (_ : Unit) => r = (-1000000000000000002)) (fun _ => []) := by
  refine Met.ofW (cc := cX7_gust) (maxL := 5) (ret := (some .long)) (by decide) rfl ?_
  intro p e s m args below meth c s₁ B hml hv
  obtain ⟨rfl, hsz, hP, hKx, hD0⟩ := hv
  have hx := B.exec
  have hb := B.bytes
  have hr := B.returns
  have hts := atoms_spec (ws := wq yX7_gust cX7_gust 5 (some .long)) B.pre
  have hown : s.vm.findClass RX7 = some m.cls := findClass_of_methodNamed B.named
  have hlocks := B.notSynchronized
  subst hsz
  have hD := hD0.self (sz := s.heap.size)
  generalize hAe : va_A [(h, .inr (7, [.ref k, .ref d, .ref j, .ref o, .ref f, .ref g, .ref wk, .ref im, .ref kt, .ref dl]))] s.heap.size = A at hD hKx ⊢
  have hA : ∀ q : Nat, s.heap.size ≤ q → A q := fun q h => by rw [← hAe]; exact Or.inr h
  have hS : va_S A s.heap s.heap [] := va_S.rf
  have hP : va_P (dC, dI) vwCl [(h, .inr (7, [.ref k, .ref d, .ref j, .ref o, .ref f, .ref g, .ref wk, .ref im, .ref kt, .ref dl]))] s.heap := hP
  have hl := lv_entry ([.ref h, .int i0, .int i1, .int i2]) (n := 5) (Nat.le_of_ble_eq_true rfl)
  rw [lg_entry_eq]
  generalize (lg_sl ([.ref h, .int i0, .int i1, .int i2]) ++ List.replicate (5 - (lg_sl ([.ref h, .int i0, .int i1, .int i2])).length) Slot.unset).toArray = ls at hl ⊢
  have hl : lv_has ls 5 [(0, .ref h), (1, .int i0), (2, .int i1), (3, .int i2)] := hl
  have hK := hKx.1
  have hw0 := hts (.constantLong RX7 240 (-1000000000000000000)) (List.mem_cons_of_mem _ wm_302)
  refine lv_aload_n hx hb dX7_gust_0 rfl (lv_at hl 0 rfl) ?_
  refine lv_iload_n hx hb dX7_gust_1 rfl (lv_at hl 1 rfl) ?_
  refine lv_iload_n hx hb dX7_gust_2 rfl (lv_at hl 2 rfl) ?_
  refine lv_iload_n hx hb dX7_gust_3 rfl (lv_at hl 3 rfl) ?_
  refine mx_i (wr := []) (va_runV (As := [.int i0, .int i1, .int i2]) (rest := []) ⟨hx, hb, hml, hown, hts⟩ (c_X7_gustRefusalNo l dC dI cI cZ cK tS aK aV h o f g wk im kt dl j k d i0 i1 i2 s.heap.size (by first | omega | decide | assumption | trivial)) (cwV 3 hts (gw_v (fun _ h9 => List.mem_cons_of_mem _ h9) wm_288 wm_289 wm_290 wm_2 wm_291) rfl rfl rfl (by decide +kernel) ⟨Nat.le_of_ble_eq_true rfl, Nat.le_of_ble_eq_true rfl⟩) (mx_preV (C := RX7) (T := TX7) (N := 10) (ci := 7) hKx hP hD hS hA [0] (by decide) rfl rfl rfl) rfl rfl hl.1 rfl (lv_room (Nat.le_of_ble_eq_true rfl)) dX7_gust_4 ⟨Nat.le_of_ble_eq_true rfl, Nat.le_of_ble_eq_true rfl⟩) hP hD hS hA [0] [] rfl rfl (by decide) (by decide) (fun r1 u1 H locs hq1 hP hD hS => ?_)
  replace hP : va_P (dC, dI) vwCl [(h, .inr (7, [.ref k, .ref d, .ref j, .ref o, .ref f, .ref g, .ref wk, .ref im, .ref kt, .ref dl]))] H := hP
  replace hD : va_D A [(h, .inr (7, [.ref k, .ref d, .ref j, .ref o, .ref f, .ref g, .ref wk, .ref im, .ref kt, .ref dl]))] := hD
  obtain rfl : r1 = (-2) := hq1
  refine lv_istore (lv' := [(4, .int (-2)), (0, .ref h), (1, .int i0), (2, .int i1), (3, .int i2)]) hx hb dX7_gust_7 hl (by decide) rfl (fun ls hl => ?_)
  refine lv_iload hx hb dX7_gust_9 (lv_at hl 0 rfl) ?_
  refine lv_if_eq (tgt := 22) hx hb dX7_gust_11 (by decide) (fun c2 => absurd c2 (by decide)) (fun c2 => ?_)
  refine lv_ldc2 (v := (-1000000000000000000)) hx hb hown hw0 dX7_gust_14 ?_
  refine lv_iload hx hb dX7_gust_17 (lv_at hl 0 rfl) ?_
  refine lv_i2l (v := (-2)) hx hb dX7_gust_19 (by decide) ?_
  refine lv_ladd hx hb dX7_gust_20 ?_
  refine lv_topl (fun x3 e3 => ?_)
  obtain rfl : x3 = (-1000000000000000002) := e3.trans (by decide)
  have hP9 := mx_subP (wc := []) hP [] rfl
  have hD9 := hD.sub (ws' := []) [] (by decide) rfl
  exact W.lret (v := (-1000000000000000002)) hx hb hr (fun t ht hW => ⟨⟨(-1000000000000000002), (), rfl, rfl, by rw [ht]; exact hP9, hD9⟩, hS.F ht⟩) hS.2.2 dX7_gust_21
set_option maxHeartbeats 4000000 in
set_option maxRecDepth 100000 in
theorem c_X3_readN (l : Launch) (dC : Nat → ClassId) (dI : Nat → Nat → Nat) (cI cZ cK : ClassId) (tS aK aV : Nat) (o : Nat) (k : Nat) (op : Nat) (oq : Nat) (ov : Nat) (os : Nat) (i0 : Int32) (sz : Nat) : Cv l yX3_read (wq yX3_read cX3_read 4 none) ({ frames := 0, cells := 0, slots := 0, locals := 0 }) dC dI cI cZ cK tS aK aV [.ref o, .int i0] sz [(o, .inr (3, [.ref k, .ref op, .int 0, .ref oq, .ref ov, .ref os])), (op, .inl (cI, 6, .inl (fun _ => 0)))] (fun (u : Unit) => True) (fun _ => [(o, .inr (3, [.ref k, .ref op, .int ((((((i0 - i0 / 10 * 10) + ((i0 / 10) - (i0 / 10) / 10 * 10)) + (((i0 / 10) / 10) - ((i0 / 10) / 10) / 10 * 10)) + ((((i0 / 10) / 10) / 10) - (((i0 / 10) / 10) / 10) / 10 * 10)) + (((((i0 / 10) / 10) / 10) / 10) - ((((i0 / 10) / 10) / 10) / 10) / 10 * 10)) + ((((((i0 / 10) / 10) / 10) / 10) / 10) - (((((i0 / 10) / 10) / 10) / 10) / 10) / 10 * 10)), .ref oq, .ref ov, .ref os])), (op, .inl (cI, 6, .inl (upd (upd (upd (upd (upd (upd (fun _ => 0) 5 (i0 - i0 / 10 * 10)) 4 ((i0 / 10) - (i0 / 10) / 10 * 10)) 3 (((i0 / 10) / 10) - ((i0 / 10) / 10) / 10 * 10)) 2 ((((i0 / 10) / 10) / 10) - (((i0 / 10) / 10) / 10) / 10 * 10)) 1 (((((i0 / 10) / 10) / 10) / 10) - ((((i0 / 10) / 10) / 10) / 10) / 10 * 10)) 0 ((((((i0 / 10) / 10) / 10) / 10) / 10) - (((((i0 / 10) / 10) / 10) / 10) / 10) / 10 * 10))))]) := by
  refine Met.ofW (cc := cX3_read) (maxL := 4) (ret := none) (by decide) rfl ?_
  intro p e s m args below meth c s₁ B hml hv
  obtain ⟨rfl, hsz, hP, hKx, hD0⟩ := hv
  have hx := B.exec
  have hb := B.bytes
  have hr := B.returns
  have hts := atoms_spec (ws := wq yX3_read cX3_read 4 none) B.pre
  have hown : s.vm.findClass RX3 = some m.cls := findClass_of_methodNamed B.named
  have hlocks := B.notSynchronized
  subst hsz
  have hD := hD0.self (sz := s.heap.size)
  generalize hAe : va_A [(o, .inr (3, [.ref k, .ref op, .int 0, .ref oq, .ref ov, .ref os])), (op, .inl (cI, 6, .inl (fun _ => 0)))] s.heap.size = A at hD hKx ⊢
  have hA : ∀ q : Nat, s.heap.size ≤ q → A q := fun q h => by rw [← hAe]; exact Or.inr h
  have hS : va_S A s.heap s.heap [] := va_S.rf
  have hP : va_P (dC, dI) vwCl [(o, .inr (3, [.ref k, .ref op, .int 0, .ref oq, .ref ov, .ref os])), (op, .inl (cI, 6, .inl (fun _ => 0)))] s.heap := hP
  have hl := lv_entry ([.ref o, .int i0]) (n := 4) (Nat.le_of_ble_eq_true rfl)
  rw [lg_entry_eq]
  generalize (lg_sl ([.ref o, .int i0]) ++ List.replicate (4 - (lg_sl ([.ref o, .int i0])).length) Slot.unset).toArray = ls at hl ⊢
  have hl : lv_has ls 4 [(0, .ref o), (1, .int i0)] := hl
  have hK := hKx.1
  have hin3 := fun w9 h9 => List.mem_cons_of_mem (Cond.code yX3_read cX3_read 4 none) (inlX3 w9 h9)
  have hw0 := hts (.fieldLink RX3 28 "OneCan$Order" "total" "I") (List.mem_cons_of_mem _ wm_139)
  have hw1 := hts (.fieldLink RX3 9 "OneCan$Order" "portions" "[I") (List.mem_cons_of_mem _ wm_140)
  refine lv_iload_n hx hb dX3_read_0 rfl (lv_at hl 1 rfl) ?_
  refine lv_istore_n (lv' := [(2, .int i0), (0, .ref o), (1, .int i0)]) hx hb dX3_read_1 rfl hl (by decide) rfl (fun ls hl => ?_)
  refine lv_aload_n hx hb dX3_read_2 rfl (lv_at hl 1 rfl) ?_
  refine lv_iconst (v := 0) hx hb dX3_read_3 (by decide) ?_
  refine va_put (D := (dC, dI)) (ci := 3) (v := .int 0) (ty := .int) (C := RX3) (T := TX3) (N := 6) hx hb hts hin3 tyX3 tyX3_ok nmX3 hown hK hP hD hS 0 rfl rfl 2 (by decide) hw0 (fun _ h9 => h9) rfl (by decide +kernel) rfl rfl (Nat.le_of_ble_eq_true rfl) dX3_read_4 (fun H locs hP hD hS => ?_)
  replace hP : va_P (dC, dI) vwCl [(o, .inr (3, [.ref k, .ref op, .int 0, .ref oq, .ref ov, .ref os])), (op, .inl (cI, 6, .inl (fun _ => 0)))] H := hP
  replace hD : va_D A [(o, .inr (3, [.ref k, .ref op, .int 0, .ref oq, .ref ov, .ref os])), (op, .inl (cI, 6, .inl (fun _ => 0)))] := hD
  refine lv_iconst (v := 5) hx hb dX3_read_7 (by decide) ?_
  refine lv_istore_n (lv' := [(3, .int 5), (2, .int i0), (0, .ref o), (1, .int i0)]) hx hb dX3_read_8 rfl hl (by decide) rfl (fun ls hl => ?_)
  refine lv_iload_n hx hb dX3_read_9 rfl (lv_at hl 0 rfl) ?_
  refine lv_if_lt (tgt := 49) hx hb dX3_read_10 (by decide) (fun c1 => absurd c1 (by decide)) (fun c1 => ?_)
  refine lv_aload_n hx hb dX3_read_13 rfl (lv_at hl 2 rfl) ?_
  refine va_get (D := (dC, dI)) (ci := 3) (v := .ref op) (C := RX3) (T := TX3) (N := 6) hx hb hts hin3 hown hK hP 0 rfl rfl 1 (by decide) hw1 (fun _ h9 => h9) rfl dX3_read_14 ?_
  refine lv_iload_n hx hb dX3_read_17 rfl (lv_at hl 0 rfl) ?_
  refine lv_iload_n hx hb dX3_read_18 rfl (lv_at hl 1 rfl) ?_
  refine lv_bipush (v := 10) hx hb dX3_read_19 (by decide) ?_
  refine lv_irem hx hb dX3_read_21 (by decide) ?_
  refine va_iast hx hb hK hP hD hS 1 0 rfl rfl (vin (by decide) (by decide)) dX3_read_22 (fun H locs hP hD hS => ?_)
  replace hP : va_P (dC, dI) vwCl [(o, .inr (3, [.ref k, .ref op, .int 0, .ref oq, .ref ov, .ref os])), (op, .inl (cI, 6, .inl (upd (fun _ => 0) 5 (i0 - i0 / 10 * 10))))] H := hP
  replace hD : va_D A [(o, .inr (3, [.ref k, .ref op, .int 0, .ref oq, .ref ov, .ref os])), (op, .inl (cI, 6, .inl (upd (fun _ => 0) 5 (i0 - i0 / 10 * 10))))] := hD
  refine lv_aload_n hx hb dX3_read_23 rfl (lv_at hl 2 rfl) ?_
  refine lv_dup hx hb dX3_read_24 rfl ?_
  refine va_get (D := (dC, dI)) (ci := 3) (v := .int 0) (C := RX3) (T := TX3) (N := 6) hx hb hts hin3 hown hK hP 0 rfl rfl 2 (by decide) hw0 (fun _ h9 => h9) rfl dX3_read_25 ?_
  refine lv_aload_n hx hb dX3_read_28 rfl (lv_at hl 2 rfl) ?_
  refine va_get (D := (dC, dI)) (ci := 3) (v := .ref op) (C := RX3) (T := TX3) (N := 6) hx hb hts hin3 hown hK hP 0 rfl rfl 1 (by decide) hw1 (fun _ h9 => h9) rfl dX3_read_29 ?_
  refine lv_iload_n hx hb dX3_read_32 rfl (lv_at hl 0 rfl) ?_
  refine va_iald hx hb hK hP 1 0 rfl rfl (vin (by decide) (by decide)) dX3_read_33 ?_
  refine lv_topi (fun y2 e2 => ?_)
  obtain rfl : y2 = i0 - i0 / 10 * 10 := e2
  refine lv_iadd hx hb dX3_read_34 ?_
  refine lv_topi (fun y3 e3 => ?_)
  obtain rfl : y3 = i0 - i0 / 10 * 10 := e3.trans (by simp)
  refine va_put (D := (dC, dI)) (ci := 3) (v := .int (i0 - i0 / 10 * 10)) (ty := .int) (C := RX3) (T := TX3) (N := 6) hx hb hts hin3 tyX3 tyX3_ok nmX3 hown hK hP hD hS 0 rfl rfl 2 (by decide) hw0 (fun _ h9 => h9) rfl (by decide +kernel) rfl rfl (Nat.le_of_ble_eq_true rfl) dX3_read_35 (fun H locs hP hD hS => ?_)
  replace hP : va_P (dC, dI) vwCl [(o, .inr (3, [.ref k, .ref op, .int (i0 - i0 / 10 * 10), .ref oq, .ref ov, .ref os])), (op, .inl (cI, 6, .inl (upd (fun _ => 0) 5 (i0 - i0 / 10 * 10))))] H := hP
  replace hD : va_D A [(o, .inr (3, [.ref k, .ref op, .int (i0 - i0 / 10 * 10), .ref oq, .ref ov, .ref os])), (op, .inl (cI, 6, .inl (upd (fun _ => 0) 5 (i0 - i0 / 10 * 10))))] := hD
  refine lv_iload_n hx hb dX3_read_38 rfl (lv_at hl 1 rfl) ?_
  refine lv_bipush (v := 10) hx hb dX3_read_39 (by decide) ?_
  refine lv_idiv hx hb dX3_read_41 (by decide) ?_
  refine lv_istore_n (lv' := [(2, .int (i0 / 10)), (3, .int 5), (0, .ref o), (1, .int i0)]) hx hb dX3_read_42 rfl hl (by decide) rfl (fun ls hl => ?_)
  refine lv_iinc (v := 4) (lv' := [(3, .int 4), (2, .int (i0 / 10)), (0, .ref o), (1, .int i0)]) hx hb dX3_read_43 hl (k := 1) rfl (by decide) (by decide) rfl (fun ls hl => ?_)
  refine lv_goto (tgt := 9) hx hb dX3_read_46 (by decide) ?_
  refine lv_iload_n hx hb dX3_read_9 rfl (lv_at hl 0 rfl) ?_
  refine lv_if_lt (tgt := 49) hx hb dX3_read_10 (by decide) (fun c4 => absurd c4 (by decide)) (fun c4 => ?_)
  refine lv_aload_n hx hb dX3_read_13 rfl (lv_at hl 2 rfl) ?_
  refine va_get (D := (dC, dI)) (ci := 3) (v := .ref op) (C := RX3) (T := TX3) (N := 6) hx hb hts hin3 hown hK hP 0 rfl rfl 1 (by decide) hw1 (fun _ h9 => h9) rfl dX3_read_14 ?_
  refine lv_iload_n hx hb dX3_read_17 rfl (lv_at hl 0 rfl) ?_
  refine lv_iload_n hx hb dX3_read_18 rfl (lv_at hl 1 rfl) ?_
  refine lv_bipush (v := 10) hx hb dX3_read_19 (by decide) ?_
  refine lv_irem hx hb dX3_read_21 (by decide) ?_
  refine va_iast hx hb hK hP hD hS 1 0 rfl rfl (vin (by decide) (by decide)) dX3_read_22 (fun H locs hP hD hS => ?_)
  replace hP : va_P (dC, dI) vwCl [(o, .inr (3, [.ref k, .ref op, .int (i0 - i0 / 10 * 10), .ref oq, .ref ov, .ref os])), (op, .inl (cI, 6, .inl (upd (upd (fun _ => 0) 5 (i0 - i0 / 10 * 10)) 4 ((i0 / 10) - (i0 / 10) / 10 * 10))))] H := hP
  replace hD : va_D A [(o, .inr (3, [.ref k, .ref op, .int (i0 - i0 / 10 * 10), .ref oq, .ref ov, .ref os])), (op, .inl (cI, 6, .inl (upd (upd (fun _ => 0) 5 (i0 - i0 / 10 * 10)) 4 ((i0 / 10) - (i0 / 10) / 10 * 10))))] := hD
  refine lv_aload_n hx hb dX3_read_23 rfl (lv_at hl 2 rfl) ?_
  refine lv_dup hx hb dX3_read_24 rfl ?_
  refine va_get (D := (dC, dI)) (ci := 3) (v := .int (i0 - i0 / 10 * 10)) (C := RX3) (T := TX3) (N := 6) hx hb hts hin3 hown hK hP 0 rfl rfl 2 (by decide) hw0 (fun _ h9 => h9) rfl dX3_read_25 ?_
  refine lv_aload_n hx hb dX3_read_28 rfl (lv_at hl 2 rfl) ?_
  refine va_get (D := (dC, dI)) (ci := 3) (v := .ref op) (C := RX3) (T := TX3) (N := 6) hx hb hts hin3 hown hK hP 0 rfl rfl 1 (by decide) hw1 (fun _ h9 => h9) rfl dX3_read_29 ?_
  refine lv_iload_n hx hb dX3_read_32 rfl (lv_at hl 0 rfl) ?_
  refine va_iald hx hb hK hP 1 0 rfl rfl (vin (by decide) (by decide)) dX3_read_33 ?_
  refine lv_topi (fun y5 e5 => ?_)
  obtain rfl : y5 = (i0 / 10) - (i0 / 10) / 10 * 10 := e5
  refine lv_iadd hx hb dX3_read_34 ?_
  refine va_put (D := (dC, dI)) (ci := 3) (v := .int ((i0 - i0 / 10 * 10) + ((i0 / 10) - (i0 / 10) / 10 * 10))) (ty := .int) (C := RX3) (T := TX3) (N := 6) hx hb hts hin3 tyX3 tyX3_ok nmX3 hown hK hP hD hS 0 rfl rfl 2 (by decide) hw0 (fun _ h9 => h9) rfl (by decide +kernel) rfl rfl (Nat.le_of_ble_eq_true rfl) dX3_read_35 (fun H locs hP hD hS => ?_)
  replace hP : va_P (dC, dI) vwCl [(o, .inr (3, [.ref k, .ref op, .int ((i0 - i0 / 10 * 10) + ((i0 / 10) - (i0 / 10) / 10 * 10)), .ref oq, .ref ov, .ref os])), (op, .inl (cI, 6, .inl (upd (upd (fun _ => 0) 5 (i0 - i0 / 10 * 10)) 4 ((i0 / 10) - (i0 / 10) / 10 * 10))))] H := hP
  replace hD : va_D A [(o, .inr (3, [.ref k, .ref op, .int ((i0 - i0 / 10 * 10) + ((i0 / 10) - (i0 / 10) / 10 * 10)), .ref oq, .ref ov, .ref os])), (op, .inl (cI, 6, .inl (upd (upd (fun _ => 0) 5 (i0 - i0 / 10 * 10)) 4 ((i0 / 10) - (i0 / 10) / 10 * 10))))] := hD
  refine lv_iload_n hx hb dX3_read_38 rfl (lv_at hl 1 rfl) ?_
  refine lv_bipush (v := 10) hx hb dX3_read_39 (by decide) ?_
  refine lv_idiv hx hb dX3_read_41 (by decide) ?_
  refine lv_istore_n (lv' := [(2, .int ((i0 / 10) / 10)), (3, .int 4), (0, .ref o), (1, .int i0)]) hx hb dX3_read_42 rfl hl (by decide) rfl (fun ls hl => ?_)
  refine lv_iinc (v := 3) (lv' := [(3, .int 3), (2, .int ((i0 / 10) / 10)), (0, .ref o), (1, .int i0)]) hx hb dX3_read_43 hl (k := 1) rfl (by decide) (by decide) rfl (fun ls hl => ?_)
  refine lv_goto (tgt := 9) hx hb dX3_read_46 (by decide) ?_
  refine lv_iload_n hx hb dX3_read_9 rfl (lv_at hl 0 rfl) ?_
  refine lv_if_lt (tgt := 49) hx hb dX3_read_10 (by decide) (fun c6 => absurd c6 (by decide)) (fun c6 => ?_)
  refine lv_aload_n hx hb dX3_read_13 rfl (lv_at hl 2 rfl) ?_
  refine va_get (D := (dC, dI)) (ci := 3) (v := .ref op) (C := RX3) (T := TX3) (N := 6) hx hb hts hin3 hown hK hP 0 rfl rfl 1 (by decide) hw1 (fun _ h9 => h9) rfl dX3_read_14 ?_
  refine lv_iload_n hx hb dX3_read_17 rfl (lv_at hl 0 rfl) ?_
  refine lv_iload_n hx hb dX3_read_18 rfl (lv_at hl 1 rfl) ?_
  refine lv_bipush (v := 10) hx hb dX3_read_19 (by decide) ?_
  refine lv_irem hx hb dX3_read_21 (by decide) ?_
  refine va_iast hx hb hK hP hD hS 1 0 rfl rfl (vin (by decide) (by decide)) dX3_read_22 (fun H locs hP hD hS => ?_)
  replace hP : va_P (dC, dI) vwCl [(o, .inr (3, [.ref k, .ref op, .int ((i0 - i0 / 10 * 10) + ((i0 / 10) - (i0 / 10) / 10 * 10)), .ref oq, .ref ov, .ref os])), (op, .inl (cI, 6, .inl (upd (upd (upd (fun _ => 0) 5 (i0 - i0 / 10 * 10)) 4 ((i0 / 10) - (i0 / 10) / 10 * 10)) 3 (((i0 / 10) / 10) - ((i0 / 10) / 10) / 10 * 10))))] H := hP
  replace hD : va_D A [(o, .inr (3, [.ref k, .ref op, .int ((i0 - i0 / 10 * 10) + ((i0 / 10) - (i0 / 10) / 10 * 10)), .ref oq, .ref ov, .ref os])), (op, .inl (cI, 6, .inl (upd (upd (upd (fun _ => 0) 5 (i0 - i0 / 10 * 10)) 4 ((i0 / 10) - (i0 / 10) / 10 * 10)) 3 (((i0 / 10) / 10) - ((i0 / 10) / 10) / 10 * 10))))] := hD
  refine lv_aload_n hx hb dX3_read_23 rfl (lv_at hl 2 rfl) ?_
  refine lv_dup hx hb dX3_read_24 rfl ?_
  refine va_get (D := (dC, dI)) (ci := 3) (v := .int ((i0 - i0 / 10 * 10) + ((i0 / 10) - (i0 / 10) / 10 * 10))) (C := RX3) (T := TX3) (N := 6) hx hb hts hin3 hown hK hP 0 rfl rfl 2 (by decide) hw0 (fun _ h9 => h9) rfl dX3_read_25 ?_
  refine lv_aload_n hx hb dX3_read_28 rfl (lv_at hl 2 rfl) ?_
  refine va_get (D := (dC, dI)) (ci := 3) (v := .ref op) (C := RX3) (T := TX3) (N := 6) hx hb hts hin3 hown hK hP 0 rfl rfl 1 (by decide) hw1 (fun _ h9 => h9) rfl dX3_read_29 ?_
  refine lv_iload_n hx hb dX3_read_32 rfl (lv_at hl 0 rfl) ?_
  refine va_iald hx hb hK hP 1 0 rfl rfl (vin (by decide) (by decide)) dX3_read_33 ?_
  refine lv_topi (fun y7 e7 => ?_)
  obtain rfl : y7 = ((i0 / 10) / 10) - ((i0 / 10) / 10) / 10 * 10 := e7
  refine lv_iadd hx hb dX3_read_34 ?_
  refine va_put (D := (dC, dI)) (ci := 3) (v := .int (((i0 - i0 / 10 * 10) + ((i0 / 10) - (i0 / 10) / 10 * 10)) + (((i0 / 10) / 10) - ((i0 / 10) / 10) / 10 * 10))) (ty := .int) (C := RX3) (T := TX3) (N := 6) hx hb hts hin3 tyX3 tyX3_ok nmX3 hown hK hP hD hS 0 rfl rfl 2 (by decide) hw0 (fun _ h9 => h9) rfl (by decide +kernel) rfl rfl (Nat.le_of_ble_eq_true rfl) dX3_read_35 (fun H locs hP hD hS => ?_)
  replace hP : va_P (dC, dI) vwCl [(o, .inr (3, [.ref k, .ref op, .int (((i0 - i0 / 10 * 10) + ((i0 / 10) - (i0 / 10) / 10 * 10)) + (((i0 / 10) / 10) - ((i0 / 10) / 10) / 10 * 10)), .ref oq, .ref ov, .ref os])), (op, .inl (cI, 6, .inl (upd (upd (upd (fun _ => 0) 5 (i0 - i0 / 10 * 10)) 4 ((i0 / 10) - (i0 / 10) / 10 * 10)) 3 (((i0 / 10) / 10) - ((i0 / 10) / 10) / 10 * 10))))] H := hP
  replace hD : va_D A [(o, .inr (3, [.ref k, .ref op, .int (((i0 - i0 / 10 * 10) + ((i0 / 10) - (i0 / 10) / 10 * 10)) + (((i0 / 10) / 10) - ((i0 / 10) / 10) / 10 * 10)), .ref oq, .ref ov, .ref os])), (op, .inl (cI, 6, .inl (upd (upd (upd (fun _ => 0) 5 (i0 - i0 / 10 * 10)) 4 ((i0 / 10) - (i0 / 10) / 10 * 10)) 3 (((i0 / 10) / 10) - ((i0 / 10) / 10) / 10 * 10))))] := hD
  refine lv_iload_n hx hb dX3_read_38 rfl (lv_at hl 1 rfl) ?_
  refine lv_bipush (v := 10) hx hb dX3_read_39 (by decide) ?_
  refine lv_idiv hx hb dX3_read_41 (by decide) ?_
  refine lv_istore_n (lv' := [(2, .int (((i0 / 10) / 10) / 10)), (3, .int 3), (0, .ref o), (1, .int i0)]) hx hb dX3_read_42 rfl hl (by decide) rfl (fun ls hl => ?_)
  refine lv_iinc (v := 2) (lv' := [(3, .int 2), (2, .int (((i0 / 10) / 10) / 10)), (0, .ref o), (1, .int i0)]) hx hb dX3_read_43 hl (k := 1) rfl (by decide) (by decide) rfl (fun ls hl => ?_)
  refine lv_goto (tgt := 9) hx hb dX3_read_46 (by decide) ?_
  refine lv_iload_n hx hb dX3_read_9 rfl (lv_at hl 0 rfl) ?_
  refine lv_if_lt (tgt := 49) hx hb dX3_read_10 (by decide) (fun c8 => absurd c8 (by decide)) (fun c8 => ?_)
  refine lv_aload_n hx hb dX3_read_13 rfl (lv_at hl 2 rfl) ?_
  refine va_get (D := (dC, dI)) (ci := 3) (v := .ref op) (C := RX3) (T := TX3) (N := 6) hx hb hts hin3 hown hK hP 0 rfl rfl 1 (by decide) hw1 (fun _ h9 => h9) rfl dX3_read_14 ?_
  refine lv_iload_n hx hb dX3_read_17 rfl (lv_at hl 0 rfl) ?_
  refine lv_iload_n hx hb dX3_read_18 rfl (lv_at hl 1 rfl) ?_
  refine lv_bipush (v := 10) hx hb dX3_read_19 (by decide) ?_
  refine lv_irem hx hb dX3_read_21 (by decide) ?_
  refine va_iast hx hb hK hP hD hS 1 0 rfl rfl (vin (by decide) (by decide)) dX3_read_22 (fun H locs hP hD hS => ?_)
  replace hP : va_P (dC, dI) vwCl [(o, .inr (3, [.ref k, .ref op, .int (((i0 - i0 / 10 * 10) + ((i0 / 10) - (i0 / 10) / 10 * 10)) + (((i0 / 10) / 10) - ((i0 / 10) / 10) / 10 * 10)), .ref oq, .ref ov, .ref os])), (op, .inl (cI, 6, .inl (upd (upd (upd (upd (fun _ => 0) 5 (i0 - i0 / 10 * 10)) 4 ((i0 / 10) - (i0 / 10) / 10 * 10)) 3 (((i0 / 10) / 10) - ((i0 / 10) / 10) / 10 * 10)) 2 ((((i0 / 10) / 10) / 10) - (((i0 / 10) / 10) / 10) / 10 * 10))))] H := hP
  replace hD : va_D A [(o, .inr (3, [.ref k, .ref op, .int (((i0 - i0 / 10 * 10) + ((i0 / 10) - (i0 / 10) / 10 * 10)) + (((i0 / 10) / 10) - ((i0 / 10) / 10) / 10 * 10)), .ref oq, .ref ov, .ref os])), (op, .inl (cI, 6, .inl (upd (upd (upd (upd (fun _ => 0) 5 (i0 - i0 / 10 * 10)) 4 ((i0 / 10) - (i0 / 10) / 10 * 10)) 3 (((i0 / 10) / 10) - ((i0 / 10) / 10) / 10 * 10)) 2 ((((i0 / 10) / 10) / 10) - (((i0 / 10) / 10) / 10) / 10 * 10))))] := hD
  refine lv_aload_n hx hb dX3_read_23 rfl (lv_at hl 2 rfl) ?_
  refine lv_dup hx hb dX3_read_24 rfl ?_
  refine va_get (D := (dC, dI)) (ci := 3) (v := .int (((i0 - i0 / 10 * 10) + ((i0 / 10) - (i0 / 10) / 10 * 10)) + (((i0 / 10) / 10) - ((i0 / 10) / 10) / 10 * 10))) (C := RX3) (T := TX3) (N := 6) hx hb hts hin3 hown hK hP 0 rfl rfl 2 (by decide) hw0 (fun _ h9 => h9) rfl dX3_read_25 ?_
  refine lv_aload_n hx hb dX3_read_28 rfl (lv_at hl 2 rfl) ?_
  refine va_get (D := (dC, dI)) (ci := 3) (v := .ref op) (C := RX3) (T := TX3) (N := 6) hx hb hts hin3 hown hK hP 0 rfl rfl 1 (by decide) hw1 (fun _ h9 => h9) rfl dX3_read_29 ?_
  refine lv_iload_n hx hb dX3_read_32 rfl (lv_at hl 0 rfl) ?_
  refine va_iald hx hb hK hP 1 0 rfl rfl (vin (by decide) (by decide)) dX3_read_33 ?_
  refine lv_topi (fun y9 e9 => ?_)
  obtain rfl : y9 = (((i0 / 10) / 10) / 10) - (((i0 / 10) / 10) / 10) / 10 * 10 := e9
  refine lv_iadd hx hb dX3_read_34 ?_
  refine va_put (D := (dC, dI)) (ci := 3) (v := .int ((((i0 - i0 / 10 * 10) + ((i0 / 10) - (i0 / 10) / 10 * 10)) + (((i0 / 10) / 10) - ((i0 / 10) / 10) / 10 * 10)) + ((((i0 / 10) / 10) / 10) - (((i0 / 10) / 10) / 10) / 10 * 10))) (ty := .int) (C := RX3) (T := TX3) (N := 6) hx hb hts hin3 tyX3 tyX3_ok nmX3 hown hK hP hD hS 0 rfl rfl 2 (by decide) hw0 (fun _ h9 => h9) rfl (by decide +kernel) rfl rfl (Nat.le_of_ble_eq_true rfl) dX3_read_35 (fun H locs hP hD hS => ?_)
  replace hP : va_P (dC, dI) vwCl [(o, .inr (3, [.ref k, .ref op, .int ((((i0 - i0 / 10 * 10) + ((i0 / 10) - (i0 / 10) / 10 * 10)) + (((i0 / 10) / 10) - ((i0 / 10) / 10) / 10 * 10)) + ((((i0 / 10) / 10) / 10) - (((i0 / 10) / 10) / 10) / 10 * 10)), .ref oq, .ref ov, .ref os])), (op, .inl (cI, 6, .inl (upd (upd (upd (upd (fun _ => 0) 5 (i0 - i0 / 10 * 10)) 4 ((i0 / 10) - (i0 / 10) / 10 * 10)) 3 (((i0 / 10) / 10) - ((i0 / 10) / 10) / 10 * 10)) 2 ((((i0 / 10) / 10) / 10) - (((i0 / 10) / 10) / 10) / 10 * 10))))] H := hP
  replace hD : va_D A [(o, .inr (3, [.ref k, .ref op, .int ((((i0 - i0 / 10 * 10) + ((i0 / 10) - (i0 / 10) / 10 * 10)) + (((i0 / 10) / 10) - ((i0 / 10) / 10) / 10 * 10)) + ((((i0 / 10) / 10) / 10) - (((i0 / 10) / 10) / 10) / 10 * 10)), .ref oq, .ref ov, .ref os])), (op, .inl (cI, 6, .inl (upd (upd (upd (upd (fun _ => 0) 5 (i0 - i0 / 10 * 10)) 4 ((i0 / 10) - (i0 / 10) / 10 * 10)) 3 (((i0 / 10) / 10) - ((i0 / 10) / 10) / 10 * 10)) 2 ((((i0 / 10) / 10) / 10) - (((i0 / 10) / 10) / 10) / 10 * 10))))] := hD
  refine lv_iload_n hx hb dX3_read_38 rfl (lv_at hl 1 rfl) ?_
  refine lv_bipush (v := 10) hx hb dX3_read_39 (by decide) ?_
  refine lv_idiv hx hb dX3_read_41 (by decide) ?_
  refine lv_istore_n (lv' := [(2, .int ((((i0 / 10) / 10) / 10) / 10)), (3, .int 2), (0, .ref o), (1, .int i0)]) hx hb dX3_read_42 rfl hl (by decide) rfl (fun ls hl => ?_)
  refine lv_iinc (v := 1) (lv' := [(3, .int 1), (2, .int ((((i0 / 10) / 10) / 10) / 10)), (0, .ref o), (1, .int i0)]) hx hb dX3_read_43 hl (k := 1) rfl (by decide) (by decide) rfl (fun ls hl => ?_)
  refine lv_goto (tgt := 9) hx hb dX3_read_46 (by decide) ?_
  refine lv_iload_n hx hb dX3_read_9 rfl (lv_at hl 0 rfl) ?_
  refine lv_if_lt (tgt := 49) hx hb dX3_read_10 (by decide) (fun c10 => absurd c10 (by decide)) (fun c10 => ?_)
  refine lv_aload_n hx hb dX3_read_13 rfl (lv_at hl 2 rfl) ?_
  refine va_get (D := (dC, dI)) (ci := 3) (v := .ref op) (C := RX3) (T := TX3) (N := 6) hx hb hts hin3 hown hK hP 0 rfl rfl 1 (by decide) hw1 (fun _ h9 => h9) rfl dX3_read_14 ?_
  refine lv_iload_n hx hb dX3_read_17 rfl (lv_at hl 0 rfl) ?_
  refine lv_iload_n hx hb dX3_read_18 rfl (lv_at hl 1 rfl) ?_
  refine lv_bipush (v := 10) hx hb dX3_read_19 (by decide) ?_
  refine lv_irem hx hb dX3_read_21 (by decide) ?_
  refine va_iast hx hb hK hP hD hS 1 0 rfl rfl (vin (by decide) (by decide)) dX3_read_22 (fun H locs hP hD hS => ?_)
  replace hP : va_P (dC, dI) vwCl [(o, .inr (3, [.ref k, .ref op, .int ((((i0 - i0 / 10 * 10) + ((i0 / 10) - (i0 / 10) / 10 * 10)) + (((i0 / 10) / 10) - ((i0 / 10) / 10) / 10 * 10)) + ((((i0 / 10) / 10) / 10) - (((i0 / 10) / 10) / 10) / 10 * 10)), .ref oq, .ref ov, .ref os])), (op, .inl (cI, 6, .inl (upd (upd (upd (upd (upd (fun _ => 0) 5 (i0 - i0 / 10 * 10)) 4 ((i0 / 10) - (i0 / 10) / 10 * 10)) 3 (((i0 / 10) / 10) - ((i0 / 10) / 10) / 10 * 10)) 2 ((((i0 / 10) / 10) / 10) - (((i0 / 10) / 10) / 10) / 10 * 10)) 1 (((((i0 / 10) / 10) / 10) / 10) - ((((i0 / 10) / 10) / 10) / 10) / 10 * 10))))] H := hP
  replace hD : va_D A [(o, .inr (3, [.ref k, .ref op, .int ((((i0 - i0 / 10 * 10) + ((i0 / 10) - (i0 / 10) / 10 * 10)) + (((i0 / 10) / 10) - ((i0 / 10) / 10) / 10 * 10)) + ((((i0 / 10) / 10) / 10) - (((i0 / 10) / 10) / 10) / 10 * 10)), .ref oq, .ref ov, .ref os])), (op, .inl (cI, 6, .inl (upd (upd (upd (upd (upd (fun _ => 0) 5 (i0 - i0 / 10 * 10)) 4 ((i0 / 10) - (i0 / 10) / 10 * 10)) 3 (((i0 / 10) / 10) - ((i0 / 10) / 10) / 10 * 10)) 2 ((((i0 / 10) / 10) / 10) - (((i0 / 10) / 10) / 10) / 10 * 10)) 1 (((((i0 / 10) / 10) / 10) / 10) - ((((i0 / 10) / 10) / 10) / 10) / 10 * 10))))] := hD
  refine lv_aload_n hx hb dX3_read_23 rfl (lv_at hl 2 rfl) ?_
  refine lv_dup hx hb dX3_read_24 rfl ?_
  refine va_get (D := (dC, dI)) (ci := 3) (v := .int ((((i0 - i0 / 10 * 10) + ((i0 / 10) - (i0 / 10) / 10 * 10)) + (((i0 / 10) / 10) - ((i0 / 10) / 10) / 10 * 10)) + ((((i0 / 10) / 10) / 10) - (((i0 / 10) / 10) / 10) / 10 * 10))) (C := RX3) (T := TX3) (N := 6) hx hb hts hin3 hown hK hP 0 rfl rfl 2 (by decide) hw0 (fun _ h9 => h9) rfl dX3_read_25 ?_
  refine lv_aload_n hx hb dX3_read_28 rfl (lv_at hl 2 rfl) ?_
  refine va_get (D := (dC, dI)) (ci := 3) (v := .ref op) (C := RX3) (T := TX3) (N := 6) hx hb hts hin3 hown hK hP 0 rfl rfl 1 (by decide) hw1 (fun _ h9 => h9) rfl dX3_read_29 ?_
  refine lv_iload_n hx hb dX3_read_32 rfl (lv_at hl 0 rfl) ?_
  refine va_iald hx hb hK hP 1 0 rfl rfl (vin (by decide) (by decide)) dX3_read_33 ?_
  refine lv_topi (fun y11 e11 => ?_)
  obtain rfl : y11 = ((((i0 / 10) / 10) / 10) / 10) - ((((i0 / 10) / 10) / 10) / 10) / 10 * 10 := e11
  refine lv_iadd hx hb dX3_read_34 ?_
  refine va_put (D := (dC, dI)) (ci := 3) (v := .int (((((i0 - i0 / 10 * 10) + ((i0 / 10) - (i0 / 10) / 10 * 10)) + (((i0 / 10) / 10) - ((i0 / 10) / 10) / 10 * 10)) + ((((i0 / 10) / 10) / 10) - (((i0 / 10) / 10) / 10) / 10 * 10)) + (((((i0 / 10) / 10) / 10) / 10) - ((((i0 / 10) / 10) / 10) / 10) / 10 * 10))) (ty := .int) (C := RX3) (T := TX3) (N := 6) hx hb hts hin3 tyX3 tyX3_ok nmX3 hown hK hP hD hS 0 rfl rfl 2 (by decide) hw0 (fun _ h9 => h9) rfl (by decide +kernel) rfl rfl (Nat.le_of_ble_eq_true rfl) dX3_read_35 (fun H locs hP hD hS => ?_)
  replace hP : va_P (dC, dI) vwCl [(o, .inr (3, [.ref k, .ref op, .int (((((i0 - i0 / 10 * 10) + ((i0 / 10) - (i0 / 10) / 10 * 10)) + (((i0 / 10) / 10) - ((i0 / 10) / 10) / 10 * 10)) + ((((i0 / 10) / 10) / 10) - (((i0 / 10) / 10) / 10) / 10 * 10)) + (((((i0 / 10) / 10) / 10) / 10) - ((((i0 / 10) / 10) / 10) / 10) / 10 * 10)), .ref oq, .ref ov, .ref os])), (op, .inl (cI, 6, .inl (upd (upd (upd (upd (upd (fun _ => 0) 5 (i0 - i0 / 10 * 10)) 4 ((i0 / 10) - (i0 / 10) / 10 * 10)) 3 (((i0 / 10) / 10) - ((i0 / 10) / 10) / 10 * 10)) 2 ((((i0 / 10) / 10) / 10) - (((i0 / 10) / 10) / 10) / 10 * 10)) 1 (((((i0 / 10) / 10) / 10) / 10) - ((((i0 / 10) / 10) / 10) / 10) / 10 * 10))))] H := hP
  replace hD : va_D A [(o, .inr (3, [.ref k, .ref op, .int (((((i0 - i0 / 10 * 10) + ((i0 / 10) - (i0 / 10) / 10 * 10)) + (((i0 / 10) / 10) - ((i0 / 10) / 10) / 10 * 10)) + ((((i0 / 10) / 10) / 10) - (((i0 / 10) / 10) / 10) / 10 * 10)) + (((((i0 / 10) / 10) / 10) / 10) - ((((i0 / 10) / 10) / 10) / 10) / 10 * 10)), .ref oq, .ref ov, .ref os])), (op, .inl (cI, 6, .inl (upd (upd (upd (upd (upd (fun _ => 0) 5 (i0 - i0 / 10 * 10)) 4 ((i0 / 10) - (i0 / 10) / 10 * 10)) 3 (((i0 / 10) / 10) - ((i0 / 10) / 10) / 10 * 10)) 2 ((((i0 / 10) / 10) / 10) - (((i0 / 10) / 10) / 10) / 10 * 10)) 1 (((((i0 / 10) / 10) / 10) / 10) - ((((i0 / 10) / 10) / 10) / 10) / 10 * 10))))] := hD
  refine lv_iload_n hx hb dX3_read_38 rfl (lv_at hl 1 rfl) ?_
  refine lv_bipush (v := 10) hx hb dX3_read_39 (by decide) ?_
  refine lv_idiv hx hb dX3_read_41 (by decide) ?_
  refine lv_istore_n (lv' := [(2, .int (((((i0 / 10) / 10) / 10) / 10) / 10)), (3, .int 1), (0, .ref o), (1, .int i0)]) hx hb dX3_read_42 rfl hl (by decide) rfl (fun ls hl => ?_)
  refine lv_iinc (v := 0) (lv' := [(3, .int 0), (2, .int (((((i0 / 10) / 10) / 10) / 10) / 10)), (0, .ref o), (1, .int i0)]) hx hb dX3_read_43 hl (k := 1) rfl (by decide) (by decide) rfl (fun ls hl => ?_)
  refine lv_goto (tgt := 9) hx hb dX3_read_46 (by decide) ?_
  refine lv_iload_n hx hb dX3_read_9 rfl (lv_at hl 0 rfl) ?_
  refine lv_if_lt (tgt := 49) hx hb dX3_read_10 (by decide) (fun c12 => absurd c12 (by decide)) (fun c12 => ?_)
  refine lv_aload_n hx hb dX3_read_13 rfl (lv_at hl 2 rfl) ?_
  refine va_get (D := (dC, dI)) (ci := 3) (v := .ref op) (C := RX3) (T := TX3) (N := 6) hx hb hts hin3 hown hK hP 0 rfl rfl 1 (by decide) hw1 (fun _ h9 => h9) rfl dX3_read_14 ?_
  refine lv_iload_n hx hb dX3_read_17 rfl (lv_at hl 0 rfl) ?_
  refine lv_iload_n hx hb dX3_read_18 rfl (lv_at hl 1 rfl) ?_
  refine lv_bipush (v := 10) hx hb dX3_read_19 (by decide) ?_
  refine lv_irem hx hb dX3_read_21 (by decide) ?_
  refine va_iast hx hb hK hP hD hS 1 0 rfl rfl (vin (by decide) (by decide)) dX3_read_22 (fun H locs hP hD hS => ?_)
  replace hP : va_P (dC, dI) vwCl [(o, .inr (3, [.ref k, .ref op, .int (((((i0 - i0 / 10 * 10) + ((i0 / 10) - (i0 / 10) / 10 * 10)) + (((i0 / 10) / 10) - ((i0 / 10) / 10) / 10 * 10)) + ((((i0 / 10) / 10) / 10) - (((i0 / 10) / 10) / 10) / 10 * 10)) + (((((i0 / 10) / 10) / 10) / 10) - ((((i0 / 10) / 10) / 10) / 10) / 10 * 10)), .ref oq, .ref ov, .ref os])), (op, .inl (cI, 6, .inl (upd (upd (upd (upd (upd (upd (fun _ => 0) 5 (i0 - i0 / 10 * 10)) 4 ((i0 / 10) - (i0 / 10) / 10 * 10)) 3 (((i0 / 10) / 10) - ((i0 / 10) / 10) / 10 * 10)) 2 ((((i0 / 10) / 10) / 10) - (((i0 / 10) / 10) / 10) / 10 * 10)) 1 (((((i0 / 10) / 10) / 10) / 10) - ((((i0 / 10) / 10) / 10) / 10) / 10 * 10)) 0 ((((((i0 / 10) / 10) / 10) / 10) / 10) - (((((i0 / 10) / 10) / 10) / 10) / 10) / 10 * 10))))] H := hP
  replace hD : va_D A [(o, .inr (3, [.ref k, .ref op, .int (((((i0 - i0 / 10 * 10) + ((i0 / 10) - (i0 / 10) / 10 * 10)) + (((i0 / 10) / 10) - ((i0 / 10) / 10) / 10 * 10)) + ((((i0 / 10) / 10) / 10) - (((i0 / 10) / 10) / 10) / 10 * 10)) + (((((i0 / 10) / 10) / 10) / 10) - ((((i0 / 10) / 10) / 10) / 10) / 10 * 10)), .ref oq, .ref ov, .ref os])), (op, .inl (cI, 6, .inl (upd (upd (upd (upd (upd (upd (fun _ => 0) 5 (i0 - i0 / 10 * 10)) 4 ((i0 / 10) - (i0 / 10) / 10 * 10)) 3 (((i0 / 10) / 10) - ((i0 / 10) / 10) / 10 * 10)) 2 ((((i0 / 10) / 10) / 10) - (((i0 / 10) / 10) / 10) / 10 * 10)) 1 (((((i0 / 10) / 10) / 10) / 10) - ((((i0 / 10) / 10) / 10) / 10) / 10 * 10)) 0 ((((((i0 / 10) / 10) / 10) / 10) / 10) - (((((i0 / 10) / 10) / 10) / 10) / 10) / 10 * 10))))] := hD
  refine lv_aload_n hx hb dX3_read_23 rfl (lv_at hl 2 rfl) ?_
  refine lv_dup hx hb dX3_read_24 rfl ?_
  refine va_get (D := (dC, dI)) (ci := 3) (v := .int (((((i0 - i0 / 10 * 10) + ((i0 / 10) - (i0 / 10) / 10 * 10)) + (((i0 / 10) / 10) - ((i0 / 10) / 10) / 10 * 10)) + ((((i0 / 10) / 10) / 10) - (((i0 / 10) / 10) / 10) / 10 * 10)) + (((((i0 / 10) / 10) / 10) / 10) - ((((i0 / 10) / 10) / 10) / 10) / 10 * 10))) (C := RX3) (T := TX3) (N := 6) hx hb hts hin3 hown hK hP 0 rfl rfl 2 (by decide) hw0 (fun _ h9 => h9) rfl dX3_read_25 ?_
  refine lv_aload_n hx hb dX3_read_28 rfl (lv_at hl 2 rfl) ?_
  refine va_get (D := (dC, dI)) (ci := 3) (v := .ref op) (C := RX3) (T := TX3) (N := 6) hx hb hts hin3 hown hK hP 0 rfl rfl 1 (by decide) hw1 (fun _ h9 => h9) rfl dX3_read_29 ?_
  refine lv_iload_n hx hb dX3_read_32 rfl (lv_at hl 0 rfl) ?_
  refine va_iald hx hb hK hP 1 0 rfl rfl (vin (by decide) (by decide)) dX3_read_33 ?_
  refine lv_topi (fun y13 e13 => ?_)
  obtain rfl : y13 = (((((i0 / 10) / 10) / 10) / 10) / 10) - (((((i0 / 10) / 10) / 10) / 10) / 10) / 10 * 10 := e13
  refine lv_iadd hx hb dX3_read_34 ?_
  refine va_put (D := (dC, dI)) (ci := 3) (v := .int ((((((i0 - i0 / 10 * 10) + ((i0 / 10) - (i0 / 10) / 10 * 10)) + (((i0 / 10) / 10) - ((i0 / 10) / 10) / 10 * 10)) + ((((i0 / 10) / 10) / 10) - (((i0 / 10) / 10) / 10) / 10 * 10)) + (((((i0 / 10) / 10) / 10) / 10) - ((((i0 / 10) / 10) / 10) / 10) / 10 * 10)) + ((((((i0 / 10) / 10) / 10) / 10) / 10) - (((((i0 / 10) / 10) / 10) / 10) / 10) / 10 * 10))) (ty := .int) (C := RX3) (T := TX3) (N := 6) hx hb hts hin3 tyX3 tyX3_ok nmX3 hown hK hP hD hS 0 rfl rfl 2 (by decide) hw0 (fun _ h9 => h9) rfl (by decide +kernel) rfl rfl (Nat.le_of_ble_eq_true rfl) dX3_read_35 (fun H locs hP hD hS => ?_)
  replace hP : va_P (dC, dI) vwCl [(o, .inr (3, [.ref k, .ref op, .int ((((((i0 - i0 / 10 * 10) + ((i0 / 10) - (i0 / 10) / 10 * 10)) + (((i0 / 10) / 10) - ((i0 / 10) / 10) / 10 * 10)) + ((((i0 / 10) / 10) / 10) - (((i0 / 10) / 10) / 10) / 10 * 10)) + (((((i0 / 10) / 10) / 10) / 10) - ((((i0 / 10) / 10) / 10) / 10) / 10 * 10)) + ((((((i0 / 10) / 10) / 10) / 10) / 10) - (((((i0 / 10) / 10) / 10) / 10) / 10) / 10 * 10)), .ref oq, .ref ov, .ref os])), (op, .inl (cI, 6, .inl (upd (upd (upd (upd (upd (upd (fun _ => 0) 5 (i0 - i0 / 10 * 10)) 4 ((i0 / 10) - (i0 / 10) / 10 * 10)) 3 (((i0 / 10) / 10) - ((i0 / 10) / 10) / 10 * 10)) 2 ((((i0 / 10) / 10) / 10) - (((i0 / 10) / 10) / 10) / 10 * 10)) 1 (((((i0 / 10) / 10) / 10) / 10) - ((((i0 / 10) / 10) / 10) / 10) / 10 * 10)) 0 ((((((i0 / 10) / 10) / 10) / 10) / 10) - (((((i0 / 10) / 10) / 10) / 10) / 10) / 10 * 10))))] H := hP
  replace hD : va_D A [(o, .inr (3, [.ref k, .ref op, .int ((((((i0 - i0 / 10 * 10) + ((i0 / 10) - (i0 / 10) / 10 * 10)) + (((i0 / 10) / 10) - ((i0 / 10) / 10) / 10 * 10)) + ((((i0 / 10) / 10) / 10) - (((i0 / 10) / 10) / 10) / 10 * 10)) + (((((i0 / 10) / 10) / 10) / 10) - ((((i0 / 10) / 10) / 10) / 10) / 10 * 10)) + ((((((i0 / 10) / 10) / 10) / 10) / 10) - (((((i0 / 10) / 10) / 10) / 10) / 10) / 10 * 10)), .ref oq, .ref ov, .ref os])), (op, .inl (cI, 6, .inl (upd (upd (upd (upd (upd (upd (fun _ => 0) 5 (i0 - i0 / 10 * 10)) 4 ((i0 / 10) - (i0 / 10) / 10 * 10)) 3 (((i0 / 10) / 10) - ((i0 / 10) / 10) / 10 * 10)) 2 ((((i0 / 10) / 10) / 10) - (((i0 / 10) / 10) / 10) / 10 * 10)) 1 (((((i0 / 10) / 10) / 10) / 10) - ((((i0 / 10) / 10) / 10) / 10) / 10 * 10)) 0 ((((((i0 / 10) / 10) / 10) / 10) / 10) - (((((i0 / 10) / 10) / 10) / 10) / 10) / 10 * 10))))] := hD
  refine lv_iload_n hx hb dX3_read_38 rfl (lv_at hl 1 rfl) ?_
  refine lv_bipush (v := 10) hx hb dX3_read_39 (by decide) ?_
  refine lv_idiv hx hb dX3_read_41 (by decide) ?_
  refine lv_istore_n (lv' := [(2, .int ((((((i0 / 10) / 10) / 10) / 10) / 10) / 10)), (3, .int 0), (0, .ref o), (1, .int i0)]) hx hb dX3_read_42 rfl hl (by decide) rfl (fun ls hl => ?_)
  refine lv_iinc (v := (-1)) (lv' := [(3, .int (-1)), (2, .int ((((((i0 / 10) / 10) / 10) / 10) / 10) / 10)), (0, .ref o), (1, .int i0)]) hx hb dX3_read_43 hl (k := 1) rfl (by decide) (by decide) rfl (fun ls hl => ?_)
  refine lv_goto (tgt := 9) hx hb dX3_read_46 (by decide) ?_
  refine lv_iload_n hx hb dX3_read_9 rfl (lv_at hl 0 rfl) ?_
  refine lv_if_lt (tgt := 49) hx hb dX3_read_10 (by decide) (fun c14 => ?_) (fun c14 => absurd c14 (by decide))
  have hP9 := mx_subP (wc := [(o, .inr (3, [.ref k, .ref op, .int ((((((i0 - i0 / 10 * 10) + ((i0 / 10) - (i0 / 10) / 10 * 10)) + (((i0 / 10) / 10) - ((i0 / 10) / 10) / 10 * 10)) + ((((i0 / 10) / 10) / 10) - (((i0 / 10) / 10) / 10) / 10 * 10)) + (((((i0 / 10) / 10) / 10) / 10) - ((((i0 / 10) / 10) / 10) / 10) / 10 * 10)) + ((((((i0 / 10) / 10) / 10) / 10) / 10) - (((((i0 / 10) / 10) / 10) / 10) / 10) / 10 * 10)), .ref oq, .ref ov, .ref os])), (op, .inl (cI, 6, .inl (upd (upd (upd (upd (upd (upd (fun _ => 0) 5 (i0 - i0 / 10 * 10)) 4 ((i0 / 10) - (i0 / 10) / 10 * 10)) 3 (((i0 / 10) / 10) - ((i0 / 10) / 10) / 10 * 10)) 2 ((((i0 / 10) / 10) / 10) - (((i0 / 10) / 10) / 10) / 10 * 10)) 1 (((((i0 / 10) / 10) / 10) / 10) - ((((i0 / 10) / 10) / 10) / 10) / 10 * 10)) 0 ((((((i0 / 10) / 10) / 10) / 10) / 10) - (((((i0 / 10) / 10) / 10) / 10) / 10) / 10 * 10))))]) hP [0, 1] rfl
  have hD9 := hD.sub (ws' := [(o, .inr (3, [.ref k, .ref op, .int ((((((i0 - i0 / 10 * 10) + ((i0 / 10) - (i0 / 10) / 10 * 10)) + (((i0 / 10) / 10) - ((i0 / 10) / 10) / 10 * 10)) + ((((i0 / 10) / 10) / 10) - (((i0 / 10) / 10) / 10) / 10 * 10)) + (((((i0 / 10) / 10) / 10) / 10) - ((((i0 / 10) / 10) / 10) / 10) / 10 * 10)) + ((((((i0 / 10) / 10) / 10) / 10) / 10) - (((((i0 / 10) / 10) / 10) / 10) / 10) / 10 * 10)), .ref oq, .ref ov, .ref os])), (op, .inl (cI, 6, .inl (upd (upd (upd (upd (upd (upd (fun _ => 0) 5 (i0 - i0 / 10 * 10)) 4 ((i0 / 10) - (i0 / 10) / 10 * 10)) 3 (((i0 / 10) / 10) - ((i0 / 10) / 10) / 10 * 10)) 2 ((((i0 / 10) / 10) / 10) - (((i0 / 10) / 10) / 10) / 10 * 10)) 1 (((((i0 / 10) / 10) / 10) / 10) - ((((i0 / 10) / 10) / 10) / 10) / 10 * 10)) 0 ((((((i0 / 10) / 10) / 10) / 10) / 10) - (((((i0 / 10) / 10) / 10) / 10) / 10) / 10 * 10))))]) [0, 1] (by decide) rfl
  exact W.vret hx hb hr (fun t ht hW => ⟨⟨(), rfl, trivial, by rw [ht]; exact hP9, hD9⟩, hS.F ht⟩) hS.2.2 dX3_read_49
set_option maxHeartbeats 4000000 in
set_option maxRecDepth 100000 in
theorem c_X3_isOfMealsThatAreN (l : Launch) (dC : Nat → ClassId) (dI : Nat → Nat → Nat) (cI cZ cK : ClassId) (tS aK aV : Nat) (o : Nat) (k : Nat) (ks : Nat) (kw : Nat) (kc : Nat) (kq : Nat) (km : Nat) (kd : Nat) (ka : Nat) (kk : Nat) (op : Nat) (oq : Nat) (ov : Nat) (os : Nat) (fp : Nat → Int32) (i9 : Int32) (sz : Nat) : Ci l yX3_isOfMealsThatAre (wq yX3_isOfMealsThatAre cX3_isOfMealsThatAre 2 (some .boolean)) ({ frames := 2, cells := 0, slots := 0, locals := 43 }) dC dI cI cZ cK tS aK aV [.ref o] sz [(o, .inr (3, [.ref k, .ref op, .int i9, .ref oq, .ref ov, .ref os])), (op, .inl (cI, 6, .inl fp)), (k, .inr (0, [.ref ks, .ref kw, .ref kc, .int (-6), .int 0, .int 0, .ref kq, .ref km, .ref kd, .int 0, .ref ka, .ref kk]))] (fun (r : Int32) (_ : Unit) => (r = 0 ∧ (0 < (fp 0).toInt ∨ 0 < (fp 1).toInt ∨ 0 < (fp 2).toInt ∨ 0 < (fp 3).toInt ∨ 0 < (fp 4).toInt ∨ 0 < (fp 5).toInt)) ∨ (r = 1 ∧ ((fp 0).toInt ≤ 0 ∧ (fp 1).toInt ≤ 0 ∧ (fp 2).toInt ≤ 0 ∧ (fp 3).toInt ≤ 0 ∧ (fp 4).toInt ≤ 0 ∧ (fp 5).toInt ≤ 0))) (fun _ => [(o, .inr (3, [.ref k, .ref op, .int i9, .ref oq, .ref ov, .ref os])), (op, .inl (cI, 6, .inl fp)), (k, .inr (0, [.ref ks, .ref kw, .ref kc, .int (-6), .int 0, .int 0, .ref kq, .ref km, .ref kd, .int 0, .ref ka, .ref kk]))]) := by
  refine Met.ofW (cc := cX3_isOfMealsThatAre) (maxL := 2) (ret := (some .boolean)) (by decide) rfl ?_
  intro p e s m args below meth c s₁ B hml hv
  obtain ⟨rfl, hsz, hP, hKx, hD0⟩ := hv
  have hx := B.exec
  have hb := B.bytes
  have hr := B.returns
  have hts := atoms_spec (ws := wq yX3_isOfMealsThatAre cX3_isOfMealsThatAre 2 (some .boolean)) B.pre
  have hown : s.vm.findClass RX3 = some m.cls := findClass_of_methodNamed B.named
  have hlocks := B.notSynchronized
  subst hsz
  have hD := hD0.self (sz := s.heap.size)
  generalize hAe : va_A [(o, .inr (3, [.ref k, .ref op, .int i9, .ref oq, .ref ov, .ref os])), (op, .inl (cI, 6, .inl fp)), (k, .inr (0, [.ref ks, .ref kw, .ref kc, .int (-6), .int 0, .int 0, .ref kq, .ref km, .ref kd, .int 0, .ref ka, .ref kk]))] s.heap.size = A at hD hKx ⊢
  have hA : ∀ q : Nat, s.heap.size ≤ q → A q := fun q h => by rw [← hAe]; exact Or.inr h
  have hS : va_S A s.heap s.heap [] := va_S.rf
  have hP : va_P (dC, dI) vwCl [(o, .inr (3, [.ref k, .ref op, .int i9, .ref oq, .ref ov, .ref os])), (op, .inl (cI, 6, .inl fp)), (k, .inr (0, [.ref ks, .ref kw, .ref kc, .int (-6), .int 0, .int 0, .ref kq, .ref km, .ref kd, .int 0, .ref ka, .ref kk]))] s.heap := hP
  have hl := lv_entry ([.ref o]) (n := 2) (Nat.le_of_ble_eq_true rfl)
  rw [lg_entry_eq]
  generalize (lg_sl ([.ref o]) ++ List.replicate (2 - (lg_sl ([.ref o])).length) Slot.unset).toArray = ls at hl ⊢
  have hl : lv_has ls 2 [(0, .ref o)] := hl
  have hK := hKx.1
  have hin3 := fun w9 h9 => List.mem_cons_of_mem (Cond.code yX3_isOfMealsThatAre cX3_isOfMealsThatAre 2 (some .boolean)) (inlX3 w9 h9)
  have hw0 := hts (.fieldLink RX3 9 "OneCan$Order" "portions" "[I") (List.mem_cons_of_mem _ wm_140)
  have hw1 := hts (.fieldLink RX3 24 "OneCan$Order" "camp" "LOneCan$Camp;") (List.mem_cons_of_mem _ wm_167)
  refine lv_iconst (v := 0) hx hb dX3_isOfMealsThatAre_0 (by decide) ?_
  refine lv_istore_n (lv' := [(1, .int 0), (0, .ref o)]) hx hb dX3_isOfMealsThatAre_1 rfl hl (by decide) rfl (fun ls hl => ?_)
  refine lv_iload_n hx hb dX3_isOfMealsThatAre_2 rfl (lv_at hl 0 rfl) ?_
  refine lv_bipush (v := 6) hx hb dX3_isOfMealsThatAre_3 (by decide) ?_
  refine lv_icmp_ge (tgt := 36) hx hb dX3_isOfMealsThatAre_5 (by decide) (fun c1 => absurd c1 (by decide)) (fun c1 => ?_)
  refine lv_aload_n hx hb dX3_isOfMealsThatAre_8 rfl (lv_at hl 1 rfl) ?_
  refine va_get (D := (dC, dI)) (ci := 3) (v := .ref op) (C := RX3) (T := TX3) (N := 6) hx hb hts hin3 hown hK hP 0 rfl rfl 1 (by decide) hw0 (fun _ h9 => h9) rfl dX3_isOfMealsThatAre_9 ?_
  refine lv_iload_n hx hb dX3_isOfMealsThatAre_12 rfl (lv_at hl 0 rfl) ?_
  refine va_iald hx hb hK hP 1 0 rfl rfl (vin (by decide) (by decide)) dX3_isOfMealsThatAre_13 ?_
  refine lv_topi (fun y2 e2 => ?_)
  obtain rfl : y2 = fp 0 := e2
  refine lv_if_le (tgt := 30) hx hb dX3_isOfMealsThatAre_14 (by decide) (fun c3 => ?_) (fun c3 => ?_)
  · have t3 : (fp 0).toInt ≤ (0 : Int) := (tle c3)
    refine lv_iinc (v := 1) (lv' := [(1, .int 1), (0, .ref o)]) hx hb dX3_isOfMealsThatAre_30 hl (k := 0) rfl (by decide) (by decide) rfl (fun ls hl => ?_)
    refine lv_goto (tgt := 2) hx hb dX3_isOfMealsThatAre_33 (by decide) ?_
    refine lv_iload_n hx hb dX3_isOfMealsThatAre_2 rfl (lv_at hl 0 rfl) ?_
    refine lv_bipush (v := 6) hx hb dX3_isOfMealsThatAre_3 (by decide) ?_
    refine lv_icmp_ge (tgt := 36) hx hb dX3_isOfMealsThatAre_5 (by decide) (fun c4 => absurd c4 (by decide)) (fun c4 => ?_)
    refine lv_aload_n hx hb dX3_isOfMealsThatAre_8 rfl (lv_at hl 1 rfl) ?_
    refine va_get (D := (dC, dI)) (ci := 3) (v := .ref op) (C := RX3) (T := TX3) (N := 6) hx hb hts hin3 hown hK hP 0 rfl rfl 1 (by decide) hw0 (fun _ h9 => h9) rfl dX3_isOfMealsThatAre_9 ?_
    refine lv_iload_n hx hb dX3_isOfMealsThatAre_12 rfl (lv_at hl 0 rfl) ?_
    refine va_iald hx hb hK hP 1 0 rfl rfl (vin (by decide) (by decide)) dX3_isOfMealsThatAre_13 ?_
    refine lv_topi (fun y5 e5 => ?_)
    obtain rfl : y5 = fp 1 := e5
    refine lv_if_le (tgt := 30) hx hb dX3_isOfMealsThatAre_14 (by decide) (fun c6 => ?_) (fun c6 => ?_)
    · have t6 : (fp 1).toInt ≤ (0 : Int) := (tle c6)
      refine lv_iinc (v := 2) (lv' := [(1, .int 2), (0, .ref o)]) hx hb dX3_isOfMealsThatAre_30 hl (k := 0) rfl (by decide) (by decide) rfl (fun ls hl => ?_)
      refine lv_goto (tgt := 2) hx hb dX3_isOfMealsThatAre_33 (by decide) ?_
      refine lv_iload_n hx hb dX3_isOfMealsThatAre_2 rfl (lv_at hl 0 rfl) ?_
      refine lv_bipush (v := 6) hx hb dX3_isOfMealsThatAre_3 (by decide) ?_
      refine lv_icmp_ge (tgt := 36) hx hb dX3_isOfMealsThatAre_5 (by decide) (fun c7 => absurd c7 (by decide)) (fun c7 => ?_)
      refine lv_aload_n hx hb dX3_isOfMealsThatAre_8 rfl (lv_at hl 1 rfl) ?_
      refine va_get (D := (dC, dI)) (ci := 3) (v := .ref op) (C := RX3) (T := TX3) (N := 6) hx hb hts hin3 hown hK hP 0 rfl rfl 1 (by decide) hw0 (fun _ h9 => h9) rfl dX3_isOfMealsThatAre_9 ?_
      refine lv_iload_n hx hb dX3_isOfMealsThatAre_12 rfl (lv_at hl 0 rfl) ?_
      refine va_iald hx hb hK hP 1 0 rfl rfl (vin (by decide) (by decide)) dX3_isOfMealsThatAre_13 ?_
      refine lv_topi (fun y8 e8 => ?_)
      obtain rfl : y8 = fp 2 := e8
      refine lv_if_le (tgt := 30) hx hb dX3_isOfMealsThatAre_14 (by decide) (fun c9 => ?_) (fun c9 => ?_)
      · have t9 : (fp 2).toInt ≤ (0 : Int) := (tle c9)
        refine lv_iinc (v := 3) (lv' := [(1, .int 3), (0, .ref o)]) hx hb dX3_isOfMealsThatAre_30 hl (k := 0) rfl (by decide) (by decide) rfl (fun ls hl => ?_)
        refine lv_goto (tgt := 2) hx hb dX3_isOfMealsThatAre_33 (by decide) ?_
        refine lv_iload_n hx hb dX3_isOfMealsThatAre_2 rfl (lv_at hl 0 rfl) ?_
        refine lv_bipush (v := 6) hx hb dX3_isOfMealsThatAre_3 (by decide) ?_
        refine lv_icmp_ge (tgt := 36) hx hb dX3_isOfMealsThatAre_5 (by decide) (fun c10 => absurd c10 (by decide)) (fun c10 => ?_)
        refine lv_aload_n hx hb dX3_isOfMealsThatAre_8 rfl (lv_at hl 1 rfl) ?_
        refine va_get (D := (dC, dI)) (ci := 3) (v := .ref op) (C := RX3) (T := TX3) (N := 6) hx hb hts hin3 hown hK hP 0 rfl rfl 1 (by decide) hw0 (fun _ h9 => h9) rfl dX3_isOfMealsThatAre_9 ?_
        refine lv_iload_n hx hb dX3_isOfMealsThatAre_12 rfl (lv_at hl 0 rfl) ?_
        refine va_iald hx hb hK hP 1 0 rfl rfl (vin (by decide) (by decide)) dX3_isOfMealsThatAre_13 ?_
        refine lv_topi (fun y11 e11 => ?_)
        obtain rfl : y11 = fp 3 := e11
        refine lv_if_le (tgt := 30) hx hb dX3_isOfMealsThatAre_14 (by decide) (fun c12 => ?_) (fun c12 => ?_)
        · have t12 : (fp 3).toInt ≤ (0 : Int) := (tle c12)
          refine lv_iinc (v := 4) (lv' := [(1, .int 4), (0, .ref o)]) hx hb dX3_isOfMealsThatAre_30 hl (k := 0) rfl (by decide) (by decide) rfl (fun ls hl => ?_)
          refine lv_goto (tgt := 2) hx hb dX3_isOfMealsThatAre_33 (by decide) ?_
          refine lv_iload_n hx hb dX3_isOfMealsThatAre_2 rfl (lv_at hl 0 rfl) ?_
          refine lv_bipush (v := 6) hx hb dX3_isOfMealsThatAre_3 (by decide) ?_
          refine lv_icmp_ge (tgt := 36) hx hb dX3_isOfMealsThatAre_5 (by decide) (fun c13 => absurd c13 (by decide)) (fun c13 => ?_)
          refine lv_aload_n hx hb dX3_isOfMealsThatAre_8 rfl (lv_at hl 1 rfl) ?_
          refine va_get (D := (dC, dI)) (ci := 3) (v := .ref op) (C := RX3) (T := TX3) (N := 6) hx hb hts hin3 hown hK hP 0 rfl rfl 1 (by decide) hw0 (fun _ h9 => h9) rfl dX3_isOfMealsThatAre_9 ?_
          refine lv_iload_n hx hb dX3_isOfMealsThatAre_12 rfl (lv_at hl 0 rfl) ?_
          refine va_iald hx hb hK hP 1 0 rfl rfl (vin (by decide) (by decide)) dX3_isOfMealsThatAre_13 ?_
          refine lv_topi (fun y14 e14 => ?_)
          obtain rfl : y14 = fp 4 := e14
          refine lv_if_le (tgt := 30) hx hb dX3_isOfMealsThatAre_14 (by decide) (fun c15 => ?_) (fun c15 => ?_)
          · have t15 : (fp 4).toInt ≤ (0 : Int) := (tle c15)
            refine lv_iinc (v := 5) (lv' := [(1, .int 5), (0, .ref o)]) hx hb dX3_isOfMealsThatAre_30 hl (k := 0) rfl (by decide) (by decide) rfl (fun ls hl => ?_)
            refine lv_goto (tgt := 2) hx hb dX3_isOfMealsThatAre_33 (by decide) ?_
            refine lv_iload_n hx hb dX3_isOfMealsThatAre_2 rfl (lv_at hl 0 rfl) ?_
            refine lv_bipush (v := 6) hx hb dX3_isOfMealsThatAre_3 (by decide) ?_
            refine lv_icmp_ge (tgt := 36) hx hb dX3_isOfMealsThatAre_5 (by decide) (fun c16 => absurd c16 (by decide)) (fun c16 => ?_)
            refine lv_aload_n hx hb dX3_isOfMealsThatAre_8 rfl (lv_at hl 1 rfl) ?_
            refine va_get (D := (dC, dI)) (ci := 3) (v := .ref op) (C := RX3) (T := TX3) (N := 6) hx hb hts hin3 hown hK hP 0 rfl rfl 1 (by decide) hw0 (fun _ h9 => h9) rfl dX3_isOfMealsThatAre_9 ?_
            refine lv_iload_n hx hb dX3_isOfMealsThatAre_12 rfl (lv_at hl 0 rfl) ?_
            refine va_iald hx hb hK hP 1 0 rfl rfl (vin (by decide) (by decide)) dX3_isOfMealsThatAre_13 ?_
            refine lv_topi (fun y17 e17 => ?_)
            obtain rfl : y17 = fp 5 := e17
            refine lv_if_le (tgt := 30) hx hb dX3_isOfMealsThatAre_14 (by decide) (fun c18 => ?_) (fun c18 => ?_)
            · have t18 : (fp 5).toInt ≤ (0 : Int) := (tle c18)
              refine lv_iinc (v := 6) (lv' := [(1, .int 6), (0, .ref o)]) hx hb dX3_isOfMealsThatAre_30 hl (k := 0) rfl (by decide) (by decide) rfl (fun ls hl => ?_)
              refine lv_goto (tgt := 2) hx hb dX3_isOfMealsThatAre_33 (by decide) ?_
              refine lv_iload_n hx hb dX3_isOfMealsThatAre_2 rfl (lv_at hl 0 rfl) ?_
              refine lv_bipush (v := 6) hx hb dX3_isOfMealsThatAre_3 (by decide) ?_
              refine lv_icmp_ge (tgt := 36) hx hb dX3_isOfMealsThatAre_5 (by decide) (fun c19 => ?_) (fun c19 => absurd c19 (by decide))
              refine lv_iconst (v := 1) hx hb dX3_isOfMealsThatAre_36 (by decide) ?_
              have hP9 := mx_subP (wc := [(o, .inr (3, [.ref k, .ref op, .int i9, .ref oq, .ref ov, .ref os])), (op, .inl (cI, 6, .inl fp)), (k, .inr (0, [.ref ks, .ref kw, .ref kc, .int (-6), .int 0, .int 0, .ref kq, .ref km, .ref kd, .int 0, .ref ka, .ref kk]))]) hP [0, 1, 2] rfl
              have hD9 := hD.sub (ws' := [(o, .inr (3, [.ref k, .ref op, .int i9, .ref oq, .ref ov, .ref os])), (op, .inl (cI, 6, .inl fp)), (k, .inr (0, [.ref ks, .ref kw, .ref kc, .int (-6), .int 0, .int 0, .ref kq, .ref km, .ref kd, .int 0, .ref ka, .ref kk]))]) [0, 1, 2] (by decide) rfl
              exact W.zret (v := 1) hx hb hr rfl (fun t ht hW => ⟨⟨1, (), rfl, (by first | exact Or.inl (⟨rfl, by omega⟩) | exact Or.inr (⟨rfl, by omega⟩)), by rw [ht]; exact hP9, hD9⟩, hS.F ht⟩) hS.2.2 dX3_isOfMealsThatAre_37
            · have t18 : (0 : Int) < (fp 5).toInt := (tnle c18)
              refine lv_aload_n hx hb dX3_isOfMealsThatAre_17 rfl (lv_at hl 1 rfl) ?_
              refine va_get (D := (dC, dI)) (ci := 3) (v := .ref k) (C := RX3) (T := TX3) (N := 6) hx hb hts hin3 hown hK hP 0 rfl rfl 0 (by decide) hw1 (fun _ h9 => h9) rfl dX3_isOfMealsThatAre_18 ?_
              refine lv_iload_n hx hb dX3_isOfMealsThatAre_21 rfl (lv_at hl 0 rfl) ?_
              refine mx_i (wr := [(o, .inr (3, [.ref k, .ref op, .int i9, .ref oq, .ref ov, .ref os])), (op, .inl (cI, 6, .inl fp))]) (va_runV (As := [.int 5]) (rest := []) ⟨hx, hb, hml, hown, hts⟩ (c_X0_has l dC dI cI cZ cK tS aK aV k ks kw kc kq km kd ka kk 5 s.heap.size) (cwV 1 hts (gw_v (fun _ h9 => List.mem_cons_of_mem _ h9) wm_303 wm_98 wm_99 wm_10 wm_100) rfl rfl rfl (by decide +kernel) ⟨Nat.le_of_ble_eq_true rfl, Nat.le_of_ble_eq_true rfl⟩) (mx_preV (C := RX0) (T := TX0) (N := 12) (ci := 0) hKx hP hD hS hA [2] (by decide) rfl rfl rfl) rfl rfl hl.1 rfl (lv_room (Nat.le_of_ble_eq_true rfl)) dX3_isOfMealsThatAre_22 ⟨Nat.le_of_ble_eq_true rfl, Nat.le_of_ble_eq_true rfl⟩) hP hD hS hA [2] [0, 1] rfl rfl (by decide) (by decide) (fun r20 u20 H locs hq20 hP hD hS => ?_)
              replace hP : va_P (dC, dI) vwCl [(o, .inr (3, [.ref k, .ref op, .int i9, .ref oq, .ref ov, .ref os])), (op, .inl (cI, 6, .inl fp)), (k, .inr (0, [.ref ks, .ref kw, .ref kc, .int (-6), .int 0, .int 0, .ref kq, .ref km, .ref kd, .int 0, .ref ka, .ref kk]))] H := hP
              replace hD : va_D A [(o, .inr (3, [.ref k, .ref op, .int i9, .ref oq, .ref ov, .ref os])), (op, .inl (cI, 6, .inl fp)), (k, .inr (0, [.ref ks, .ref kw, .ref kc, .int (-6), .int 0, .int 0, .ref kq, .ref km, .ref kd, .int 0, .ref ka, .ref kk]))] := hD
              obtain rfl : r20 = 0 := hq20
              refine lv_if_ne (tgt := 30) hx hb dX3_isOfMealsThatAre_25 (by decide) (fun c21 => absurd c21 (by decide)) (fun c21 => ?_)
              refine lv_iconst (v := 0) hx hb dX3_isOfMealsThatAre_28 (by decide) ?_
              have hP9 := mx_subP (wc := [(o, .inr (3, [.ref k, .ref op, .int i9, .ref oq, .ref ov, .ref os])), (op, .inl (cI, 6, .inl fp)), (k, .inr (0, [.ref ks, .ref kw, .ref kc, .int (-6), .int 0, .int 0, .ref kq, .ref km, .ref kd, .int 0, .ref ka, .ref kk]))]) hP [0, 1, 2] rfl
              have hD9 := hD.sub (ws' := [(o, .inr (3, [.ref k, .ref op, .int i9, .ref oq, .ref ov, .ref os])), (op, .inl (cI, 6, .inl fp)), (k, .inr (0, [.ref ks, .ref kw, .ref kc, .int (-6), .int 0, .int 0, .ref kq, .ref km, .ref kd, .int 0, .ref ka, .ref kk]))]) [0, 1, 2] (by decide) rfl
              exact W.zret (v := 0) hx hb hr rfl (fun t ht hW => ⟨⟨0, (), rfl, (by first | exact Or.inl (⟨rfl, by omega⟩) | exact Or.inr (⟨rfl, by omega⟩)), by rw [ht]; exact hP9, hD9⟩, hS.F ht⟩) hS.2.2 dX3_isOfMealsThatAre_29
          · have t15 : (0 : Int) < (fp 4).toInt := (tnle c15)
            refine lv_aload_n hx hb dX3_isOfMealsThatAre_17 rfl (lv_at hl 1 rfl) ?_
            refine va_get (D := (dC, dI)) (ci := 3) (v := .ref k) (C := RX3) (T := TX3) (N := 6) hx hb hts hin3 hown hK hP 0 rfl rfl 0 (by decide) hw1 (fun _ h9 => h9) rfl dX3_isOfMealsThatAre_18 ?_
            refine lv_iload_n hx hb dX3_isOfMealsThatAre_21 rfl (lv_at hl 0 rfl) ?_
            refine mx_i (wr := [(o, .inr (3, [.ref k, .ref op, .int i9, .ref oq, .ref ov, .ref os])), (op, .inl (cI, 6, .inl fp))]) (va_runV (As := [.int 4]) (rest := []) ⟨hx, hb, hml, hown, hts⟩ (c_X0_has l dC dI cI cZ cK tS aK aV k ks kw kc kq km kd ka kk 4 s.heap.size) (cwV 1 hts (gw_v (fun _ h9 => List.mem_cons_of_mem _ h9) wm_303 wm_98 wm_99 wm_10 wm_100) rfl rfl rfl (by decide +kernel) ⟨Nat.le_of_ble_eq_true rfl, Nat.le_of_ble_eq_true rfl⟩) (mx_preV (C := RX0) (T := TX0) (N := 12) (ci := 0) hKx hP hD hS hA [2] (by decide) rfl rfl rfl) rfl rfl hl.1 rfl (lv_room (Nat.le_of_ble_eq_true rfl)) dX3_isOfMealsThatAre_22 ⟨Nat.le_of_ble_eq_true rfl, Nat.le_of_ble_eq_true rfl⟩) hP hD hS hA [2] [0, 1] rfl rfl (by decide) (by decide) (fun r22 u22 H locs hq22 hP hD hS => ?_)
            replace hP : va_P (dC, dI) vwCl [(o, .inr (3, [.ref k, .ref op, .int i9, .ref oq, .ref ov, .ref os])), (op, .inl (cI, 6, .inl fp)), (k, .inr (0, [.ref ks, .ref kw, .ref kc, .int (-6), .int 0, .int 0, .ref kq, .ref km, .ref kd, .int 0, .ref ka, .ref kk]))] H := hP
            replace hD : va_D A [(o, .inr (3, [.ref k, .ref op, .int i9, .ref oq, .ref ov, .ref os])), (op, .inl (cI, 6, .inl fp)), (k, .inr (0, [.ref ks, .ref kw, .ref kc, .int (-6), .int 0, .int 0, .ref kq, .ref km, .ref kd, .int 0, .ref ka, .ref kk]))] := hD
            obtain rfl : r22 = 0 := hq22
            refine lv_if_ne (tgt := 30) hx hb dX3_isOfMealsThatAre_25 (by decide) (fun c23 => absurd c23 (by decide)) (fun c23 => ?_)
            refine lv_iconst (v := 0) hx hb dX3_isOfMealsThatAre_28 (by decide) ?_
            have hP9 := mx_subP (wc := [(o, .inr (3, [.ref k, .ref op, .int i9, .ref oq, .ref ov, .ref os])), (op, .inl (cI, 6, .inl fp)), (k, .inr (0, [.ref ks, .ref kw, .ref kc, .int (-6), .int 0, .int 0, .ref kq, .ref km, .ref kd, .int 0, .ref ka, .ref kk]))]) hP [0, 1, 2] rfl
            have hD9 := hD.sub (ws' := [(o, .inr (3, [.ref k, .ref op, .int i9, .ref oq, .ref ov, .ref os])), (op, .inl (cI, 6, .inl fp)), (k, .inr (0, [.ref ks, .ref kw, .ref kc, .int (-6), .int 0, .int 0, .ref kq, .ref km, .ref kd, .int 0, .ref ka, .ref kk]))]) [0, 1, 2] (by decide) rfl
            exact W.zret (v := 0) hx hb hr rfl (fun t ht hW => ⟨⟨0, (), rfl, (by first | exact Or.inl (⟨rfl, by omega⟩) | exact Or.inr (⟨rfl, by omega⟩)), by rw [ht]; exact hP9, hD9⟩, hS.F ht⟩) hS.2.2 dX3_isOfMealsThatAre_29
        · have t12 : (0 : Int) < (fp 3).toInt := (tnle c12)
          refine lv_aload_n hx hb dX3_isOfMealsThatAre_17 rfl (lv_at hl 1 rfl) ?_
          refine va_get (D := (dC, dI)) (ci := 3) (v := .ref k) (C := RX3) (T := TX3) (N := 6) hx hb hts hin3 hown hK hP 0 rfl rfl 0 (by decide) hw1 (fun _ h9 => h9) rfl dX3_isOfMealsThatAre_18 ?_
          refine lv_iload_n hx hb dX3_isOfMealsThatAre_21 rfl (lv_at hl 0 rfl) ?_
          refine mx_i (wr := [(o, .inr (3, [.ref k, .ref op, .int i9, .ref oq, .ref ov, .ref os])), (op, .inl (cI, 6, .inl fp))]) (va_runV (As := [.int 3]) (rest := []) ⟨hx, hb, hml, hown, hts⟩ (c_X0_has l dC dI cI cZ cK tS aK aV k ks kw kc kq km kd ka kk 3 s.heap.size) (cwV 1 hts (gw_v (fun _ h9 => List.mem_cons_of_mem _ h9) wm_303 wm_98 wm_99 wm_10 wm_100) rfl rfl rfl (by decide +kernel) ⟨Nat.le_of_ble_eq_true rfl, Nat.le_of_ble_eq_true rfl⟩) (mx_preV (C := RX0) (T := TX0) (N := 12) (ci := 0) hKx hP hD hS hA [2] (by decide) rfl rfl rfl) rfl rfl hl.1 rfl (lv_room (Nat.le_of_ble_eq_true rfl)) dX3_isOfMealsThatAre_22 ⟨Nat.le_of_ble_eq_true rfl, Nat.le_of_ble_eq_true rfl⟩) hP hD hS hA [2] [0, 1] rfl rfl (by decide) (by decide) (fun r24 u24 H locs hq24 hP hD hS => ?_)
          replace hP : va_P (dC, dI) vwCl [(o, .inr (3, [.ref k, .ref op, .int i9, .ref oq, .ref ov, .ref os])), (op, .inl (cI, 6, .inl fp)), (k, .inr (0, [.ref ks, .ref kw, .ref kc, .int (-6), .int 0, .int 0, .ref kq, .ref km, .ref kd, .int 0, .ref ka, .ref kk]))] H := hP
          replace hD : va_D A [(o, .inr (3, [.ref k, .ref op, .int i9, .ref oq, .ref ov, .ref os])), (op, .inl (cI, 6, .inl fp)), (k, .inr (0, [.ref ks, .ref kw, .ref kc, .int (-6), .int 0, .int 0, .ref kq, .ref km, .ref kd, .int 0, .ref ka, .ref kk]))] := hD
          obtain rfl : r24 = 0 := hq24
          refine lv_if_ne (tgt := 30) hx hb dX3_isOfMealsThatAre_25 (by decide) (fun c25 => absurd c25 (by decide)) (fun c25 => ?_)
          refine lv_iconst (v := 0) hx hb dX3_isOfMealsThatAre_28 (by decide) ?_
          have hP9 := mx_subP (wc := [(o, .inr (3, [.ref k, .ref op, .int i9, .ref oq, .ref ov, .ref os])), (op, .inl (cI, 6, .inl fp)), (k, .inr (0, [.ref ks, .ref kw, .ref kc, .int (-6), .int 0, .int 0, .ref kq, .ref km, .ref kd, .int 0, .ref ka, .ref kk]))]) hP [0, 1, 2] rfl
          have hD9 := hD.sub (ws' := [(o, .inr (3, [.ref k, .ref op, .int i9, .ref oq, .ref ov, .ref os])), (op, .inl (cI, 6, .inl fp)), (k, .inr (0, [.ref ks, .ref kw, .ref kc, .int (-6), .int 0, .int 0, .ref kq, .ref km, .ref kd, .int 0, .ref ka, .ref kk]))]) [0, 1, 2] (by decide) rfl
          exact W.zret (v := 0) hx hb hr rfl (fun t ht hW => ⟨⟨0, (), rfl, (by first | exact Or.inl (⟨rfl, by omega⟩) | exact Or.inr (⟨rfl, by omega⟩)), by rw [ht]; exact hP9, hD9⟩, hS.F ht⟩) hS.2.2 dX3_isOfMealsThatAre_29
      · have t9 : (0 : Int) < (fp 2).toInt := (tnle c9)
        refine lv_aload_n hx hb dX3_isOfMealsThatAre_17 rfl (lv_at hl 1 rfl) ?_
        refine va_get (D := (dC, dI)) (ci := 3) (v := .ref k) (C := RX3) (T := TX3) (N := 6) hx hb hts hin3 hown hK hP 0 rfl rfl 0 (by decide) hw1 (fun _ h9 => h9) rfl dX3_isOfMealsThatAre_18 ?_
        refine lv_iload_n hx hb dX3_isOfMealsThatAre_21 rfl (lv_at hl 0 rfl) ?_
        refine mx_i (wr := [(o, .inr (3, [.ref k, .ref op, .int i9, .ref oq, .ref ov, .ref os])), (op, .inl (cI, 6, .inl fp))]) (va_runV (As := [.int 2]) (rest := []) ⟨hx, hb, hml, hown, hts⟩ (c_X0_has l dC dI cI cZ cK tS aK aV k ks kw kc kq km kd ka kk 2 s.heap.size) (cwV 1 hts (gw_v (fun _ h9 => List.mem_cons_of_mem _ h9) wm_303 wm_98 wm_99 wm_10 wm_100) rfl rfl rfl (by decide +kernel) ⟨Nat.le_of_ble_eq_true rfl, Nat.le_of_ble_eq_true rfl⟩) (mx_preV (C := RX0) (T := TX0) (N := 12) (ci := 0) hKx hP hD hS hA [2] (by decide) rfl rfl rfl) rfl rfl hl.1 rfl (lv_room (Nat.le_of_ble_eq_true rfl)) dX3_isOfMealsThatAre_22 ⟨Nat.le_of_ble_eq_true rfl, Nat.le_of_ble_eq_true rfl⟩) hP hD hS hA [2] [0, 1] rfl rfl (by decide) (by decide) (fun r26 u26 H locs hq26 hP hD hS => ?_)
        replace hP : va_P (dC, dI) vwCl [(o, .inr (3, [.ref k, .ref op, .int i9, .ref oq, .ref ov, .ref os])), (op, .inl (cI, 6, .inl fp)), (k, .inr (0, [.ref ks, .ref kw, .ref kc, .int (-6), .int 0, .int 0, .ref kq, .ref km, .ref kd, .int 0, .ref ka, .ref kk]))] H := hP
        replace hD : va_D A [(o, .inr (3, [.ref k, .ref op, .int i9, .ref oq, .ref ov, .ref os])), (op, .inl (cI, 6, .inl fp)), (k, .inr (0, [.ref ks, .ref kw, .ref kc, .int (-6), .int 0, .int 0, .ref kq, .ref km, .ref kd, .int 0, .ref ka, .ref kk]))] := hD
        obtain rfl : r26 = 0 := hq26
        refine lv_if_ne (tgt := 30) hx hb dX3_isOfMealsThatAre_25 (by decide) (fun c27 => absurd c27 (by decide)) (fun c27 => ?_)
        refine lv_iconst (v := 0) hx hb dX3_isOfMealsThatAre_28 (by decide) ?_
        have hP9 := mx_subP (wc := [(o, .inr (3, [.ref k, .ref op, .int i9, .ref oq, .ref ov, .ref os])), (op, .inl (cI, 6, .inl fp)), (k, .inr (0, [.ref ks, .ref kw, .ref kc, .int (-6), .int 0, .int 0, .ref kq, .ref km, .ref kd, .int 0, .ref ka, .ref kk]))]) hP [0, 1, 2] rfl
        have hD9 := hD.sub (ws' := [(o, .inr (3, [.ref k, .ref op, .int i9, .ref oq, .ref ov, .ref os])), (op, .inl (cI, 6, .inl fp)), (k, .inr (0, [.ref ks, .ref kw, .ref kc, .int (-6), .int 0, .int 0, .ref kq, .ref km, .ref kd, .int 0, .ref ka, .ref kk]))]) [0, 1, 2] (by decide) rfl
        exact W.zret (v := 0) hx hb hr rfl (fun t ht hW => ⟨⟨0, (), rfl, (by first | exact Or.inl (⟨rfl, by omega⟩) | exact Or.inr (⟨rfl, by omega⟩)), by rw [ht]; exact hP9, hD9⟩, hS.F ht⟩) hS.2.2 dX3_isOfMealsThatAre_29
    · have t6 : (0 : Int) < (fp 1).toInt := (tnle c6)
      refine lv_aload_n hx hb dX3_isOfMealsThatAre_17 rfl (lv_at hl 1 rfl) ?_
      refine va_get (D := (dC, dI)) (ci := 3) (v := .ref k) (C := RX3) (T := TX3) (N := 6) hx hb hts hin3 hown hK hP 0 rfl rfl 0 (by decide) hw1 (fun _ h9 => h9) rfl dX3_isOfMealsThatAre_18 ?_
      refine lv_iload_n hx hb dX3_isOfMealsThatAre_21 rfl (lv_at hl 0 rfl) ?_
      refine mx_i (wr := [(o, .inr (3, [.ref k, .ref op, .int i9, .ref oq, .ref ov, .ref os])), (op, .inl (cI, 6, .inl fp))]) (va_runV (As := [.int 1]) (rest := []) ⟨hx, hb, hml, hown, hts⟩ (c_X0_has l dC dI cI cZ cK tS aK aV k ks kw kc kq km kd ka kk 1 s.heap.size) (cwV 1 hts (gw_v (fun _ h9 => List.mem_cons_of_mem _ h9) wm_303 wm_98 wm_99 wm_10 wm_100) rfl rfl rfl (by decide +kernel) ⟨Nat.le_of_ble_eq_true rfl, Nat.le_of_ble_eq_true rfl⟩) (mx_preV (C := RX0) (T := TX0) (N := 12) (ci := 0) hKx hP hD hS hA [2] (by decide) rfl rfl rfl) rfl rfl hl.1 rfl (lv_room (Nat.le_of_ble_eq_true rfl)) dX3_isOfMealsThatAre_22 ⟨Nat.le_of_ble_eq_true rfl, Nat.le_of_ble_eq_true rfl⟩) hP hD hS hA [2] [0, 1] rfl rfl (by decide) (by decide) (fun r28 u28 H locs hq28 hP hD hS => ?_)
      replace hP : va_P (dC, dI) vwCl [(o, .inr (3, [.ref k, .ref op, .int i9, .ref oq, .ref ov, .ref os])), (op, .inl (cI, 6, .inl fp)), (k, .inr (0, [.ref ks, .ref kw, .ref kc, .int (-6), .int 0, .int 0, .ref kq, .ref km, .ref kd, .int 0, .ref ka, .ref kk]))] H := hP
      replace hD : va_D A [(o, .inr (3, [.ref k, .ref op, .int i9, .ref oq, .ref ov, .ref os])), (op, .inl (cI, 6, .inl fp)), (k, .inr (0, [.ref ks, .ref kw, .ref kc, .int (-6), .int 0, .int 0, .ref kq, .ref km, .ref kd, .int 0, .ref ka, .ref kk]))] := hD
      obtain rfl : r28 = 0 := hq28
      refine lv_if_ne (tgt := 30) hx hb dX3_isOfMealsThatAre_25 (by decide) (fun c29 => absurd c29 (by decide)) (fun c29 => ?_)
      refine lv_iconst (v := 0) hx hb dX3_isOfMealsThatAre_28 (by decide) ?_
      have hP9 := mx_subP (wc := [(o, .inr (3, [.ref k, .ref op, .int i9, .ref oq, .ref ov, .ref os])), (op, .inl (cI, 6, .inl fp)), (k, .inr (0, [.ref ks, .ref kw, .ref kc, .int (-6), .int 0, .int 0, .ref kq, .ref km, .ref kd, .int 0, .ref ka, .ref kk]))]) hP [0, 1, 2] rfl
      have hD9 := hD.sub (ws' := [(o, .inr (3, [.ref k, .ref op, .int i9, .ref oq, .ref ov, .ref os])), (op, .inl (cI, 6, .inl fp)), (k, .inr (0, [.ref ks, .ref kw, .ref kc, .int (-6), .int 0, .int 0, .ref kq, .ref km, .ref kd, .int 0, .ref ka, .ref kk]))]) [0, 1, 2] (by decide) rfl
      exact W.zret (v := 0) hx hb hr rfl (fun t ht hW => ⟨⟨0, (), rfl, (by first | exact Or.inl (⟨rfl, by omega⟩) | exact Or.inr (⟨rfl, by omega⟩)), by rw [ht]; exact hP9, hD9⟩, hS.F ht⟩) hS.2.2 dX3_isOfMealsThatAre_29
  · have t3 : (0 : Int) < (fp 0).toInt := (tnle c3)
    refine lv_aload_n hx hb dX3_isOfMealsThatAre_17 rfl (lv_at hl 1 rfl) ?_
    refine va_get (D := (dC, dI)) (ci := 3) (v := .ref k) (C := RX3) (T := TX3) (N := 6) hx hb hts hin3 hown hK hP 0 rfl rfl 0 (by decide) hw1 (fun _ h9 => h9) rfl dX3_isOfMealsThatAre_18 ?_
    refine lv_iload_n hx hb dX3_isOfMealsThatAre_21 rfl (lv_at hl 0 rfl) ?_
    refine mx_i (wr := [(o, .inr (3, [.ref k, .ref op, .int i9, .ref oq, .ref ov, .ref os])), (op, .inl (cI, 6, .inl fp))]) (va_runV (As := [.int 0]) (rest := []) ⟨hx, hb, hml, hown, hts⟩ (c_X0_has l dC dI cI cZ cK tS aK aV k ks kw kc kq km kd ka kk 0 s.heap.size) (cwV 1 hts (gw_v (fun _ h9 => List.mem_cons_of_mem _ h9) wm_303 wm_98 wm_99 wm_10 wm_100) rfl rfl rfl (by decide +kernel) ⟨Nat.le_of_ble_eq_true rfl, Nat.le_of_ble_eq_true rfl⟩) (mx_preV (C := RX0) (T := TX0) (N := 12) (ci := 0) hKx hP hD hS hA [2] (by decide) rfl rfl rfl) rfl rfl hl.1 rfl (lv_room (Nat.le_of_ble_eq_true rfl)) dX3_isOfMealsThatAre_22 ⟨Nat.le_of_ble_eq_true rfl, Nat.le_of_ble_eq_true rfl⟩) hP hD hS hA [2] [0, 1] rfl rfl (by decide) (by decide) (fun r30 u30 H locs hq30 hP hD hS => ?_)
    replace hP : va_P (dC, dI) vwCl [(o, .inr (3, [.ref k, .ref op, .int i9, .ref oq, .ref ov, .ref os])), (op, .inl (cI, 6, .inl fp)), (k, .inr (0, [.ref ks, .ref kw, .ref kc, .int (-6), .int 0, .int 0, .ref kq, .ref km, .ref kd, .int 0, .ref ka, .ref kk]))] H := hP
    replace hD : va_D A [(o, .inr (3, [.ref k, .ref op, .int i9, .ref oq, .ref ov, .ref os])), (op, .inl (cI, 6, .inl fp)), (k, .inr (0, [.ref ks, .ref kw, .ref kc, .int (-6), .int 0, .int 0, .ref kq, .ref km, .ref kd, .int 0, .ref ka, .ref kk]))] := hD
    obtain rfl : r30 = 0 := hq30
    refine lv_if_ne (tgt := 30) hx hb dX3_isOfMealsThatAre_25 (by decide) (fun c31 => absurd c31 (by decide)) (fun c31 => ?_)
    refine lv_iconst (v := 0) hx hb dX3_isOfMealsThatAre_28 (by decide) ?_
    have hP9 := mx_subP (wc := [(o, .inr (3, [.ref k, .ref op, .int i9, .ref oq, .ref ov, .ref os])), (op, .inl (cI, 6, .inl fp)), (k, .inr (0, [.ref ks, .ref kw, .ref kc, .int (-6), .int 0, .int 0, .ref kq, .ref km, .ref kd, .int 0, .ref ka, .ref kk]))]) hP [0, 1, 2] rfl
    have hD9 := hD.sub (ws' := [(o, .inr (3, [.ref k, .ref op, .int i9, .ref oq, .ref ov, .ref os])), (op, .inl (cI, 6, .inl fp)), (k, .inr (0, [.ref ks, .ref kw, .ref kc, .int (-6), .int 0, .int 0, .ref kq, .ref km, .ref kd, .int 0, .ref ka, .ref kk]))]) [0, 1, 2] (by decide) rfl
    exact W.zret (v := 0) hx hb hr rfl (fun t ht hW => ⟨⟨0, (), rfl, (by first | exact Or.inl (⟨rfl, by omega⟩) | exact Or.inr (⟨rfl, by omega⟩)), by rw [ht]; exact hP9, hD9⟩, hS.F ht⟩) hS.2.2 dX3_isOfMealsThatAre_29
set_option maxHeartbeats 4000000 in
set_option maxRecDepth 100000 in
theorem c_X7_orderRefusalN (l : Launch) (dC : Nat → ClassId) (dI : Nat → Nat → Nat) (cI cZ cK : ClassId) (tS aK aV : Nat) (h : Nat) (o : Nat) (f : Nat) (g : Nat) (wk : Nat) (im : Nat) (kt : Nat) (dl : Nat) (j : Nat) (k : Nat) (ks : Nat) (kw : Nat) (kc : Nat) (kq : Nat) (km : Nat) (kd : Nat) (ka : Nat) (kk : Nat) (d : Nat) (op : Nat) (oq : Nat) (ov : Nat) (os : Nat) (i0 : Int32) (i1 : Int32) (sz : Nat) (hi0 : i0.toInt ≠ 0) : Ci l yX7_orderRefusal (wq yX7_orderRefusal cX7_orderRefusal 3 (some .int)) ({ frames := 3, cells := 0, slots := 0, locals := 64 }) dC dI cI cZ cK tS aK aV [.ref h, .int i0, .int i1] sz [(h, .inr (7, [.ref k, .ref d, .ref j, .ref o, .ref f, .ref g, .ref wk, .ref im, .ref kt, .ref dl])), (o, .inr (3, [.ref k, .ref op, .int 0, .ref oq, .ref ov, .ref os])), (op, .inl (cI, 6, .inl (fun _ => 0))), (k, .inr (0, [.ref ks, .ref kw, .ref kc, .int (-6), .int 0, .int 0, .ref kq, .ref km, .ref kd, .int 0, .ref ka, .ref kk]))] (fun (r : Int32) (_ : Unit) => (r = (-1) ∧ (0 ≤ i0.toInt ∧ i0.toInt ≤ 999999)) ∨ (r = (-2) ∧ (i0.toInt < 0 ∨ 999999 < i0.toInt))) (fun _ => []) := by
  refine Met.ofW (cc := cX7_orderRefusal) (maxL := 3) (ret := (some .int)) (by decide) rfl ?_
  intro p e s m args below meth c s₁ B hml hv
  obtain ⟨rfl, hsz, hP, hKx, hD0⟩ := hv
  have hx := B.exec
  have hb := B.bytes
  have hr := B.returns
  have hts := atoms_spec (ws := wq yX7_orderRefusal cX7_orderRefusal 3 (some .int)) B.pre
  have hown : s.vm.findClass RX7 = some m.cls := findClass_of_methodNamed B.named
  have hlocks := B.notSynchronized
  subst hsz
  have hD := hD0.self (sz := s.heap.size)
  generalize hAe : va_A [(h, .inr (7, [.ref k, .ref d, .ref j, .ref o, .ref f, .ref g, .ref wk, .ref im, .ref kt, .ref dl])), (o, .inr (3, [.ref k, .ref op, .int 0, .ref oq, .ref ov, .ref os])), (op, .inl (cI, 6, .inl (fun _ => 0))), (k, .inr (0, [.ref ks, .ref kw, .ref kc, .int (-6), .int 0, .int 0, .ref kq, .ref km, .ref kd, .int 0, .ref ka, .ref kk]))] s.heap.size = A at hD hKx ⊢
  have hA : ∀ q : Nat, s.heap.size ≤ q → A q := fun q h => by rw [← hAe]; exact Or.inr h
  have hS : va_S A s.heap s.heap [] := va_S.rf
  have hP : va_P (dC, dI) vwCl [(h, .inr (7, [.ref k, .ref d, .ref j, .ref o, .ref f, .ref g, .ref wk, .ref im, .ref kt, .ref dl])), (o, .inr (3, [.ref k, .ref op, .int 0, .ref oq, .ref ov, .ref os])), (op, .inl (cI, 6, .inl (fun _ => 0))), (k, .inr (0, [.ref ks, .ref kw, .ref kc, .int (-6), .int 0, .int 0, .ref kq, .ref km, .ref kd, .int 0, .ref ka, .ref kk]))] s.heap := hP
  have hl := lv_entry ([.ref h, .int i0, .int i1]) (n := 3) (Nat.le_of_ble_eq_true rfl)
  rw [lg_entry_eq]
  generalize (lg_sl ([.ref h, .int i0, .int i1]) ++ List.replicate (3 - (lg_sl ([.ref h, .int i0, .int i1])).length) Slot.unset).toArray = ls at hl ⊢
  have hl : lv_has ls 3 [(0, .ref h), (1, .int i0), (2, .int i1)] := hl
  have hK := hKx.1
  have hin7 := fun w9 h9 => List.mem_cons_of_mem (Cond.code yX7_orderRefusal cX7_orderRefusal 3 (some .int)) (inlX7 w9 h9)
  have hw0 := hts (.constant RX7 282 999999) (List.mem_cons_of_mem _ wm_141)
  have hw1 := hts (.fieldLink RX7 37 "OneCan" "order" "LOneCan$Order;") (List.mem_cons_of_mem _ wm_142)
  refine lv_iload_n hx hb dX7_orderRefusal_0 rfl (lv_at hl 1 rfl) ?_
  refine lv_iconst (v := 0) hx hb dX7_orderRefusal_1 (by decide) ?_
  refine lv_ldcw (v := 999999) hx hb hown hw0 dX7_orderRefusal_2 ?_
  refine mx_i (wr := [(h, .inr (7, [.ref k, .ref d, .ref j, .ref o, .ref f, .ref g, .ref wk, .ref im, .ref kt, .ref dl])), (o, .inr (3, [.ref k, .ref op, .int 0, .ref oq, .ref ov, .ref os])), (op, .inl (cI, 6, .inl (fun _ => 0))), (k, .inr (0, [.ref ks, .ref kw, .ref kc, .int (-6), .int 0, .int 0, .ref kq, .ref km, .ref kd, .int 0, .ref ka, .ref kk]))]) (va_runS (As := [.int i0, .int 0, .int 999999]) (rest := []) ⟨hx, hb, hml, hown, hts⟩ (c_X7_isIn l dC dI cI cZ cK tS aK aV i0 0 999999 s.heap.size) (va_cwS 3 hts (gw_s (fun _ h9 => List.mem_cons_of_mem _ h9) wm_0 wm_1 wm_2 wm_3) rfl rfl rfl (by decide +kernel) ⟨Nat.le_of_ble_eq_true rfl, Nat.le_of_ble_eq_true rfl⟩) (mx_preS hKx hP hD hS hA [] (by decide) rfl) rfl rfl hl.1 rfl (lv_room (Nat.le_of_ble_eq_true rfl)) dX7_orderRefusal_5 ⟨Nat.le_of_ble_eq_true rfl, Nat.le_of_ble_eq_true rfl⟩) hP hD hS hA [] [0, 1, 2, 3] rfl rfl (by decide) (by decide) (fun r1 u1 H locs hq1 hP hD hS => ?_)
  replace hP : va_P (dC, dI) vwCl [(h, .inr (7, [.ref k, .ref d, .ref j, .ref o, .ref f, .ref g, .ref wk, .ref im, .ref kt, .ref dl])), (o, .inr (3, [.ref k, .ref op, .int 0, .ref oq, .ref ov, .ref os])), (op, .inl (cI, 6, .inl (fun _ => 0))), (k, .inr (0, [.ref ks, .ref kw, .ref kc, .int (-6), .int 0, .int 0, .ref kq, .ref km, .ref kd, .int 0, .ref ka, .ref kk]))] H := hP
  replace hD : va_D A [(h, .inr (7, [.ref k, .ref d, .ref j, .ref o, .ref f, .ref g, .ref wk, .ref im, .ref kt, .ref dl])), (o, .inr (3, [.ref k, .ref op, .int 0, .ref oq, .ref ov, .ref os])), (op, .inl (cI, 6, .inl (fun _ => 0))), (k, .inr (0, [.ref ks, .ref kw, .ref kc, .int (-6), .int 0, .int 0, .ref kq, .ref km, .ref kd, .int 0, .ref ka, .ref kk]))] := hD
  rcases hq1 with ⟨rfl, hf1⟩ | ⟨rfl, hf1⟩
  · have hf1 : (0 : Int) ≤ i0.toInt ∧ i0.toInt ≤ (999999 : Int) := hf1
    refine lv_if_ne (tgt := 14) hx hb dX7_orderRefusal_8 (by decide) (fun c2 => ?_) (fun c2 => absurd c2 (by decide))
    refine lv_aload_n hx hb dX7_orderRefusal_14 rfl (lv_at hl 0 rfl) ?_
    refine va_get (D := (dC, dI)) (ci := 7) (v := .ref o) (C := RX7) (T := TX7) (N := 10) hx hb hts hin7 hown hK hP 0 rfl rfl 3 (by decide) hw1 (fun _ h9 => h9) rfl dX7_orderRefusal_15 ?_
    refine lv_iload_n hx hb dX7_orderRefusal_18 rfl (lv_at hl 1 rfl) ?_
    refine mx_v (wr := [(h, .inr (7, [.ref k, .ref d, .ref j, .ref o, .ref f, .ref g, .ref wk, .ref im, .ref kt, .ref dl])), (k, .inr (0, [.ref ks, .ref kw, .ref kc, .int (-6), .int 0, .int 0, .ref kq, .ref km, .ref kd, .int 0, .ref ka, .ref kk]))]) (va_runV (As := [.int i0]) (rest := []) ⟨hx, hb, hml, hown, hts⟩ (c_X3_readN l dC dI cI cZ cK tS aK aV o k op oq ov os i0 H.size) (cwV 1 hts (gw_v (fun _ h9 => List.mem_cons_of_mem _ h9) wm_143 wm_144 wm_145 wm_146 wm_147) rfl rfl rfl (by decide +kernel) ⟨Nat.le_of_ble_eq_true rfl, Nat.le_of_ble_eq_true rfl⟩) (mx_preV (C := RX3) (T := TX3) (N := 6) (ci := 3) hKx hP hD hS hA [1, 2] (by decide) rfl rfl rfl) rfl rfl hl.1 rfl (lv_room (Nat.le_of_ble_eq_true rfl)) dX7_orderRefusal_19 ⟨Nat.le_of_ble_eq_true rfl, Nat.le_of_ble_eq_true rfl⟩) hP hD hS hA [1, 2] [0, 3] rfl rfl (by decide) (by decide) (fun u3 H locs hq3 hP hD hS => ?_)
    replace hP : va_P (dC, dI) vwCl [(h, .inr (7, [.ref k, .ref d, .ref j, .ref o, .ref f, .ref g, .ref wk, .ref im, .ref kt, .ref dl])), (k, .inr (0, [.ref ks, .ref kw, .ref kc, .int (-6), .int 0, .int 0, .ref kq, .ref km, .ref kd, .int 0, .ref ka, .ref kk])), (o, .inr (3, [.ref k, .ref op, .int ((((((i0 - i0 / 10 * 10) + ((i0 / 10) - (i0 / 10) / 10 * 10)) + (((i0 / 10) / 10) - ((i0 / 10) / 10) / 10 * 10)) + ((((i0 / 10) / 10) / 10) - (((i0 / 10) / 10) / 10) / 10 * 10)) + (((((i0 / 10) / 10) / 10) / 10) - ((((i0 / 10) / 10) / 10) / 10) / 10 * 10)) + ((((((i0 / 10) / 10) / 10) / 10) / 10) - (((((i0 / 10) / 10) / 10) / 10) / 10) / 10 * 10)), .ref oq, .ref ov, .ref os])), (op, .inl (cI, 6, .inl (upd (upd (upd (upd (upd (upd (fun _ => 0) 5 (i0 - i0 / 10 * 10)) 4 ((i0 / 10) - (i0 / 10) / 10 * 10)) 3 (((i0 / 10) / 10) - ((i0 / 10) / 10) / 10 * 10)) 2 ((((i0 / 10) / 10) / 10) - (((i0 / 10) / 10) / 10) / 10 * 10)) 1 (((((i0 / 10) / 10) / 10) / 10) - ((((i0 / 10) / 10) / 10) / 10) / 10 * 10)) 0 ((((((i0 / 10) / 10) / 10) / 10) / 10) - (((((i0 / 10) / 10) / 10) / 10) / 10) / 10 * 10))))] H := hP
    replace hD : va_D A [(h, .inr (7, [.ref k, .ref d, .ref j, .ref o, .ref f, .ref g, .ref wk, .ref im, .ref kt, .ref dl])), (k, .inr (0, [.ref ks, .ref kw, .ref kc, .int (-6), .int 0, .int 0, .ref kq, .ref km, .ref kd, .int 0, .ref ka, .ref kk])), (o, .inr (3, [.ref k, .ref op, .int ((((((i0 - i0 / 10 * 10) + ((i0 / 10) - (i0 / 10) / 10 * 10)) + (((i0 / 10) / 10) - ((i0 / 10) / 10) / 10 * 10)) + ((((i0 / 10) / 10) / 10) - (((i0 / 10) / 10) / 10) / 10 * 10)) + (((((i0 / 10) / 10) / 10) / 10) - ((((i0 / 10) / 10) / 10) / 10) / 10 * 10)) + ((((((i0 / 10) / 10) / 10) / 10) / 10) - (((((i0 / 10) / 10) / 10) / 10) / 10) / 10 * 10)), .ref oq, .ref ov, .ref os])), (op, .inl (cI, 6, .inl (upd (upd (upd (upd (upd (upd (fun _ => 0) 5 (i0 - i0 / 10 * 10)) 4 ((i0 / 10) - (i0 / 10) / 10 * 10)) 3 (((i0 / 10) / 10) - ((i0 / 10) / 10) / 10 * 10)) 2 ((((i0 / 10) / 10) / 10) - (((i0 / 10) / 10) / 10) / 10 * 10)) 1 (((((i0 / 10) / 10) / 10) / 10) - ((((i0 / 10) / 10) / 10) / 10) / 10 * 10)) 0 ((((((i0 / 10) / 10) / 10) / 10) / 10) - (((((i0 / 10) / 10) / 10) / 10) / 10) / 10 * 10))))] := hD
    refine lv_iload_n hx hb dX7_orderRefusal_22 rfl (lv_at hl 2 rfl) ?_
    refine mx_i (wr := [(h, .inr (7, [.ref k, .ref d, .ref j, .ref o, .ref f, .ref g, .ref wk, .ref im, .ref kt, .ref dl])), (k, .inr (0, [.ref ks, .ref kw, .ref kc, .int (-6), .int 0, .int 0, .ref kq, .ref km, .ref kd, .int 0, .ref ka, .ref kk])), (o, .inr (3, [.ref k, .ref op, .int ((((((i0 - i0 / 10 * 10) + ((i0 / 10) - (i0 / 10) / 10 * 10)) + (((i0 / 10) / 10) - ((i0 / 10) / 10) / 10 * 10)) + ((((i0 / 10) / 10) / 10) - (((i0 / 10) / 10) / 10) / 10 * 10)) + (((((i0 / 10) / 10) / 10) / 10) - ((((i0 / 10) / 10) / 10) / 10) / 10 * 10)) + ((((((i0 / 10) / 10) / 10) / 10) / 10) - (((((i0 / 10) / 10) / 10) / 10) / 10) / 10 * 10)), .ref oq, .ref ov, .ref os])), (op, .inl (cI, 6, .inl (upd (upd (upd (upd (upd (upd (fun _ => 0) 5 (i0 - i0 / 10 * 10)) 4 ((i0 / 10) - (i0 / 10) / 10 * 10)) 3 (((i0 / 10) / 10) - ((i0 / 10) / 10) / 10 * 10)) 2 ((((i0 / 10) / 10) / 10) - (((i0 / 10) / 10) / 10) / 10 * 10)) 1 (((((i0 / 10) / 10) / 10) / 10) - ((((i0 / 10) / 10) / 10) / 10) / 10 * 10)) 0 ((((((i0 / 10) / 10) / 10) / 10) / 10) - (((((i0 / 10) / 10) / 10) / 10) / 10) / 10 * 10))))]) (va_runS (As := [.int i1]) (rest := []) ⟨hx, hb, hml, hown, hts⟩ (c_X7_isDay l dC dI cI cZ cK tS aK aV i1 H.size) (va_cwS 1 hts (gw_s (fun _ h9 => List.mem_cons_of_mem _ h9) wm_86 wm_87 wm_2 wm_88) rfl rfl rfl (by decide +kernel) ⟨Nat.le_of_ble_eq_true rfl, Nat.le_of_ble_eq_true rfl⟩) (mx_preS hKx hP hD hS hA [] (by decide) rfl) rfl rfl hl.1 rfl (lv_room (Nat.le_of_ble_eq_true rfl)) dX7_orderRefusal_23 ⟨Nat.le_of_ble_eq_true rfl, Nat.le_of_ble_eq_true rfl⟩) hP hD hS hA [] [0, 1, 2, 3] rfl rfl (by decide) (by decide) (fun r4 u4 H locs hq4 hP hD hS => ?_)
    replace hP : va_P (dC, dI) vwCl [(h, .inr (7, [.ref k, .ref d, .ref j, .ref o, .ref f, .ref g, .ref wk, .ref im, .ref kt, .ref dl])), (k, .inr (0, [.ref ks, .ref kw, .ref kc, .int (-6), .int 0, .int 0, .ref kq, .ref km, .ref kd, .int 0, .ref ka, .ref kk])), (o, .inr (3, [.ref k, .ref op, .int ((((((i0 - i0 / 10 * 10) + ((i0 / 10) - (i0 / 10) / 10 * 10)) + (((i0 / 10) / 10) - ((i0 / 10) / 10) / 10 * 10)) + ((((i0 / 10) / 10) / 10) - (((i0 / 10) / 10) / 10) / 10 * 10)) + (((((i0 / 10) / 10) / 10) / 10) - ((((i0 / 10) / 10) / 10) / 10) / 10 * 10)) + ((((((i0 / 10) / 10) / 10) / 10) / 10) - (((((i0 / 10) / 10) / 10) / 10) / 10) / 10 * 10)), .ref oq, .ref ov, .ref os])), (op, .inl (cI, 6, .inl (upd (upd (upd (upd (upd (upd (fun _ => 0) 5 (i0 - i0 / 10 * 10)) 4 ((i0 / 10) - (i0 / 10) / 10 * 10)) 3 (((i0 / 10) / 10) - ((i0 / 10) / 10) / 10 * 10)) 2 ((((i0 / 10) / 10) / 10) - (((i0 / 10) / 10) / 10) / 10 * 10)) 1 (((((i0 / 10) / 10) / 10) / 10) - ((((i0 / 10) / 10) / 10) / 10) / 10 * 10)) 0 ((((((i0 / 10) / 10) / 10) / 10) / 10) - (((((i0 / 10) / 10) / 10) / 10) / 10) / 10 * 10))))] H := hP
    replace hD : va_D A [(h, .inr (7, [.ref k, .ref d, .ref j, .ref o, .ref f, .ref g, .ref wk, .ref im, .ref kt, .ref dl])), (k, .inr (0, [.ref ks, .ref kw, .ref kc, .int (-6), .int 0, .int 0, .ref kq, .ref km, .ref kd, .int 0, .ref ka, .ref kk])), (o, .inr (3, [.ref k, .ref op, .int ((((((i0 - i0 / 10 * 10) + ((i0 / 10) - (i0 / 10) / 10 * 10)) + (((i0 / 10) / 10) - ((i0 / 10) / 10) / 10 * 10)) + ((((i0 / 10) / 10) / 10) - (((i0 / 10) / 10) / 10) / 10 * 10)) + (((((i0 / 10) / 10) / 10) / 10) - ((((i0 / 10) / 10) / 10) / 10) / 10 * 10)) + ((((((i0 / 10) / 10) / 10) / 10) / 10) - (((((i0 / 10) / 10) / 10) / 10) / 10) / 10 * 10)), .ref oq, .ref ov, .ref os])), (op, .inl (cI, 6, .inl (upd (upd (upd (upd (upd (upd (fun _ => 0) 5 (i0 - i0 / 10 * 10)) 4 ((i0 / 10) - (i0 / 10) / 10 * 10)) 3 (((i0 / 10) / 10) - ((i0 / 10) / 10) / 10 * 10)) 2 ((((i0 / 10) / 10) / 10) - (((i0 / 10) / 10) / 10) / 10 * 10)) 1 (((((i0 / 10) / 10) / 10) / 10) - ((((i0 / 10) / 10) / 10) / 10) / 10 * 10)) 0 ((((((i0 / 10) / 10) / 10) / 10) / 10) - (((((i0 / 10) / 10) / 10) / 10) / 10) / 10 * 10))))] := hD
    rcases hq4 with ⟨rfl, hf4⟩ | ⟨rfl, hf4⟩
    · have hf4 : 0 ≤ i1.toInt ∧ i1.toInt ≤ 13 := hf4
      refine lv_if_eq (tgt := 43) hx hb dX7_orderRefusal_26 (by decide) (fun c5 => absurd c5 (by decide)) (fun c5 => ?_)
      refine lv_aload_n hx hb dX7_orderRefusal_29 rfl (lv_at hl 0 rfl) ?_
      refine va_get (D := (dC, dI)) (ci := 7) (v := .ref o) (C := RX7) (T := TX7) (N := 10) hx hb hts hin7 hown hK hP 0 rfl rfl 3 (by decide) hw1 (fun _ h9 => h9) rfl dX7_orderRefusal_30 ?_
      refine mx_i (wr := [(h, .inr (7, [.ref k, .ref d, .ref j, .ref o, .ref f, .ref g, .ref wk, .ref im, .ref kt, .ref dl]))]) (va_runV (As := []) (rest := []) ⟨hx, hb, hml, hown, hts⟩ (c_X3_isOfMealsThatAreN l dC dI cI cZ cK tS aK aV o k ks kw kc kq km kd ka kk op oq ov os (upd (upd (upd (upd (upd (upd (fun _ => 0) 5 (i0 - i0 / 10 * 10)) 4 ((i0 / 10) - (i0 / 10) / 10 * 10)) 3 (((i0 / 10) / 10) - ((i0 / 10) / 10) / 10 * 10)) 2 ((((i0 / 10) / 10) / 10) - (((i0 / 10) / 10) / 10) / 10 * 10)) 1 (((((i0 / 10) / 10) / 10) / 10) - ((((i0 / 10) / 10) / 10) / 10) / 10 * 10)) 0 ((((((i0 / 10) / 10) / 10) / 10) / 10) - (((((i0 / 10) / 10) / 10) / 10) / 10) / 10 * 10)) ((((((i0 - i0 / 10 * 10) + ((i0 / 10) - (i0 / 10) / 10 * 10)) + (((i0 / 10) / 10) - ((i0 / 10) / 10) / 10 * 10)) + ((((i0 / 10) / 10) / 10) - (((i0 / 10) / 10) / 10) / 10 * 10)) + (((((i0 / 10) / 10) / 10) / 10) - ((((i0 / 10) / 10) / 10) / 10) / 10 * 10)) + ((((((i0 / 10) / 10) / 10) / 10) / 10) - (((((i0 / 10) / 10) / 10) / 10) / 10) / 10 * 10)) H.size) (cwV 0 hts (gw_v (fun _ h9 => List.mem_cons_of_mem _ h9) wm_148 wm_149 wm_150 wm_146 wm_151) rfl rfl rfl (by decide +kernel) ⟨Nat.le_of_ble_eq_true rfl, Nat.le_of_ble_eq_true rfl⟩) (mx_preV (C := RX3) (T := TX3) (N := 6) (ci := 3) hKx hP hD hS hA [2, 3, 1] (by decide) rfl rfl rfl) rfl rfl hl.1 rfl (lv_room (Nat.le_of_ble_eq_true rfl)) dX7_orderRefusal_33 ⟨Nat.le_of_ble_eq_true rfl, Nat.le_of_ble_eq_true rfl⟩) hP hD hS hA [2, 3, 1] [0] rfl rfl (by decide) (by decide) (fun r6 u6 H locs hq6 hP hD hS => ?_)
      replace hP : va_P (dC, dI) vwCl [(h, .inr (7, [.ref k, .ref d, .ref j, .ref o, .ref f, .ref g, .ref wk, .ref im, .ref kt, .ref dl])), (o, .inr (3, [.ref k, .ref op, .int ((((((i0 - i0 / 10 * 10) + ((i0 / 10) - (i0 / 10) / 10 * 10)) + (((i0 / 10) / 10) - ((i0 / 10) / 10) / 10 * 10)) + ((((i0 / 10) / 10) / 10) - (((i0 / 10) / 10) / 10) / 10 * 10)) + (((((i0 / 10) / 10) / 10) / 10) - ((((i0 / 10) / 10) / 10) / 10) / 10 * 10)) + ((((((i0 / 10) / 10) / 10) / 10) / 10) - (((((i0 / 10) / 10) / 10) / 10) / 10) / 10 * 10)), .ref oq, .ref ov, .ref os])), (op, .inl (cI, 6, .inl (upd (upd (upd (upd (upd (upd (fun _ => 0) 5 (i0 - i0 / 10 * 10)) 4 ((i0 / 10) - (i0 / 10) / 10 * 10)) 3 (((i0 / 10) / 10) - ((i0 / 10) / 10) / 10 * 10)) 2 ((((i0 / 10) / 10) / 10) - (((i0 / 10) / 10) / 10) / 10 * 10)) 1 (((((i0 / 10) / 10) / 10) / 10) - ((((i0 / 10) / 10) / 10) / 10) / 10 * 10)) 0 ((((((i0 / 10) / 10) / 10) / 10) / 10) - (((((i0 / 10) / 10) / 10) / 10) / 10) / 10 * 10)))), (k, .inr (0, [.ref ks, .ref kw, .ref kc, .int (-6), .int 0, .int 0, .ref kq, .ref km, .ref kd, .int 0, .ref ka, .ref kk]))] H := hP
      replace hD : va_D A [(h, .inr (7, [.ref k, .ref d, .ref j, .ref o, .ref f, .ref g, .ref wk, .ref im, .ref kt, .ref dl])), (o, .inr (3, [.ref k, .ref op, .int ((((((i0 - i0 / 10 * 10) + ((i0 / 10) - (i0 / 10) / 10 * 10)) + (((i0 / 10) / 10) - ((i0 / 10) / 10) / 10 * 10)) + ((((i0 / 10) / 10) / 10) - (((i0 / 10) / 10) / 10) / 10 * 10)) + (((((i0 / 10) / 10) / 10) / 10) - ((((i0 / 10) / 10) / 10) / 10) / 10 * 10)) + ((((((i0 / 10) / 10) / 10) / 10) / 10) - (((((i0 / 10) / 10) / 10) / 10) / 10) / 10 * 10)), .ref oq, .ref ov, .ref os])), (op, .inl (cI, 6, .inl (upd (upd (upd (upd (upd (upd (fun _ => 0) 5 (i0 - i0 / 10 * 10)) 4 ((i0 / 10) - (i0 / 10) / 10 * 10)) 3 (((i0 / 10) / 10) - ((i0 / 10) / 10) / 10 * 10)) 2 ((((i0 / 10) / 10) / 10) - (((i0 / 10) / 10) / 10) / 10 * 10)) 1 (((((i0 / 10) / 10) / 10) / 10) - ((((i0 / 10) / 10) / 10) / 10) / 10 * 10)) 0 ((((((i0 / 10) / 10) / 10) / 10) / 10) - (((((i0 / 10) / 10) / 10) / 10) / 10) / 10 * 10)))), (k, .inr (0, [.ref ks, .ref kw, .ref kc, .int (-6), .int 0, .int 0, .ref kq, .ref km, .ref kd, .int 0, .ref ka, .ref kk]))] := hD
      rcases hq6 with ⟨rfl, hf6⟩ | ⟨rfl, hf6⟩
      · have hf6 : 0 < ((upd (upd (upd (upd (upd (upd (fun _ => 0) 5 (i0 - i0 / 10 * 10)) 4 ((i0 / 10) - (i0 / 10) / 10 * 10)) 3 (((i0 / 10) / 10) - ((i0 / 10) / 10) / 10 * 10)) 2 ((((i0 / 10) / 10) / 10) - (((i0 / 10) / 10) / 10) / 10 * 10)) 1 (((((i0 / 10) / 10) / 10) / 10) - ((((i0 / 10) / 10) / 10) / 10) / 10 * 10)) 0 ((((((i0 / 10) / 10) / 10) / 10) / 10) - (((((i0 / 10) / 10) / 10) / 10) / 10) / 10 * 10)) 0).toInt ∨ 0 < ((upd (upd (upd (upd (upd (upd (fun _ => 0) 5 (i0 - i0 / 10 * 10)) 4 ((i0 / 10) - (i0 / 10) / 10 * 10)) 3 (((i0 / 10) / 10) - ((i0 / 10) / 10) / 10 * 10)) 2 ((((i0 / 10) / 10) / 10) - (((i0 / 10) / 10) / 10) / 10 * 10)) 1 (((((i0 / 10) / 10) / 10) / 10) - ((((i0 / 10) / 10) / 10) / 10) / 10 * 10)) 0 ((((((i0 / 10) / 10) / 10) / 10) / 10) - (((((i0 / 10) / 10) / 10) / 10) / 10) / 10 * 10)) 1).toInt ∨ 0 < ((upd (upd (upd (upd (upd (upd (fun _ => 0) 5 (i0 - i0 / 10 * 10)) 4 ((i0 / 10) - (i0 / 10) / 10 * 10)) 3 (((i0 / 10) / 10) - ((i0 / 10) / 10) / 10 * 10)) 2 ((((i0 / 10) / 10) / 10) - (((i0 / 10) / 10) / 10) / 10 * 10)) 1 (((((i0 / 10) / 10) / 10) / 10) - ((((i0 / 10) / 10) / 10) / 10) / 10 * 10)) 0 ((((((i0 / 10) / 10) / 10) / 10) / 10) - (((((i0 / 10) / 10) / 10) / 10) / 10) / 10 * 10)) 2).toInt ∨ 0 < ((upd (upd (upd (upd (upd (upd (fun _ => 0) 5 (i0 - i0 / 10 * 10)) 4 ((i0 / 10) - (i0 / 10) / 10 * 10)) 3 (((i0 / 10) / 10) - ((i0 / 10) / 10) / 10 * 10)) 2 ((((i0 / 10) / 10) / 10) - (((i0 / 10) / 10) / 10) / 10 * 10)) 1 (((((i0 / 10) / 10) / 10) / 10) - ((((i0 / 10) / 10) / 10) / 10) / 10 * 10)) 0 ((((((i0 / 10) / 10) / 10) / 10) / 10) - (((((i0 / 10) / 10) / 10) / 10) / 10) / 10 * 10)) 3).toInt ∨ 0 < ((upd (upd (upd (upd (upd (upd (fun _ => 0) 5 (i0 - i0 / 10 * 10)) 4 ((i0 / 10) - (i0 / 10) / 10 * 10)) 3 (((i0 / 10) / 10) - ((i0 / 10) / 10) / 10 * 10)) 2 ((((i0 / 10) / 10) / 10) - (((i0 / 10) / 10) / 10) / 10 * 10)) 1 (((((i0 / 10) / 10) / 10) / 10) - ((((i0 / 10) / 10) / 10) / 10) / 10 * 10)) 0 ((((((i0 / 10) / 10) / 10) / 10) / 10) - (((((i0 / 10) / 10) / 10) / 10) / 10) / 10 * 10)) 4).toInt ∨ 0 < ((upd (upd (upd (upd (upd (upd (fun _ => 0) 5 (i0 - i0 / 10 * 10)) 4 ((i0 / 10) - (i0 / 10) / 10 * 10)) 3 (((i0 / 10) / 10) - ((i0 / 10) / 10) / 10 * 10)) 2 ((((i0 / 10) / 10) / 10) - (((i0 / 10) / 10) / 10) / 10 * 10)) 1 (((((i0 / 10) / 10) / 10) / 10) - ((((i0 / 10) / 10) / 10) / 10) / 10 * 10)) 0 ((((((i0 / 10) / 10) / 10) / 10) / 10) - (((((i0 / 10) / 10) / 10) / 10) / 10) / 10 * 10)) 5).toInt := hf6
        refine lv_if_eq (tgt := 43) hx hb dX7_orderRefusal_36 (by decide) (fun c7 => ?_) (fun c7 => absurd c7 (by decide))
        refine lv_iconst (v := (-1)) hx hb dX7_orderRefusal_43 (by decide) ?_
        have hP9 := mx_subP (wc := []) hP [] rfl
        have hD9 := hD.sub (ws' := []) [] (by decide) rfl
        exact W.iret (v := (-1)) hx hb hr (fun t ht hW => ⟨⟨(-1), (), rfl, (by first | exact Or.inl (⟨rfl, by omega⟩) | exact Or.inr (⟨rfl, by omega⟩)), by rw [ht]; exact hP9, hD9⟩, hS.F ht⟩) hS.2.2 dX7_orderRefusal_44
      · exact absurd hf6 (dg_no (by omega) (by omega) (by omega))
    · have hf4 : i1.toInt < 0 ∨ 13 < i1.toInt := hf4
      refine lv_if_eq (tgt := 43) hx hb dX7_orderRefusal_26 (by decide) (fun c8 => ?_) (fun c8 => absurd c8 (by decide))
      refine lv_iconst (v := (-1)) hx hb dX7_orderRefusal_43 (by decide) ?_
      have hP9 := mx_subP (wc := []) hP [] rfl
      have hD9 := hD.sub (ws' := []) [] (by decide) rfl
      exact W.iret (v := (-1)) hx hb hr (fun t ht hW => ⟨⟨(-1), (), rfl, (by first | exact Or.inl (⟨rfl, by omega⟩) | exact Or.inr (⟨rfl, by omega⟩)), by rw [ht]; exact hP9, hD9⟩, hS.F ht⟩) hS.2.2 dX7_orderRefusal_44
  · have hf1 : i0.toInt < (0 : Int) ∨ (999999 : Int) < i0.toInt := hf1
    refine lv_if_ne (tgt := 14) hx hb dX7_orderRefusal_8 (by decide) (fun c9 => absurd c9 (by decide)) (fun c9 => ?_)
    refine lv_bipush (v := (-2)) hx hb dX7_orderRefusal_11 (by decide) ?_
    have hP9 := mx_subP (wc := []) hP [] rfl
    have hD9 := hD.sub (ws' := []) [] (by decide) rfl
    exact W.iret (v := (-2)) hx hb hr (fun t ht hW => ⟨⟨(-2), (), rfl, (by first | exact Or.inl (⟨rfl, by omega⟩) | exact Or.inr (⟨rfl, by omega⟩)), by rw [ht]; exact hP9, hD9⟩, hS.F ht⟩) hS.2.2 dX7_orderRefusal_13
set_option maxHeartbeats 4000000 in
set_option maxRecDepth 100000 in
theorem c_X7_spreadRefusalN (l : Launch) (dC : Nat → ClassId) (dI : Nat → Nat → Nat) (cI cZ cK : ClassId) (tS aK aV : Nat) (h : Nat) (o : Nat) (f : Nat) (g : Nat) (wk : Nat) (im : Nat) (kt : Nat) (dl : Nat) (j : Nat) (k : Nat) (ks : Nat) (kw : Nat) (kc : Nat) (kq : Nat) (km : Nat) (kd : Nat) (ka : Nat) (kk : Nat) (d : Nat) (op : Nat) (oq : Nat) (ov : Nat) (os : Nat) (i0 : Int32) (i1 : Int32) (sz : Nat) (hi0 : i0.toInt ≠ 0) : Ci l yX7_spreadRefusal (wq yX7_spreadRefusal cX7_spreadRefusal 4 (some .int)) ({ frames := 4, cells := 0, slots := 0, locals := 86 }) dC dI cI cZ cK tS aK aV [.ref h, .int i0, .int i1] sz [(h, .inr (7, [.ref k, .ref d, .ref j, .ref o, .ref f, .ref g, .ref wk, .ref im, .ref kt, .ref dl])), (o, .inr (3, [.ref k, .ref op, .int 0, .ref oq, .ref ov, .ref os])), (op, .inl (cI, 6, .inl (fun _ => 0))), (k, .inr (0, [.ref ks, .ref kw, .ref kc, .int (-6), .int 0, .int 0, .ref kq, .ref km, .ref kd, .int 0, .ref ka, .ref kk]))] (fun (r : Int32) (_ : Unit) => (r = (-1) ∧ (0 ≤ i0.toInt ∧ i0.toInt ≤ 999999)) ∨ (r = (-2) ∧ (i0.toInt < 0 ∨ 999999 < i0.toInt))) (fun _ => []) := by
  refine Met.ofW (cc := cX7_spreadRefusal) (maxL := 4) (ret := (some .int)) (by decide) rfl ?_
  intro p e s m args below meth c s₁ B hml hv
  obtain ⟨rfl, hsz, hP, hKx, hD0⟩ := hv
  have hx := B.exec
  have hb := B.bytes
  have hr := B.returns
  have hts := atoms_spec (ws := wq yX7_spreadRefusal cX7_spreadRefusal 4 (some .int)) B.pre
  have hown : s.vm.findClass RX7 = some m.cls := findClass_of_methodNamed B.named
  have hlocks := B.notSynchronized
  subst hsz
  have hD := hD0.self (sz := s.heap.size)
  generalize hAe : va_A [(h, .inr (7, [.ref k, .ref d, .ref j, .ref o, .ref f, .ref g, .ref wk, .ref im, .ref kt, .ref dl])), (o, .inr (3, [.ref k, .ref op, .int 0, .ref oq, .ref ov, .ref os])), (op, .inl (cI, 6, .inl (fun _ => 0))), (k, .inr (0, [.ref ks, .ref kw, .ref kc, .int (-6), .int 0, .int 0, .ref kq, .ref km, .ref kd, .int 0, .ref ka, .ref kk]))] s.heap.size = A at hD hKx ⊢
  have hA : ∀ q : Nat, s.heap.size ≤ q → A q := fun q h => by rw [← hAe]; exact Or.inr h
  have hS : va_S A s.heap s.heap [] := va_S.rf
  have hP : va_P (dC, dI) vwCl [(h, .inr (7, [.ref k, .ref d, .ref j, .ref o, .ref f, .ref g, .ref wk, .ref im, .ref kt, .ref dl])), (o, .inr (3, [.ref k, .ref op, .int 0, .ref oq, .ref ov, .ref os])), (op, .inl (cI, 6, .inl (fun _ => 0))), (k, .inr (0, [.ref ks, .ref kw, .ref kc, .int (-6), .int 0, .int 0, .ref kq, .ref km, .ref kd, .int 0, .ref ka, .ref kk]))] s.heap := hP
  have hl := lv_entry ([.ref h, .int i0, .int i1]) (n := 4) (Nat.le_of_ble_eq_true rfl)
  rw [lg_entry_eq]
  generalize (lg_sl ([.ref h, .int i0, .int i1]) ++ List.replicate (4 - (lg_sl ([.ref h, .int i0, .int i1])).length) Slot.unset).toArray = ls at hl ⊢
  have hl : lv_has ls 4 [(0, .ref h), (1, .int i0), (2, .int i1)] := hl
  have hK := hKx.1
  refine lv_aload_n hx hb dX7_spreadRefusal_0 rfl (lv_at hl 0 rfl) ?_
  refine lv_iload_n hx hb dX7_spreadRefusal_1 rfl (lv_at hl 1 rfl) ?_
  refine lv_iload_n hx hb dX7_spreadRefusal_2 rfl (lv_at hl 2 rfl) ?_
  refine mx_i (wr := []) (va_runV (As := [.int i0, .int i1]) (rest := []) ⟨hx, hb, hml, hown, hts⟩ (c_X7_orderRefusalN l dC dI cI cZ cK tS aK aV h o f g wk im kt dl j k ks kw kc kq km kd ka kk d op oq ov os i0 i1 s.heap.size (by first | omega | decide | assumption | trivial)) (cwV 2 hts (gw_v (fun _ h9 => List.mem_cons_of_mem _ h9) wm_152 wm_153 wm_154 wm_2 wm_155) rfl rfl rfl (by decide +kernel) ⟨Nat.le_of_ble_eq_true rfl, Nat.le_of_ble_eq_true rfl⟩) (mx_preV (C := RX7) (T := TX7) (N := 10) (ci := 7) hKx hP hD hS hA [0, 1, 2, 3] (by decide) rfl rfl rfl) rfl rfl hl.1 rfl (lv_room (Nat.le_of_ble_eq_true rfl)) dX7_spreadRefusal_3 ⟨Nat.le_of_ble_eq_true rfl, Nat.le_of_ble_eq_true rfl⟩) hP hD hS hA [0, 1, 2, 3] [] rfl rfl (by decide) (by decide) (fun r1 u1 H locs hq1 hP hD hS => ?_)
  replace hP : va_P (dC, dI) vwCl [] H := hP
  replace hD : va_D A [] := hD
  rcases hq1 with ⟨rfl, hf1⟩ | ⟨rfl, hf1⟩
  · have hf1 : 0 ≤ i0.toInt ∧ i0.toInt ≤ 999999 := hf1
    refine lv_istore_n (lv' := [(3, .int (-1)), (0, .ref h), (1, .int i0), (2, .int i1)]) hx hb dX7_spreadRefusal_6 rfl hl (by decide) rfl (fun ls hl => ?_)
    refine lv_iload_n hx hb dX7_spreadRefusal_7 rfl (lv_at hl 0 rfl) ?_
    refine lv_if_eq (tgt := 13) hx hb dX7_spreadRefusal_8 (by decide) (fun c2 => absurd c2 (by decide)) (fun c2 => ?_)
    refine lv_iload_n hx hb dX7_spreadRefusal_11 rfl (lv_at hl 0 rfl) ?_
    have hP9 := mx_subP (wc := []) hP [] rfl
    have hD9 := hD.sub (ws' := []) [] (by decide) rfl
    exact W.iret (v := (-1)) hx hb hr (fun t ht hW => ⟨⟨(-1), (), rfl, (by first | exact Or.inl (⟨rfl, by omega⟩) | exact Or.inr (⟨rfl, by omega⟩)), by rw [ht]; exact hP9, hD9⟩, hS.F ht⟩) hS.2.2 dX7_spreadRefusal_12
  · have hf1 : i0.toInt < 0 ∨ 999999 < i0.toInt := hf1
    refine lv_istore_n (lv' := [(3, .int (-2)), (0, .ref h), (1, .int i0), (2, .int i1)]) hx hb dX7_spreadRefusal_6 rfl hl (by decide) rfl (fun ls hl => ?_)
    refine lv_iload_n hx hb dX7_spreadRefusal_7 rfl (lv_at hl 0 rfl) ?_
    refine lv_if_eq (tgt := 13) hx hb dX7_spreadRefusal_8 (by decide) (fun c3 => absurd c3 (by decide)) (fun c3 => ?_)
    refine lv_iload_n hx hb dX7_spreadRefusal_11 rfl (lv_at hl 0 rfl) ?_
    have hP9 := mx_subP (wc := []) hP [] rfl
    have hD9 := hD.sub (ws' := []) [] (by decide) rfl
    exact W.iret (v := (-2)) hx hb hr (fun t ht hW => ⟨⟨(-2), (), rfl, (by first | exact Or.inl (⟨rfl, by omega⟩) | exact Or.inr (⟨rfl, by omega⟩)), by rw [ht]; exact hP9, hD9⟩, hS.F ht⟩) hS.2.2 dX7_spreadRefusal_12
set_option maxHeartbeats 4000000 in
set_option maxRecDepth 100000 in
theorem c_X7_sharedN (l : Launch) (dC : Nat → ClassId) (dI : Nat → Nat → Nat) (cI cZ cK : ClassId) (tS aK aV : Nat) (h : Nat) (o : Nat) (f : Nat) (g : Nat) (wk : Nat) (im : Nat) (kt : Nat) (dl : Nat) (j : Nat) (k : Nat) (ks : Nat) (kw : Nat) (kc : Nat) (kq : Nat) (km : Nat) (kd : Nat) (ka : Nat) (kk : Nat) (d : Nat) (op : Nat) (oq : Nat) (ov : Nat) (os : Nat) (i0 : Int32) (i1 : Int32) (sz : Nat) (hi0 : i0.toInt ≠ 0) : Ci l yX7_shared (wq yX7_shared cX7_shared 4 (some .int)) ({ frames := 4, cells := 0, slots := 0, locals := 86 }) dC dI cI cZ cK tS aK aV [.ref h, .int i0, .int i1] sz [(h, .inr (7, [.ref k, .ref d, .ref j, .ref o, .ref f, .ref g, .ref wk, .ref im, .ref kt, .ref dl])), (o, .inr (3, [.ref k, .ref op, .int 0, .ref oq, .ref ov, .ref os])), (op, .inl (cI, 6, .inl (fun _ => 0))), (k, .inr (0, [.ref ks, .ref kw, .ref kc, .int (-6), .int 0, .int 0, .ref kq, .ref km, .ref kd, .int 0, .ref ka, .ref kk]))] (fun (r : Int32) (_ : Unit) => (r = (-1) ∧ (0 ≤ i0.toInt ∧ i0.toInt ≤ 999999)) ∨ (r = (-2) ∧ (i0.toInt < 0 ∨ 999999 < i0.toInt))) (fun _ => []) := by
  refine Met.ofW (cc := cX7_shared) (maxL := 4) (ret := (some .int)) (by decide) rfl ?_
  intro p e s m args below meth c s₁ B hml hv
  obtain ⟨rfl, hsz, hP, hKx, hD0⟩ := hv
  have hx := B.exec
  have hb := B.bytes
  have hr := B.returns
  have hts := atoms_spec (ws := wq yX7_shared cX7_shared 4 (some .int)) B.pre
  have hown : s.vm.findClass RX7 = some m.cls := findClass_of_methodNamed B.named
  have hlocks := B.notSynchronized
  subst hsz
  have hD := hD0.self (sz := s.heap.size)
  generalize hAe : va_A [(h, .inr (7, [.ref k, .ref d, .ref j, .ref o, .ref f, .ref g, .ref wk, .ref im, .ref kt, .ref dl])), (o, .inr (3, [.ref k, .ref op, .int 0, .ref oq, .ref ov, .ref os])), (op, .inl (cI, 6, .inl (fun _ => 0))), (k, .inr (0, [.ref ks, .ref kw, .ref kc, .int (-6), .int 0, .int 0, .ref kq, .ref km, .ref kd, .int 0, .ref ka, .ref kk]))] s.heap.size = A at hD hKx ⊢
  have hA : ∀ q : Nat, s.heap.size ≤ q → A q := fun q h => by rw [← hAe]; exact Or.inr h
  have hS : va_S A s.heap s.heap [] := va_S.rf
  have hP : va_P (dC, dI) vwCl [(h, .inr (7, [.ref k, .ref d, .ref j, .ref o, .ref f, .ref g, .ref wk, .ref im, .ref kt, .ref dl])), (o, .inr (3, [.ref k, .ref op, .int 0, .ref oq, .ref ov, .ref os])), (op, .inl (cI, 6, .inl (fun _ => 0))), (k, .inr (0, [.ref ks, .ref kw, .ref kc, .int (-6), .int 0, .int 0, .ref kq, .ref km, .ref kd, .int 0, .ref ka, .ref kk]))] s.heap := hP
  have hl := lv_entry ([.ref h, .int i0, .int i1]) (n := 4) (Nat.le_of_ble_eq_true rfl)
  rw [lg_entry_eq]
  generalize (lg_sl ([.ref h, .int i0, .int i1]) ++ List.replicate (4 - (lg_sl ([.ref h, .int i0, .int i1])).length) Slot.unset).toArray = ls at hl ⊢
  have hl : lv_has ls 4 [(0, .ref h), (1, .int i0), (2, .int i1)] := hl
  have hK := hKx.1
  refine lv_aload_n hx hb dX7_shared_0 rfl (lv_at hl 0 rfl) ?_
  refine lv_iload_n hx hb dX7_shared_1 rfl (lv_at hl 1 rfl) ?_
  refine lv_iload_n hx hb dX7_shared_2 rfl (lv_at hl 2 rfl) ?_
  refine mx_i (wr := []) (va_runV (As := [.int i0, .int i1]) (rest := []) ⟨hx, hb, hml, hown, hts⟩ (c_X7_orderRefusalN l dC dI cI cZ cK tS aK aV h o f g wk im kt dl j k ks kw kc kq km kd ka kk d op oq ov os i0 i1 s.heap.size (by first | omega | decide | assumption | trivial)) (cwV 2 hts (gw_v (fun _ h9 => List.mem_cons_of_mem _ h9) wm_152 wm_153 wm_154 wm_2 wm_155) rfl rfl rfl (by decide +kernel) ⟨Nat.le_of_ble_eq_true rfl, Nat.le_of_ble_eq_true rfl⟩) (mx_preV (C := RX7) (T := TX7) (N := 10) (ci := 7) hKx hP hD hS hA [0, 1, 2, 3] (by decide) rfl rfl rfl) rfl rfl hl.1 rfl (lv_room (Nat.le_of_ble_eq_true rfl)) dX7_shared_3 ⟨Nat.le_of_ble_eq_true rfl, Nat.le_of_ble_eq_true rfl⟩) hP hD hS hA [0, 1, 2, 3] [] rfl rfl (by decide) (by decide) (fun r1 u1 H locs hq1 hP hD hS => ?_)
  replace hP : va_P (dC, dI) vwCl [] H := hP
  replace hD : va_D A [] := hD
  rcases hq1 with ⟨rfl, hf1⟩ | ⟨rfl, hf1⟩
  · have hf1 : 0 ≤ i0.toInt ∧ i0.toInt ≤ 999999 := hf1
    refine lv_istore_n (lv' := [(3, .int (-1)), (0, .ref h), (1, .int i0), (2, .int i1)]) hx hb dX7_shared_6 rfl hl (by decide) rfl (fun ls hl => ?_)
    refine lv_iload_n hx hb dX7_shared_7 rfl (lv_at hl 0 rfl) ?_
    refine lv_if_eq (tgt := 15) hx hb dX7_shared_8 (by decide) (fun c2 => absurd c2 (by decide)) (fun c2 => ?_)
    refine lv_iload_n hx hb dX7_shared_11 rfl (lv_at hl 0 rfl) ?_
    refine lv_goto (tgt := 23) hx hb dX7_shared_12 (by decide) ?_
    have hP9 := mx_subP (wc := []) hP [] rfl
    have hD9 := hD.sub (ws' := []) [] (by decide) rfl
    exact W.iret (v := (-1)) hx hb hr (fun t ht hW => ⟨⟨(-1), (), rfl, (by first | exact Or.inl (⟨rfl, by omega⟩) | exact Or.inr (⟨rfl, by omega⟩)), by rw [ht]; exact hP9, hD9⟩, hS.F ht⟩) hS.2.2 dX7_shared_23
  · have hf1 : i0.toInt < 0 ∨ 999999 < i0.toInt := hf1
    refine lv_istore_n (lv' := [(3, .int (-2)), (0, .ref h), (1, .int i0), (2, .int i1)]) hx hb dX7_shared_6 rfl hl (by decide) rfl (fun ls hl => ?_)
    refine lv_iload_n hx hb dX7_shared_7 rfl (lv_at hl 0 rfl) ?_
    refine lv_if_eq (tgt := 15) hx hb dX7_shared_8 (by decide) (fun c3 => absurd c3 (by decide)) (fun c3 => ?_)
    refine lv_iload_n hx hb dX7_shared_11 rfl (lv_at hl 0 rfl) ?_
    refine lv_goto (tgt := 23) hx hb dX7_shared_12 (by decide) ?_
    have hP9 := mx_subP (wc := []) hP [] rfl
    have hD9 := hD.sub (ws' := []) [] (by decide) rfl
    exact W.iret (v := (-2)) hx hb hr (fun t ht hW => ⟨⟨(-2), (), rfl, (by first | exact Or.inl (⟨rfl, by omega⟩) | exact Or.inr (⟨rfl, by omega⟩)), by rw [ht]; exact hP9, hD9⟩, hS.F ht⟩) hS.2.2 dX7_shared_23
set_option maxHeartbeats 4000000 in
set_option maxRecDepth 100000 in
theorem c_X7_leastN (l : Launch) (dC : Nat → ClassId) (dI : Nat → Nat → Nat) (cI cZ cK : ClassId) (tS aK aV : Nat) (h : Nat) (o : Nat) (f : Nat) (g : Nat) (wk : Nat) (im : Nat) (kt : Nat) (dl : Nat) (j : Nat) (k : Nat) (ks : Nat) (kw : Nat) (kc : Nat) (kq : Nat) (km : Nat) (kd : Nat) (ka : Nat) (kk : Nat) (d : Nat) (op : Nat) (oq : Nat) (ov : Nat) (os : Nat) (i0 : Int32) (i1 : Int32) (sz : Nat) (hi0 : i0.toInt ≠ 0) : Ci l yX7_least (wq yX7_least cX7_least 4 (some .int)) ({ frames := 5, cells := 0, slots := 0, locals := 109 }) dC dI cI cZ cK tS aK aV [.ref h, .int i0, .int i1] sz [(h, .inr (7, [.ref k, .ref d, .ref j, .ref o, .ref f, .ref g, .ref wk, .ref im, .ref kt, .ref dl])), (o, .inr (3, [.ref k, .ref op, .int 0, .ref oq, .ref ov, .ref os])), (op, .inl (cI, 6, .inl (fun _ => 0))), (k, .inr (0, [.ref ks, .ref kw, .ref kc, .int (-6), .int 0, .int 0, .ref kq, .ref km, .ref kd, .int 0, .ref ka, .ref kk]))] (fun (r : Int32) (_ : Unit) => (r = (-1) ∧ (0 ≤ i0.toInt ∧ i0.toInt ≤ 999999)) ∨ (r = (-2) ∧ (i0.toInt < 0 ∨ 999999 < i0.toInt))) (fun _ => []) := by
  refine Met.ofW (cc := cX7_least) (maxL := 4) (ret := (some .int)) (by decide) rfl ?_
  intro p e s m args below meth c s₁ B hml hv
  obtain ⟨rfl, hsz, hP, hKx, hD0⟩ := hv
  have hx := B.exec
  have hb := B.bytes
  have hr := B.returns
  have hts := atoms_spec (ws := wq yX7_least cX7_least 4 (some .int)) B.pre
  have hown : s.vm.findClass RX7 = some m.cls := findClass_of_methodNamed B.named
  have hlocks := B.notSynchronized
  subst hsz
  have hD := hD0.self (sz := s.heap.size)
  generalize hAe : va_A [(h, .inr (7, [.ref k, .ref d, .ref j, .ref o, .ref f, .ref g, .ref wk, .ref im, .ref kt, .ref dl])), (o, .inr (3, [.ref k, .ref op, .int 0, .ref oq, .ref ov, .ref os])), (op, .inl (cI, 6, .inl (fun _ => 0))), (k, .inr (0, [.ref ks, .ref kw, .ref kc, .int (-6), .int 0, .int 0, .ref kq, .ref km, .ref kd, .int 0, .ref ka, .ref kk]))] s.heap.size = A at hD hKx ⊢
  have hA : ∀ q : Nat, s.heap.size ≤ q → A q := fun q h => by rw [← hAe]; exact Or.inr h
  have hS : va_S A s.heap s.heap [] := va_S.rf
  have hP : va_P (dC, dI) vwCl [(h, .inr (7, [.ref k, .ref d, .ref j, .ref o, .ref f, .ref g, .ref wk, .ref im, .ref kt, .ref dl])), (o, .inr (3, [.ref k, .ref op, .int 0, .ref oq, .ref ov, .ref os])), (op, .inl (cI, 6, .inl (fun _ => 0))), (k, .inr (0, [.ref ks, .ref kw, .ref kc, .int (-6), .int 0, .int 0, .ref kq, .ref km, .ref kd, .int 0, .ref ka, .ref kk]))] s.heap := hP
  have hl := lv_entry ([.ref h, .int i0, .int i1]) (n := 4) (Nat.le_of_ble_eq_true rfl)
  rw [lg_entry_eq]
  generalize (lg_sl ([.ref h, .int i0, .int i1]) ++ List.replicate (4 - (lg_sl ([.ref h, .int i0, .int i1])).length) Slot.unset).toArray = ls at hl ⊢
  have hl : lv_has ls 4 [(0, .ref h), (1, .int i0), (2, .int i1)] := hl
  have hK := hKx.1
  refine lv_aload_n hx hb dX7_least_0 rfl (lv_at hl 0 rfl) ?_
  refine lv_iload_n hx hb dX7_least_1 rfl (lv_at hl 1 rfl) ?_
  refine lv_iload_n hx hb dX7_least_2 rfl (lv_at hl 2 rfl) ?_
  refine mx_i (wr := []) (va_runV (As := [.int i0, .int i1]) (rest := []) ⟨hx, hb, hml, hown, hts⟩ (c_X7_spreadRefusalN l dC dI cI cZ cK tS aK aV h o f g wk im kt dl j k ks kw kc kq km kd ka kk d op oq ov os i0 i1 s.heap.size (by first | omega | decide | assumption | trivial)) (cwV 2 hts (gw_v (fun _ h9 => List.mem_cons_of_mem _ h9) wm_186 wm_187 wm_188 wm_2 wm_189) rfl rfl rfl (by decide +kernel) ⟨Nat.le_of_ble_eq_true rfl, Nat.le_of_ble_eq_true rfl⟩) (mx_preV (C := RX7) (T := TX7) (N := 10) (ci := 7) hKx hP hD hS hA [0, 1, 2, 3] (by decide) rfl rfl rfl) rfl rfl hl.1 rfl (lv_room (Nat.le_of_ble_eq_true rfl)) dX7_least_3 ⟨Nat.le_of_ble_eq_true rfl, Nat.le_of_ble_eq_true rfl⟩) hP hD hS hA [0, 1, 2, 3] [] rfl rfl (by decide) (by decide) (fun r1 u1 H locs hq1 hP hD hS => ?_)
  replace hP : va_P (dC, dI) vwCl [] H := hP
  replace hD : va_D A [] := hD
  rcases hq1 with ⟨rfl, hf1⟩ | ⟨rfl, hf1⟩
  · have hf1 : 0 ≤ i0.toInt ∧ i0.toInt ≤ 999999 := hf1
    refine lv_istore_n (lv' := [(3, .int (-1)), (0, .ref h), (1, .int i0), (2, .int i1)]) hx hb dX7_least_6 rfl hl (by decide) rfl (fun ls hl => ?_)
    refine lv_iload_n hx hb dX7_least_7 rfl (lv_at hl 0 rfl) ?_
    refine lv_if_eq (tgt := 15) hx hb dX7_least_8 (by decide) (fun c2 => absurd c2 (by decide)) (fun c2 => ?_)
    refine lv_iload_n hx hb dX7_least_11 rfl (lv_at hl 0 rfl) ?_
    refine lv_goto (tgt := 23) hx hb dX7_least_12 (by decide) ?_
    have hP9 := mx_subP (wc := []) hP [] rfl
    have hD9 := hD.sub (ws' := []) [] (by decide) rfl
    exact W.iret (v := (-1)) hx hb hr (fun t ht hW => ⟨⟨(-1), (), rfl, (by first | exact Or.inl (⟨rfl, by omega⟩) | exact Or.inr (⟨rfl, by omega⟩)), by rw [ht]; exact hP9, hD9⟩, hS.F ht⟩) hS.2.2 dX7_least_23
  · have hf1 : i0.toInt < 0 ∨ 999999 < i0.toInt := hf1
    refine lv_istore_n (lv' := [(3, .int (-2)), (0, .ref h), (1, .int i0), (2, .int i1)]) hx hb dX7_least_6 rfl hl (by decide) rfl (fun ls hl => ?_)
    refine lv_iload_n hx hb dX7_least_7 rfl (lv_at hl 0 rfl) ?_
    refine lv_if_eq (tgt := 15) hx hb dX7_least_8 (by decide) (fun c3 => absurd c3 (by decide)) (fun c3 => ?_)
    refine lv_iload_n hx hb dX7_least_11 rfl (lv_at hl 0 rfl) ?_
    refine lv_goto (tgt := 23) hx hb dX7_least_12 (by decide) ?_
    have hP9 := mx_subP (wc := []) hP [] rfl
    have hD9 := hD.sub (ws' := []) [] (by decide) rfl
    exact W.iret (v := (-2)) hx hb hr (fun t ht hW => ⟨⟨(-2), (), rfl, (by first | exact Or.inl (⟨rfl, by omega⟩) | exact Or.inr (⟨rfl, by omega⟩)), by rw [ht]; exact hP9, hD9⟩, hS.F ht⟩) hS.2.2 dX7_least_23
set_option maxHeartbeats 4000000 in
set_option maxRecDepth 100000 in
theorem c_X7_mostN (l : Launch) (dC : Nat → ClassId) (dI : Nat → Nat → Nat) (cI cZ cK : ClassId) (tS aK aV : Nat) (h : Nat) (o : Nat) (f : Nat) (g : Nat) (wk : Nat) (im : Nat) (kt : Nat) (dl : Nat) (j : Nat) (k : Nat) (ks : Nat) (kw : Nat) (kc : Nat) (kq : Nat) (km : Nat) (kd : Nat) (ka : Nat) (kk : Nat) (d : Nat) (op : Nat) (oq : Nat) (ov : Nat) (os : Nat) (i0 : Int32) (i1 : Int32) (i2 : Int32) (sz : Nat) (hi0 : i0.toInt ≠ 0) : Ci l yX7_most (wq yX7_most cX7_most 5 (some .int)) ({ frames := 5, cells := 0, slots := 0, locals := 109 }) dC dI cI cZ cK tS aK aV [.ref h, .int i0, .int i1, .int i2] sz [(h, .inr (7, [.ref k, .ref d, .ref j, .ref o, .ref f, .ref g, .ref wk, .ref im, .ref kt, .ref dl])), (o, .inr (3, [.ref k, .ref op, .int 0, .ref oq, .ref ov, .ref os])), (op, .inl (cI, 6, .inl (fun _ => 0))), (k, .inr (0, [.ref ks, .ref kw, .ref kc, .int (-6), .int 0, .int 0, .ref kq, .ref km, .ref kd, .int 0, .ref ka, .ref kk]))] (fun (r : Int32) (_ : Unit) => (r = (-1) ∧ (0 ≤ i0.toInt ∧ i0.toInt ≤ 999999 ∧ 0 ≤ i2.toInt ∧ i2.toInt ≤ 1)) ∨ (r = (-2) ∧ (i0.toInt < 0 ∨ 999999 < i0.toInt ∨ i2.toInt < 0 ∨ 1 < i2.toInt))) (fun _ => []) := by
  refine Met.ofW (cc := cX7_most) (maxL := 5) (ret := (some .int)) (by decide) rfl ?_
  intro p e s m args below meth c s₁ B hml hv
  obtain ⟨rfl, hsz, hP, hKx, hD0⟩ := hv
  have hx := B.exec
  have hb := B.bytes
  have hr := B.returns
  have hts := atoms_spec (ws := wq yX7_most cX7_most 5 (some .int)) B.pre
  have hown : s.vm.findClass RX7 = some m.cls := findClass_of_methodNamed B.named
  have hlocks := B.notSynchronized
  subst hsz
  have hD := hD0.self (sz := s.heap.size)
  generalize hAe : va_A [(h, .inr (7, [.ref k, .ref d, .ref j, .ref o, .ref f, .ref g, .ref wk, .ref im, .ref kt, .ref dl])), (o, .inr (3, [.ref k, .ref op, .int 0, .ref oq, .ref ov, .ref os])), (op, .inl (cI, 6, .inl (fun _ => 0))), (k, .inr (0, [.ref ks, .ref kw, .ref kc, .int (-6), .int 0, .int 0, .ref kq, .ref km, .ref kd, .int 0, .ref ka, .ref kk]))] s.heap.size = A at hD hKx ⊢
  have hA : ∀ q : Nat, s.heap.size ≤ q → A q := fun q h => by rw [← hAe]; exact Or.inr h
  have hS : va_S A s.heap s.heap [] := va_S.rf
  have hP : va_P (dC, dI) vwCl [(h, .inr (7, [.ref k, .ref d, .ref j, .ref o, .ref f, .ref g, .ref wk, .ref im, .ref kt, .ref dl])), (o, .inr (3, [.ref k, .ref op, .int 0, .ref oq, .ref ov, .ref os])), (op, .inl (cI, 6, .inl (fun _ => 0))), (k, .inr (0, [.ref ks, .ref kw, .ref kc, .int (-6), .int 0, .int 0, .ref kq, .ref km, .ref kd, .int 0, .ref ka, .ref kk]))] s.heap := hP
  have hl := lv_entry ([.ref h, .int i0, .int i1, .int i2]) (n := 5) (Nat.le_of_ble_eq_true rfl)
  rw [lg_entry_eq]
  generalize (lg_sl ([.ref h, .int i0, .int i1, .int i2]) ++ List.replicate (5 - (lg_sl ([.ref h, .int i0, .int i1, .int i2])).length) Slot.unset).toArray = ls at hl ⊢
  have hl : lv_has ls 5 [(0, .ref h), (1, .int i0), (2, .int i1), (3, .int i2)] := hl
  have hK := hKx.1
  refine lv_iload_n hx hb dX7_most_0 rfl (lv_at hl 3 rfl) ?_
  refine lv_iconst (v := 0) hx hb dX7_most_1 (by decide) ?_
  refine lv_iconst (v := 1) hx hb dX7_most_2 (by decide) ?_
  refine mx_i (wr := [(h, .inr (7, [.ref k, .ref d, .ref j, .ref o, .ref f, .ref g, .ref wk, .ref im, .ref kt, .ref dl])), (o, .inr (3, [.ref k, .ref op, .int 0, .ref oq, .ref ov, .ref os])), (op, .inl (cI, 6, .inl (fun _ => 0))), (k, .inr (0, [.ref ks, .ref kw, .ref kc, .int (-6), .int 0, .int 0, .ref kq, .ref km, .ref kd, .int 0, .ref ka, .ref kk]))]) (va_runS (As := [.int i2, .int 0, .int 1]) (rest := []) ⟨hx, hb, hml, hown, hts⟩ (c_X7_isIn l dC dI cI cZ cK tS aK aV i2 0 1 s.heap.size) (va_cwS 3 hts (gw_s (fun _ h9 => List.mem_cons_of_mem _ h9) wm_0 wm_1 wm_2 wm_3) rfl rfl rfl (by decide +kernel) ⟨Nat.le_of_ble_eq_true rfl, Nat.le_of_ble_eq_true rfl⟩) (mx_preS hKx hP hD hS hA [] (by decide) rfl) rfl rfl hl.1 rfl (lv_room (Nat.le_of_ble_eq_true rfl)) dX7_most_3 ⟨Nat.le_of_ble_eq_true rfl, Nat.le_of_ble_eq_true rfl⟩) hP hD hS hA [] [0, 1, 2, 3] rfl rfl (by decide) (by decide) (fun r1 u1 H locs hq1 hP hD hS => ?_)
  replace hP : va_P (dC, dI) vwCl [(h, .inr (7, [.ref k, .ref d, .ref j, .ref o, .ref f, .ref g, .ref wk, .ref im, .ref kt, .ref dl])), (o, .inr (3, [.ref k, .ref op, .int 0, .ref oq, .ref ov, .ref os])), (op, .inl (cI, 6, .inl (fun _ => 0))), (k, .inr (0, [.ref ks, .ref kw, .ref kc, .int (-6), .int 0, .int 0, .ref kq, .ref km, .ref kd, .int 0, .ref ka, .ref kk]))] H := hP
  replace hD : va_D A [(h, .inr (7, [.ref k, .ref d, .ref j, .ref o, .ref f, .ref g, .ref wk, .ref im, .ref kt, .ref dl])), (o, .inr (3, [.ref k, .ref op, .int 0, .ref oq, .ref ov, .ref os])), (op, .inl (cI, 6, .inl (fun _ => 0))), (k, .inr (0, [.ref ks, .ref kw, .ref kc, .int (-6), .int 0, .int 0, .ref kq, .ref km, .ref kd, .int 0, .ref ka, .ref kk]))] := hD
  rcases hq1 with ⟨rfl, hf1⟩ | ⟨rfl, hf1⟩
  · have hf1 : (0 : Int) ≤ i2.toInt ∧ i2.toInt ≤ (1 : Int) := hf1
    refine lv_if_ne (tgt := 12) hx hb dX7_most_6 (by decide) (fun c2 => ?_) (fun c2 => absurd c2 (by decide))
    refine lv_aload_n hx hb dX7_most_12 rfl (lv_at hl 0 rfl) ?_
    refine lv_iload_n hx hb dX7_most_13 rfl (lv_at hl 1 rfl) ?_
    refine lv_iload_n hx hb dX7_most_14 rfl (lv_at hl 2 rfl) ?_
    refine mx_i (wr := []) (va_runV (As := [.int i0, .int i1]) (rest := []) ⟨hx, hb, hml, hown, hts⟩ (c_X7_spreadRefusalN l dC dI cI cZ cK tS aK aV h o f g wk im kt dl j k ks kw kc kq km kd ka kk d op oq ov os i0 i1 H.size (by first | omega | decide | assumption | trivial)) (cwV 2 hts (gw_v (fun _ h9 => List.mem_cons_of_mem _ h9) wm_186 wm_187 wm_188 wm_2 wm_189) rfl rfl rfl (by decide +kernel) ⟨Nat.le_of_ble_eq_true rfl, Nat.le_of_ble_eq_true rfl⟩) (mx_preV (C := RX7) (T := TX7) (N := 10) (ci := 7) hKx hP hD hS hA [0, 1, 2, 3] (by decide) rfl rfl rfl) rfl rfl hl.1 rfl (lv_room (Nat.le_of_ble_eq_true rfl)) dX7_most_15 ⟨Nat.le_of_ble_eq_true rfl, Nat.le_of_ble_eq_true rfl⟩) hP hD hS hA [0, 1, 2, 3] [] rfl rfl (by decide) (by decide) (fun r3 u3 H locs hq3 hP hD hS => ?_)
    replace hP : va_P (dC, dI) vwCl [] H := hP
    replace hD : va_D A [] := hD
    rcases hq3 with ⟨rfl, hf3⟩ | ⟨rfl, hf3⟩
    · have hf3 : 0 ≤ i0.toInt ∧ i0.toInt ≤ 999999 := hf3
      refine lv_istore (lv' := [(4, .int (-1)), (0, .ref h), (1, .int i0), (2, .int i1), (3, .int i2)]) hx hb dX7_most_18 hl (by decide) rfl (fun ls hl => ?_)
      refine lv_iload hx hb dX7_most_20 (lv_at hl 0 rfl) ?_
      refine lv_if_eq (tgt := 30) hx hb dX7_most_22 (by decide) (fun c4 => absurd c4 (by decide)) (fun c4 => ?_)
      refine lv_iload hx hb dX7_most_25 (lv_at hl 0 rfl) ?_
      refine lv_goto (tgt := 48) hx hb dX7_most_27 (by decide) ?_
      have hP9 := mx_subP (wc := []) hP [] rfl
      have hD9 := hD.sub (ws' := []) [] (by decide) rfl
      exact W.iret (v := (-1)) hx hb hr (fun t ht hW => ⟨⟨(-1), (), rfl, (by first | exact Or.inl (⟨rfl, by omega⟩) | exact Or.inr (⟨rfl, by omega⟩)), by rw [ht]; exact hP9, hD9⟩, hS.F ht⟩) hS.2.2 dX7_most_48
    · have hf3 : i0.toInt < 0 ∨ 999999 < i0.toInt := hf3
      refine lv_istore (lv' := [(4, .int (-2)), (0, .ref h), (1, .int i0), (2, .int i1), (3, .int i2)]) hx hb dX7_most_18 hl (by decide) rfl (fun ls hl => ?_)
      refine lv_iload hx hb dX7_most_20 (lv_at hl 0 rfl) ?_
      refine lv_if_eq (tgt := 30) hx hb dX7_most_22 (by decide) (fun c5 => absurd c5 (by decide)) (fun c5 => ?_)
      refine lv_iload hx hb dX7_most_25 (lv_at hl 0 rfl) ?_
      refine lv_goto (tgt := 48) hx hb dX7_most_27 (by decide) ?_
      have hP9 := mx_subP (wc := []) hP [] rfl
      have hD9 := hD.sub (ws' := []) [] (by decide) rfl
      exact W.iret (v := (-2)) hx hb hr (fun t ht hW => ⟨⟨(-2), (), rfl, (by first | exact Or.inl (⟨rfl, by omega⟩) | exact Or.inr (⟨rfl, by omega⟩)), by rw [ht]; exact hP9, hD9⟩, hS.F ht⟩) hS.2.2 dX7_most_48
  · have hf1 : i2.toInt < (0 : Int) ∨ (1 : Int) < i2.toInt := hf1
    refine lv_if_ne (tgt := 12) hx hb dX7_most_6 (by decide) (fun c6 => absurd c6 (by decide)) (fun c6 => ?_)
    refine lv_bipush (v := (-2)) hx hb dX7_most_9 (by decide) ?_
    have hP9 := mx_subP (wc := []) hP [] rfl
    have hD9 := hD.sub (ws' := []) [] (by decide) rfl
    exact W.iret (v := (-2)) hx hb hr (fun t ht hW => ⟨⟨(-2), (), rfl, (by first | exact Or.inl (⟨rfl, by omega⟩) | exact Or.inr (⟨rfl, by omega⟩)), by rw [ht]; exact hP9, hD9⟩, hS.F ht⟩) hS.2.2 dX7_most_11
set_option maxHeartbeats 4000000 in
set_option maxRecDepth 100000 in
theorem c_X6_tryToBoil (l : Launch) (dC : Nat → ClassId) (dI : Nat → Nat → Nat) (cI cZ cK : ClassId) (tS aK aV : Nat) (wk : Nat) (k : Nat) (ks : Nat) (kw : Nat) (kc : Nat) (kq : Nat) (km : Nat) (kd : Nat) (ka : Nat) (kk : Nat) (i0 : Int32) (i1 : Int32) (sz : Nat) : Cv l yX6_tryToBoil (wq yX6_tryToBoil cX6_tryToBoil 4 none) ({ frames := 2, cells := 0, slots := 0, locals := 43 }) dC dI cI cZ cK tS aK aV [.ref wk, .int i0, .int i1] sz [(wk, .inr (6, [.ref k, .int 800, .int 0, .int 0])), (k, .inr (0, [.ref ks, .ref kw, .ref kc, .int (-6), .int 0, .int 0, .ref kq, .ref km, .ref kd, .int 0, .ref ka, .ref kk]))] (fun (u : Unit) => True) (fun _ => [(wk, .inr (6, [.ref k, .int 800, .int 0, .int 0])), (k, .inr (0, [.ref ks, .ref kw, .ref kc, .int (-6), .int 0, .int 0, .ref kq, .ref km, .ref kd, .int 0, .ref ka, .ref kk]))]) := by
  refine Met.ofW (cc := cX6_tryToBoil) (maxL := 4) (ret := none) (by decide) rfl ?_
  intro p e s m args below meth c s₁ B hml hv
  obtain ⟨rfl, hsz, hP, hKx, hD0⟩ := hv
  have hx := B.exec
  have hb := B.bytes
  have hr := B.returns
  have hts := atoms_spec (ws := wq yX6_tryToBoil cX6_tryToBoil 4 none) B.pre
  have hown : s.vm.findClass RX6 = some m.cls := findClass_of_methodNamed B.named
  have hlocks := B.notSynchronized
  subst hsz
  have hD := hD0.self (sz := s.heap.size)
  generalize hAe : va_A [(wk, .inr (6, [.ref k, .int 800, .int 0, .int 0])), (k, .inr (0, [.ref ks, .ref kw, .ref kc, .int (-6), .int 0, .int 0, .ref kq, .ref km, .ref kd, .int 0, .ref ka, .ref kk]))] s.heap.size = A at hD hKx ⊢
  have hA : ∀ q : Nat, s.heap.size ≤ q → A q := fun q h => by rw [← hAe]; exact Or.inr h
  have hS : va_S A s.heap s.heap [] := va_S.rf
  have hP : va_P (dC, dI) vwCl [(wk, .inr (6, [.ref k, .int 800, .int 0, .int 0])), (k, .inr (0, [.ref ks, .ref kw, .ref kc, .int (-6), .int 0, .int 0, .ref kq, .ref km, .ref kd, .int 0, .ref ka, .ref kk]))] s.heap := hP
  have hl := lv_entry ([.ref wk, .int i0, .int i1]) (n := 4) (Nat.le_of_ble_eq_true rfl)
  rw [lg_entry_eq]
  generalize (lg_sl ([.ref wk, .int i0, .int i1]) ++ List.replicate (4 - (lg_sl ([.ref wk, .int i0, .int i1])).length) Slot.unset).toArray = ls at hl ⊢
  have hl : lv_has ls 4 [(0, .ref wk), (1, .int i0), (2, .int i1)] := hl
  have hK := hKx.1
  have hin6 := fun w9 h9 => List.mem_cons_of_mem (Cond.code yX6_tryToBoil cX6_tryToBoil 4 none) (inlX6 w9 h9)
  have hw0 := hts (.fieldLink RX6 9 "OneCan$Week" "camp" "LOneCan$Camp;") (List.mem_cons_of_mem _ wm_304)
  refine lv_aload_n hx hb dX6_tryToBoil_0 rfl (lv_at hl 0 rfl) ?_
  refine va_get (D := (dC, dI)) (ci := 6) (v := .ref k) (C := RX6) (T := TX6) (N := 4) hx hb hts hin6 hown hK hP 0 rfl rfl 0 (by decide) hw0 (fun _ h9 => h9) rfl dX6_tryToBoil_1 ?_
  refine lv_iload_n hx hb dX6_tryToBoil_4 rfl (lv_at hl 1 rfl) ?_
  refine mx_i (wr := [(wk, .inr (6, [.ref k, .int 800, .int 0, .int 0]))]) (va_runV (As := [.int i0]) (rest := []) ⟨hx, hb, hml, hown, hts⟩ (c_X0_has l dC dI cI cZ cK tS aK aV k ks kw kc kq km kd ka kk i0 s.heap.size) (cwV 1 hts (gw_v (fun _ h9 => List.mem_cons_of_mem _ h9) wm_305 wm_98 wm_99 wm_10 wm_100) rfl rfl rfl (by decide +kernel) ⟨Nat.le_of_ble_eq_true rfl, Nat.le_of_ble_eq_true rfl⟩) (mx_preV (C := RX0) (T := TX0) (N := 12) (ci := 0) hKx hP hD hS hA [1] (by decide) rfl rfl rfl) rfl rfl hl.1 rfl (lv_room (Nat.le_of_ble_eq_true rfl)) dX6_tryToBoil_5 ⟨Nat.le_of_ble_eq_true rfl, Nat.le_of_ble_eq_true rfl⟩) hP hD hS hA [1] [0] rfl rfl (by decide) (by decide) (fun r1 u1 H locs hq1 hP hD hS => ?_)
  replace hP : va_P (dC, dI) vwCl [(wk, .inr (6, [.ref k, .int 800, .int 0, .int 0])), (k, .inr (0, [.ref ks, .ref kw, .ref kc, .int (-6), .int 0, .int 0, .ref kq, .ref km, .ref kd, .int 0, .ref ka, .ref kk]))] H := hP
  replace hD : va_D A [(wk, .inr (6, [.ref k, .int 800, .int 0, .int 0])), (k, .inr (0, [.ref ks, .ref kw, .ref kc, .int (-6), .int 0, .int 0, .ref kq, .ref km, .ref kd, .int 0, .ref ka, .ref kk]))] := hD
  obtain rfl : r1 = 0 := hq1
  refine lv_if_eq (tgt := 22) hx hb dX6_tryToBoil_8 (by decide) (fun c2 => ?_) (fun c2 => absurd c2 (by decide))
  have hP9 := mx_subP (wc := [(wk, .inr (6, [.ref k, .int 800, .int 0, .int 0])), (k, .inr (0, [.ref ks, .ref kw, .ref kc, .int (-6), .int 0, .int 0, .ref kq, .ref km, .ref kd, .int 0, .ref ka, .ref kk]))]) hP [0, 1] rfl
  have hD9 := hD.sub (ws' := [(wk, .inr (6, [.ref k, .int 800, .int 0, .int 0])), (k, .inr (0, [.ref ks, .ref kw, .ref kc, .int (-6), .int 0, .int 0, .ref kq, .ref km, .ref kd, .int 0, .ref ka, .ref kk]))]) [0, 1] (by decide) rfl
  exact W.vret hx hb hr (fun t ht hW => ⟨⟨(), rfl, trivial, by rw [ht]; exact hP9, hD9⟩, hS.F ht⟩) hS.2.2 dX6_tryToBoil_22
set_option maxHeartbeats 4000000 in
set_option maxRecDepth 100000 in
theorem c_X6_live (l : Launch) (dC : Nat → ClassId) (dI : Nat → Nat → Nat) (cI cZ cK : ClassId) (tS aK aV : Nat) (wk : Nat) (k : Nat) (ks : Nat) (kw : Nat) (kc : Nat) (kq : Nat) (km : Nat) (kd : Nat) (ka : Nat) (kk : Nat) (i0 : Int32) (i1 : Int32) (sz : Nat) (hi1 : 1 ≤ i1.toInt ∧ i1.toInt ≤ 50) : Cv l yX6_live (wq yX6_live cX6_live 5 none) ({ frames := 3, cells := 0, slots := 0, locals := 66 }) dC dI cI cZ cK tS aK aV [.ref wk, .int i0, .int i1] sz [(wk, .inr (6, [.ref k, .int 0, .int 0, .int 0])), (k, .inr (0, [.ref ks, .ref kw, .ref kc, .int (-6), .int 0, .int 0, .ref kq, .ref km, .ref kd, .int 0, .ref ka, .ref kk])), (ks, .inl (cI, 5, .inl (upd (fun _ => 0) 0 800)))] (fun (u : Unit) => True) (fun _ => [(wk, .inr (6, [.ref k, .int 800, .int 0, .int 0])), (k, .inr (0, [.ref ks, .ref kw, .ref kc, .int (-6), .int 0, .int 0, .ref kq, .ref km, .ref kd, .int 0, .ref ka, .ref kk])), (ks, .inl (cI, 5, .inl (upd (fun _ => 0) 0 800)))]) := by
  refine Met.ofW (cc := cX6_live) (maxL := 5) (ret := none) (by decide) rfl ?_
  intro p e s m args below meth c s₁ B hml hv
  obtain ⟨rfl, hsz, hP, hKx, hD0⟩ := hv
  have hx := B.exec
  have hb := B.bytes
  have hr := B.returns
  have hts := atoms_spec (ws := wq yX6_live cX6_live 5 none) B.pre
  have hown : s.vm.findClass RX6 = some m.cls := findClass_of_methodNamed B.named
  have hlocks := B.notSynchronized
  subst hsz
  have hD := hD0.self (sz := s.heap.size)
  generalize hAe : va_A [(wk, .inr (6, [.ref k, .int 0, .int 0, .int 0])), (k, .inr (0, [.ref ks, .ref kw, .ref kc, .int (-6), .int 0, .int 0, .ref kq, .ref km, .ref kd, .int 0, .ref ka, .ref kk])), (ks, .inl (cI, 5, .inl (upd (fun _ => 0) 0 800)))] s.heap.size = A at hD hKx ⊢
  have hA : ∀ q : Nat, s.heap.size ≤ q → A q := fun q h => by rw [← hAe]; exact Or.inr h
  have hS : va_S A s.heap s.heap [] := va_S.rf
  have hP : va_P (dC, dI) vwCl [(wk, .inr (6, [.ref k, .int 0, .int 0, .int 0])), (k, .inr (0, [.ref ks, .ref kw, .ref kc, .int (-6), .int 0, .int 0, .ref kq, .ref km, .ref kd, .int 0, .ref ka, .ref kk])), (ks, .inl (cI, 5, .inl (upd (fun _ => 0) 0 800)))] s.heap := hP
  have hl := lv_entry ([.ref wk, .int i0, .int i1]) (n := 5) (Nat.le_of_ble_eq_true rfl)
  rw [lg_entry_eq]
  generalize (lg_sl ([.ref wk, .int i0, .int i1]) ++ List.replicate (5 - (lg_sl ([.ref wk, .int i0, .int i1])).length) Slot.unset).toArray = ls at hl ⊢
  have hl : lv_has ls 5 [(0, .ref wk), (1, .int i0), (2, .int i1)] := hl
  have hK := hKx.1
  have hin6 := fun w9 h9 => List.mem_cons_of_mem (Cond.code yX6_live cX6_live 5 none) (inlX6 w9 h9)
  have hin0 := fun w9 h9 => List.mem_cons_of_mem (Cond.code yX6_live cX6_live 5 none) (inlX0 w9 h9)
  have hw0 := hts (.fieldLink RX6 9 "OneCan$Week" "camp" "LOneCan$Camp;") (List.mem_cons_of_mem _ wm_304)
  have hw1 := hts (.fieldLink RX6 15 "OneCan$Camp" "settings" "[I") (List.mem_cons_of_mem _ wm_306)
  have hw2 := hts (.fieldLink RX6 21 "OneCan$Week" "left" "I") (List.mem_cons_of_mem _ wm_307)
  have hw3 := hts (.fieldLink RX6 25 "OneCan$Week" "boiled" "I") (List.mem_cons_of_mem _ wm_308)
  have hw4 := hts (.fieldLink RX6 28 "OneCan$Week" "wanting" "I") (List.mem_cons_of_mem _ wm_309)
  have hw5 := hts (.constant RX6 31 65537) (List.mem_cons_of_mem _ wm_310)
  refine lv_aload_n hx hb dX6_live_0 rfl (lv_at hl 0 rfl) ?_
  refine lv_aload_n hx hb dX6_live_1 rfl (lv_at hl 0 rfl) ?_
  refine va_get (D := (dC, dI)) (ci := 6) (v := .ref k) (C := RX6) (T := TX6) (N := 4) hx hb hts hin6 hown hK hP 0 rfl rfl 0 (by decide) hw0 (fun _ h9 => h9) rfl dX6_live_2 ?_
  refine va_get (D := (dC, dI)) (ci := 0) (v := .ref ks) (C := RX0) (T := TX0) (N := 12) hx hb hts hin0 hown hK hP 1 rfl rfl 0 (by decide) hw1 (fun _ h9 => h9) rfl dX6_live_5 ?_
  refine lv_iconst (v := 0) hx hb dX6_live_8 (by decide) ?_
  refine va_iald hx hb hK hP 2 0 rfl rfl (vin (by decide) (by decide)) dX6_live_9 ?_
  refine lv_topi (fun x1 e1 => ?_)
  obtain rfl : x1 = 800 := e1.trans (by first | rfl | decide)
  refine va_put (D := (dC, dI)) (ci := 6) (v := .int 800) (ty := .int) (C := RX6) (T := TX6) (N := 4) hx hb hts hin6 tyX6 tyX6_ok nmX6 hown hK hP hD hS 0 rfl rfl 1 (by decide) hw2 (fun _ h9 => h9) rfl (by decide +kernel) rfl rfl (Nat.le_of_ble_eq_true rfl) dX6_live_10 (fun H locs hP hD hS => ?_)
  replace hP : va_P (dC, dI) vwCl [(wk, .inr (6, [.ref k, .int 800, .int 0, .int 0])), (k, .inr (0, [.ref ks, .ref kw, .ref kc, .int (-6), .int 0, .int 0, .ref kq, .ref km, .ref kd, .int 0, .ref ka, .ref kk])), (ks, .inl (cI, 5, .inl (upd (fun _ => 0) 0 800)))] H := hP
  replace hD : va_D A [(wk, .inr (6, [.ref k, .int 800, .int 0, .int 0])), (k, .inr (0, [.ref ks, .ref kw, .ref kc, .int (-6), .int 0, .int 0, .ref kq, .ref km, .ref kd, .int 0, .ref ka, .ref kk])), (ks, .inl (cI, 5, .inl (upd (fun _ => 0) 0 800)))] := hD
  refine lv_aload_n hx hb dX6_live_13 rfl (lv_at hl 0 rfl) ?_
  refine lv_iconst (v := 0) hx hb dX6_live_14 (by decide) ?_
  refine va_put (D := (dC, dI)) (ci := 6) (v := .int 0) (ty := .int) (C := RX6) (T := TX6) (N := 4) hx hb hts hin6 tyX6 tyX6_ok nmX6 hown hK hP hD hS 0 rfl rfl 2 (by decide) hw3 (fun _ h9 => h9) rfl (by decide +kernel) rfl rfl (Nat.le_of_ble_eq_true rfl) dX6_live_15 (fun H locs hP hD hS => ?_)
  replace hP : va_P (dC, dI) vwCl [(wk, .inr (6, [.ref k, .int 800, .int 0, .int 0])), (k, .inr (0, [.ref ks, .ref kw, .ref kc, .int (-6), .int 0, .int 0, .ref kq, .ref km, .ref kd, .int 0, .ref ka, .ref kk])), (ks, .inl (cI, 5, .inl (upd (fun _ => 0) 0 800)))] H := hP
  replace hD : va_D A [(wk, .inr (6, [.ref k, .int 800, .int 0, .int 0])), (k, .inr (0, [.ref ks, .ref kw, .ref kc, .int (-6), .int 0, .int 0, .ref kq, .ref km, .ref kd, .int 0, .ref ka, .ref kk])), (ks, .inl (cI, 5, .inl (upd (fun _ => 0) 0 800)))] := hD
  refine lv_aload_n hx hb dX6_live_18 rfl (lv_at hl 0 rfl) ?_
  refine lv_iconst (v := 0) hx hb dX6_live_19 (by decide) ?_
  refine va_put (D := (dC, dI)) (ci := 6) (v := .int 0) (ty := .int) (C := RX6) (T := TX6) (N := 4) hx hb hts hin6 tyX6 tyX6_ok nmX6 hown hK hP hD hS 0 rfl rfl 3 (by decide) hw4 (fun _ h9 => h9) rfl (by decide +kernel) rfl rfl (Nat.le_of_ble_eq_true rfl) dX6_live_20 (fun H locs hP hD hS => ?_)
  replace hP : va_P (dC, dI) vwCl [(wk, .inr (6, [.ref k, .int 800, .int 0, .int 0])), (k, .inr (0, [.ref ks, .ref kw, .ref kc, .int (-6), .int 0, .int 0, .ref kq, .ref km, .ref kd, .int 0, .ref ka, .ref kk])), (ks, .inl (cI, 5, .inl (upd (fun _ => 0) 0 800)))] H := hP
  replace hD : va_D A [(wk, .inr (6, [.ref k, .int 800, .int 0, .int 0])), (k, .inr (0, [.ref ks, .ref kw, .ref kc, .int (-6), .int 0, .int 0, .ref kq, .ref km, .ref kd, .int 0, .ref ka, .ref kk])), (ks, .inl (cI, 5, .inl (upd (fun _ => 0) 0 800)))] := hD
  refine lv_iload_n hx hb dX6_live_23 rfl (lv_at hl 1 rfl) ?_
  refine lv_istore_n (lv' := [(3, .int i0), (0, .ref wk), (1, .int i0), (2, .int i1)]) hx hb dX6_live_24 rfl hl (by decide) rfl (fun ls hl => ?_)
  refine lv_iconst (v := 0) hx hb dX6_live_25 (by decide) ?_
  refine lv_istore (lv' := [(4, .int 0), (3, .int i0), (0, .ref wk), (1, .int i0), (2, .int i1)]) hx hb dX6_live_26 hl (by decide) rfl (fun ls hl => ?_)
  have z3 : (0 : Int32).toInt = 0 := rfl
  have hl0 := hl
  clear hl
  have hP0 := hP
  clear hP
  have hD0 := hD
  clear hD
  obtain ⟨y3, y4, ex, hl, hP, hD⟩ : ∃ (y3 y4 : Int32), (0 ≤ y4.toInt ∧ y4.toInt ≤ 2 * i1.toInt) ∧ lv_has ls 5 [(4, .int y4), (3, .int y3), (0, .ref wk), (1, .int i0), (2, .int i1)] ∧ va_P (dC, dI) vwCl [(wk, .inr (6, [.ref k, .int 800, .int 0, .int 0])), (k, .inr (0, [.ref ks, .ref kw, .ref kc, .int (-6), .int 0, .int 0, .ref kq, .ref km, .ref kd, .int 0, .ref ka, .ref kk])), (ks, .inl (cI, 5, .inl (upd (fun _ => 0) 0 800)))] H ∧ va_D A [(wk, .inr (6, [.ref k, .int 800, .int 0, .int 0])), (k, .inr (0, [.ref ks, .ref kw, .ref kc, .int (-6), .int 0, .int 0, .ref kq, .ref km, .ref kd, .int 0, .ref ka, .ref kk])), (ks, .inl (cI, 5, .inl (upd (fun _ => 0) 0 800)))] := ⟨i0, 0, by omega, hl0, hP0, hD0⟩
  clear hl0 hP0 hD0
  obtain ⟨n2, hn⟩ : ∃ n : Nat, (n : Int) = 2 * i1.toInt - y4.toInt := ⟨(2 * i1.toInt - y4.toInt).toNat, by omega⟩
  induction n2 generalizing y3 y4  ls H locs with
  | zero =>
    skip
    refine lv_iload hx hb dX6_live_28 (lv_at hl 0 rfl) ?_
    refine lv_iconst (v := 2) hx hb dX6_live_30 (by decide) ?_
    refine lv_iload_n hx hb dX6_live_31 rfl (lv_at hl 4 rfl) ?_
    refine lv_imul hx hb dX6_live_32 ?_
    refine lv_topi (fun x4 e4 => ?_)
    have f4 : x4.toInt = (2 : Int) * i1.toInt := by rw [e4]; exact tmul (by have z8 : (2 : Int32).toInt = 2 := rfl; rw [z8]; omega) (by have z8 : (2 : Int32).toInt = 2 := rfl; rw [z8]; omega)
    refine lv_icmp_ge (tgt := 76) hx hb dX6_live_33 (by decide) (fun c5 => ?_) (fun c5 => by exfalso; have t5 : y4.toInt < x4.toInt := (tnle c5); omega)
    have hP9 := mx_subP (wc := [(wk, .inr (6, [.ref k, .int 800, .int 0, .int 0])), (k, .inr (0, [.ref ks, .ref kw, .ref kc, .int (-6), .int 0, .int 0, .ref kq, .ref km, .ref kd, .int 0, .ref ka, .ref kk])), (ks, .inl (cI, 5, .inl (upd (fun _ => 0) 0 800)))]) hP [0, 1, 2] rfl
    have hD9 := hD.sub (ws' := [(wk, .inr (6, [.ref k, .int 800, .int 0, .int 0])), (k, .inr (0, [.ref ks, .ref kw, .ref kc, .int (-6), .int 0, .int 0, .ref kq, .ref km, .ref kd, .int 0, .ref ka, .ref kk])), (ks, .inl (cI, 5, .inl (upd (fun _ => 0) 0 800)))]) [0, 1, 2] (by decide) rfl
    exact W.vret hx hb hr (fun t ht hW => ⟨⟨(), rfl, trivial, by rw [ht]; exact hP9, hD9⟩, hS.F ht⟩) hS.2.2 dX6_live_76
  | succ n2 ih =>
    skip
    refine lv_iload hx hb dX6_live_28 (lv_at hl 0 rfl) ?_
    refine lv_iconst (v := 2) hx hb dX6_live_30 (by decide) ?_
    refine lv_iload_n hx hb dX6_live_31 rfl (lv_at hl 4 rfl) ?_
    refine lv_imul hx hb dX6_live_32 ?_
    refine lv_topi (fun x6 e6 => ?_)
    have f6 : x6.toInt = (2 : Int) * i1.toInt := by rw [e6]; exact tmul (by have z8 : (2 : Int32).toInt = 2 := rfl; rw [z8]; omega) (by have z8 : (2 : Int32).toInt = 2 := rfl; rw [z8]; omega)
    refine lv_icmp_ge (tgt := 76) hx hb dX6_live_33 (by decide) (fun c7 => by exfalso; have t7 : x6.toInt ≤ y4.toInt := (tle c7); omega) (fun c7 => ?_)
    refine lv_bipush (v := 75) hx hb dX6_live_36 (by decide) ?_
    refine lv_iload_n hx hb dX6_live_38 rfl (lv_at hl 1 rfl) ?_
    refine lv_imul hx hb dX6_live_39 ?_
    refine lv_topi (fun x8 e8 => ?_)
    refine lv_bipush (v := 74) hx hb dX6_live_40 (by decide) ?_
    refine lv_iadd hx hb dX6_live_42 ?_
    refine lv_topi (fun x9 e9 => ?_)
    refine lv_ldc (v := 65537) hx hb hown hw5 dX6_live_43 ?_
    refine lv_irem hx hb dX6_live_45 (by decide) ?_
    refine lv_topi (fun x10 e10 => ?_)
    refine lv_istore_n (lv' := [(3, .int x10), (4, .int y4), (0, .ref wk), (1, .int i0), (2, .int i1)]) hx hb dX6_live_46 rfl hl (by decide) rfl (fun ls hl => ?_)
    refine lv_aload_n hx hb dX6_live_47 rfl (lv_at hl 2 rfl) ?_
    refine lv_iload_n hx hb dX6_live_48 rfl (lv_at hl 0 rfl) ?_
    refine lv_bipush (v := 6) hx hb dX6_live_49 (by decide) ?_
    refine lv_irem hx hb dX6_live_51 (by decide) ?_
    refine lv_topi (fun x11 e11 => ?_)
    refine lv_iload_n hx hb dX6_live_52 rfl (lv_at hl 0 rfl) ?_
    refine lv_bipush (v := 6) hx hb dX6_live_53 (by decide) ?_
    refine lv_idiv hx hb dX6_live_55 (by decide) ?_
    refine lv_topi (fun x12 e12 => ?_)
    refine lv_iconst (v := 2) hx hb dX6_live_56 (by decide) ?_
    refine lv_irem hx hb dX6_live_57 (by decide) ?_
    refine lv_topi (fun x13 e13 => ?_)
    refine lv_iconst (v := 1) hx hb dX6_live_58 (by decide) ?_
    refine lv_icmp_ne (tgt := 66) hx hb dX6_live_59 (by decide) (fun c14 => ?_) (fun c14 => ?_)
    · have t14 : x13.toInt ≠ (1 : Int) := (tne c14)
      refine lv_iconst (v := 0) hx hb dX6_live_66 (by decide) ?_
      refine mx_v (wr := [(ks, .inl (cI, 5, .inl (upd (fun _ => 0) 0 800)))]) (va_runV (As := [.int x11, .int 0]) (rest := []) ⟨hx, hb, hml, hown, hts⟩ (c_X6_tryToBoil l dC dI cI cZ cK tS aK aV wk k ks kw kc kq km kd ka kk x11 0 H.size) (cwV 2 hts (gw_v (fun _ h9 => List.mem_cons_of_mem _ h9) wm_311 wm_312 wm_313 wm_314 wm_315) rfl rfl rfl (by decide +kernel) ⟨Nat.le_of_ble_eq_true rfl, Nat.le_of_ble_eq_true rfl⟩) (mx_preV (C := RX6) (T := TX6) (N := 4) (ci := 6) hKx hP hD hS hA [0, 1] (by decide) rfl rfl rfl) rfl rfl hl.1 rfl (lv_room (Nat.le_of_ble_eq_true rfl)) dX6_live_67 ⟨Nat.le_of_ble_eq_true rfl, Nat.le_of_ble_eq_true rfl⟩) hP hD hS hA [0, 1] [2] rfl rfl (by decide) (by decide) (fun u15 H locs hq15 hP hD hS => ?_)
      replace hP : va_P (dC, dI) vwCl [(ks, .inl (cI, 5, .inl (upd (fun _ => 0) 0 800))), (wk, .inr (6, [.ref k, .int 800, .int 0, .int 0])), (k, .inr (0, [.ref ks, .ref kw, .ref kc, .int (-6), .int 0, .int 0, .ref kq, .ref km, .ref kd, .int 0, .ref ka, .ref kk]))] H := hP
      replace hD : va_D A [(ks, .inl (cI, 5, .inl (upd (fun _ => 0) 0 800))), (wk, .inr (6, [.ref k, .int 800, .int 0, .int 0])), (k, .inr (0, [.ref ks, .ref kw, .ref kc, .int (-6), .int 0, .int 0, .ref kq, .ref km, .ref kd, .int 0, .ref ka, .ref kk]))] := hD
      obtain ⟨x16, e16⟩ : ∃ y : Int32, y = y4 + Int32.ofInt 1 := ⟨_, rfl⟩
      refine lv_iinc (v := x16) (lv' := [(4, .int x16), (3, .int x10), (0, .ref wk), (1, .int i0), (2, .int i1)]) hx hb dX6_live_70 hl (k := 1) rfl e16.symm (by decide) rfl (fun ls hl => ?_)
      have f16 : x16.toInt = y4.toInt + 1 := by rw [e16]; exact tinc (by decide) (by omega) (by omega)
      refine lv_goto (tgt := 28) hx hb dX6_live_73 (by decide) ?_
      exact ih (H := H) (locs := locs) (ls := ls) (y3 := x10) (y4 := x16)  hS (by omega) (show lv_has ls 5 [(4, .int x16), (3, .int x10), (0, .ref wk), (1, .int i0), (2, .int i1)] from lv_sub hl [0, 1, 2, 3, 4] rfl) (mx_subP (wc := [(wk, .inr (6, [.ref k, .int 800, .int 0, .int 0])), (k, .inr (0, [.ref ks, .ref kw, .ref kc, .int (-6), .int 0, .int 0, .ref kq, .ref km, .ref kd, .int 0, .ref ka, .ref kk])), (ks, .inl (cI, 5, .inl (upd (fun _ => 0) 0 800)))]) hP [1, 2, 0] rfl) (by omega)
    · have t14 : x13.toInt = (1 : Int) := (teq c14)
      refine lv_iconst (v := 1) hx hb dX6_live_62 (by decide) ?_
      refine lv_goto (tgt := 67) hx hb dX6_live_63 (by decide) ?_
      refine mx_v (wr := [(ks, .inl (cI, 5, .inl (upd (fun _ => 0) 0 800)))]) (va_runV (As := [.int x11, .int 1]) (rest := []) ⟨hx, hb, hml, hown, hts⟩ (c_X6_tryToBoil l dC dI cI cZ cK tS aK aV wk k ks kw kc kq km kd ka kk x11 1 H.size) (cwV 2 hts (gw_v (fun _ h9 => List.mem_cons_of_mem _ h9) wm_311 wm_312 wm_313 wm_314 wm_315) rfl rfl rfl (by decide +kernel) ⟨Nat.le_of_ble_eq_true rfl, Nat.le_of_ble_eq_true rfl⟩) (mx_preV (C := RX6) (T := TX6) (N := 4) (ci := 6) hKx hP hD hS hA [0, 1] (by decide) rfl rfl rfl) rfl rfl hl.1 rfl (lv_room (Nat.le_of_ble_eq_true rfl)) dX6_live_67 ⟨Nat.le_of_ble_eq_true rfl, Nat.le_of_ble_eq_true rfl⟩) hP hD hS hA [0, 1] [2] rfl rfl (by decide) (by decide) (fun u17 H locs hq17 hP hD hS => ?_)
      replace hP : va_P (dC, dI) vwCl [(ks, .inl (cI, 5, .inl (upd (fun _ => 0) 0 800))), (wk, .inr (6, [.ref k, .int 800, .int 0, .int 0])), (k, .inr (0, [.ref ks, .ref kw, .ref kc, .int (-6), .int 0, .int 0, .ref kq, .ref km, .ref kd, .int 0, .ref ka, .ref kk]))] H := hP
      replace hD : va_D A [(ks, .inl (cI, 5, .inl (upd (fun _ => 0) 0 800))), (wk, .inr (6, [.ref k, .int 800, .int 0, .int 0])), (k, .inr (0, [.ref ks, .ref kw, .ref kc, .int (-6), .int 0, .int 0, .ref kq, .ref km, .ref kd, .int 0, .ref ka, .ref kk]))] := hD
      obtain ⟨x18, e18⟩ : ∃ y : Int32, y = y4 + Int32.ofInt 1 := ⟨_, rfl⟩
      refine lv_iinc (v := x18) (lv' := [(4, .int x18), (3, .int x10), (0, .ref wk), (1, .int i0), (2, .int i1)]) hx hb dX6_live_70 hl (k := 1) rfl e18.symm (by decide) rfl (fun ls hl => ?_)
      have f18 : x18.toInt = y4.toInt + 1 := by rw [e18]; exact tinc (by decide) (by omega) (by omega)
      refine lv_goto (tgt := 28) hx hb dX6_live_73 (by decide) ?_
      exact ih (H := H) (locs := locs) (ls := ls) (y3 := x10) (y4 := x18)  hS (by omega) (show lv_has ls 5 [(4, .int x18), (3, .int x10), (0, .ref wk), (1, .int i0), (2, .int i1)] from lv_sub hl [0, 1, 2, 3, 4] rfl) (mx_subP (wc := [(wk, .inr (6, [.ref k, .int 800, .int 0, .int 0])), (k, .inr (0, [.ref ks, .ref kw, .ref kc, .int (-6), .int 0, .int 0, .ref kq, .ref km, .ref kd, .int 0, .ref ka, .ref kk])), (ks, .inl (cI, 5, .inl (upd (fun _ => 0) 0 800)))]) hP [1, 2, 0] rfl) (by omega)
