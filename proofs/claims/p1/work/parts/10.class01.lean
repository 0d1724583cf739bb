set_option maxHeartbeats 4000000 in
set_option maxRecDepth 100000 in
theorem c_X7_spent (l : Launch) (dC : Nat → ClassId) (dI : Nat → Nat → Nat) (cI cZ cK : ClassId) (tS aK aV : Nat) (h : Nat) (o : Nat) (f : Nat) (g : Nat) (wk : Nat) (im : Nat) (kt : Nat) (dl : Nat) (j : Nat) (jd : Nat) (jb : Nat) (jw : Nat) (jl : Nat) (k : Nat) (ks : Nat) (kw : Nat) (kc : Nat) (kq : Nat) (km : Nat) (kd : Nat) (ka : Nat) (kk : Nat) (d : Nat) (ds : Nat) (dk : Nat) (dw : Nat) (i0 : Int32) (sz : Nat) : Ci l yX7_spent (wq yX7_spent cX7_spent 3 (some .int)) ({ frames := 4, cells := 0, slots := 0, locals := 85 }) dC dI cI cZ cK tS aK aV [.ref h, .int i0] sz [(h, .inr (7, [.ref k, .ref d, .ref j, .ref o, .ref f, .ref g, .ref wk, .ref im, .ref kt, .ref dl])), (d, .inr (4, [.ref ds, .int 0, .ref dk, .ref dw, .int 0, .int 0])), (j, .inr (1, [.ref k, .ref d, .ref jd, .ref jb, .ref jw, .ref jl, .int 0, .int 0, .int 0, .int 0, .int 0, .int 0, .int 0, .int 0])), (jl, .inl (cI, 61, .inl (fun _ => 0))), (k, .inr (0, [.ref ks, .ref kw, .ref kc, .int (-6), .int 0, .int 0, .ref kq, .ref km, .ref kd, .int 0, .ref ka, .ref kk])), (ks, .inl (cI, 5, .inl (upd (fun _ => 0) 0 800)))] (fun (r : Int32) (_ : Unit) => (r = 0 ∧ (0 ≤ i0.toInt ∧ i0.toInt ≤ 13)) ∨ (r = (-1) ∧ (i0.toInt < 0 ∨ 13 < i0.toInt))) (fun _ => []) := by
  refine Met.ofW (cc := cX7_spent) (maxL := 3) (ret := (some .int)) (by decide) rfl ?_
  intro p e s m args below meth c s₁ B hml hv
  obtain ⟨rfl, hsz, hP, hKx, hD0⟩ := hv
  have hx := B.exec
  have hb := B.bytes
  have hr := B.returns
  have hts := atoms_spec (ws := wq yX7_spent cX7_spent 3 (some .int)) B.pre
  have hown : s.vm.findClass RX7 = some m.cls := findClass_of_methodNamed B.named
  have hlocks := B.notSynchronized
  subst hsz
  have hD := hD0.self (sz := s.heap.size)
  generalize hAe : va_A [(h, .inr (7, [.ref k, .ref d, .ref j, .ref o, .ref f, .ref g, .ref wk, .ref im, .ref kt, .ref dl])), (d, .inr (4, [.ref ds, .int 0, .ref dk, .ref dw, .int 0, .int 0])), (j, .inr (1, [.ref k, .ref d, .ref jd, .ref jb, .ref jw, .ref jl, .int 0, .int 0, .int 0, .int 0, .int 0, .int 0, .int 0, .int 0])), (jl, .inl (cI, 61, .inl (fun _ => 0))), (k, .inr (0, [.ref ks, .ref kw, .ref kc, .int (-6), .int 0, .int 0, .ref kq, .ref km, .ref kd, .int 0, .ref ka, .ref kk])), (ks, .inl (cI, 5, .inl (upd (fun _ => 0) 0 800)))] s.heap.size = A at hD hKx ⊢
  have hA : ∀ q : Nat, s.heap.size ≤ q → A q := fun q h => by rw [← hAe]; exact Or.inr h
  have hS : va_S A s.heap s.heap [] := va_S.rf
  have hP : va_P (dC, dI) vwCl [(h, .inr (7, [.ref k, .ref d, .ref j, .ref o, .ref f, .ref g, .ref wk, .ref im, .ref kt, .ref dl])), (d, .inr (4, [.ref ds, .int 0, .ref dk, .ref dw, .int 0, .int 0])), (j, .inr (1, [.ref k, .ref d, .ref jd, .ref jb, .ref jw, .ref jl, .int 0, .int 0, .int 0, .int 0, .int 0, .int 0, .int 0, .int 0])), (jl, .inl (cI, 61, .inl (fun _ => 0))), (k, .inr (0, [.ref ks, .ref kw, .ref kc, .int (-6), .int 0, .int 0, .ref kq, .ref km, .ref kd, .int 0, .ref ka, .ref kk])), (ks, .inl (cI, 5, .inl (upd (fun _ => 0) 0 800)))] s.heap := hP
  have hl := lv_entry ([.ref h, .int i0]) (n := 3) (Nat.le_of_ble_eq_true rfl)
  rw [lg_entry_eq]
  generalize (lg_sl ([.ref h, .int i0]) ++ List.replicate (3 - (lg_sl ([.ref h, .int i0])).length) Slot.unset).toArray = ls at hl ⊢
  have hl : lv_has ls 3 [(0, .ref h), (1, .int i0)] := hl
  have hK := hKx.1
  have hin7 := fun w9 h9 => List.mem_cons_of_mem (Cond.code yX7_spent cX7_spent 3 (some .int)) (inlX7 w9 h9)
  have hw0 := hts (.fieldLink RX7 28 "OneCan" "course" "LOneCan$Course;") (List.mem_cons_of_mem _ wm_61)
  refine lv_iload_n hx hb dX7_spent_0 rfl (lv_at hl 1 rfl) ?_
  refine mx_i (wr := [(h, .inr (7, [.ref k, .ref d, .ref j, .ref o, .ref f, .ref g, .ref wk, .ref im, .ref kt, .ref dl])), (d, .inr (4, [.ref ds, .int 0, .ref dk, .ref dw, .int 0, .int 0])), (j, .inr (1, [.ref k, .ref d, .ref jd, .ref jb, .ref jw, .ref jl, .int 0, .int 0, .int 0, .int 0, .int 0, .int 0, .int 0, .int 0])), (jl, .inl (cI, 61, .inl (fun _ => 0))), (k, .inr (0, [.ref ks, .ref kw, .ref kc, .int (-6), .int 0, .int 0, .ref kq, .ref km, .ref kd, .int 0, .ref ka, .ref kk])), (ks, .inl (cI, 5, .inl (upd (fun _ => 0) 0 800)))]) (va_runS (As := [.int i0]) (rest := []) ⟨hx, hb, hml, hown, hts⟩ (c_X7_isDay l dC dI cI cZ cK tS aK aV i0 s.heap.size) (va_cwS 1 hts (gw_s (fun _ h9 => List.mem_cons_of_mem _ h9) wm_86 wm_87 wm_2 wm_88) rfl rfl rfl (by decide +kernel) ⟨Nat.le_of_ble_eq_true rfl, Nat.le_of_ble_eq_true rfl⟩) (mx_preS hKx hP hD hS hA [] (by decide) rfl) rfl rfl hl.1 rfl (lv_room (Nat.le_of_ble_eq_true rfl)) dX7_spent_1 ⟨Nat.le_of_ble_eq_true rfl, Nat.le_of_ble_eq_true rfl⟩) hP hD hS hA [] [0, 1, 2, 3, 4, 5] rfl rfl (by decide) (by decide) (fun r1 u1 H locs hq1 hP hD hS => ?_)
  replace hP : va_P (dC, dI) vwCl [(h, .inr (7, [.ref k, .ref d, .ref j, .ref o, .ref f, .ref g, .ref wk, .ref im, .ref kt, .ref dl])), (d, .inr (4, [.ref ds, .int 0, .ref dk, .ref dw, .int 0, .int 0])), (j, .inr (1, [.ref k, .ref d, .ref jd, .ref jb, .ref jw, .ref jl, .int 0, .int 0, .int 0, .int 0, .int 0, .int 0, .int 0, .int 0])), (jl, .inl (cI, 61, .inl (fun _ => 0))), (k, .inr (0, [.ref ks, .ref kw, .ref kc, .int (-6), .int 0, .int 0, .ref kq, .ref km, .ref kd, .int 0, .ref ka, .ref kk])), (ks, .inl (cI, 5, .inl (upd (fun _ => 0) 0 800)))] H := hP
  replace hD : va_D A [(h, .inr (7, [.ref k, .ref d, .ref j, .ref o, .ref f, .ref g, .ref wk, .ref im, .ref kt, .ref dl])), (d, .inr (4, [.ref ds, .int 0, .ref dk, .ref dw, .int 0, .int 0])), (j, .inr (1, [.ref k, .ref d, .ref jd, .ref jb, .ref jw, .ref jl, .int 0, .int 0, .int 0, .int 0, .int 0, .int 0, .int 0, .int 0])), (jl, .inl (cI, 61, .inl (fun _ => 0))), (k, .inr (0, [.ref ks, .ref kw, .ref kc, .int (-6), .int 0, .int 0, .ref kq, .ref km, .ref kd, .int 0, .ref ka, .ref kk])), (ks, .inl (cI, 5, .inl (upd (fun _ => 0) 0 800)))] := hD
  rcases hq1 with ⟨rfl, hf1⟩ | ⟨rfl, hf1⟩
  · have hf1 : 0 ≤ i0.toInt ∧ i0.toInt ≤ 13 := hf1
    refine lv_if_ne (tgt := 9) hx hb dX7_spent_4 (by decide) (fun c2 => ?_) (fun c2 => absurd c2 (by decide))
    refine lv_aload_n hx hb dX7_spent_9 rfl (lv_at hl 0 rfl) ?_
    refine lv_iconst (v := 0) hx hb dX7_spent_10 (by decide) ?_
    refine mx_i (wr := []) (va_runV (As := [.int 0]) (rest := []) ⟨hx, hb, hml, hown, hts⟩ (c_X7_planRefusal l dC dI cI cZ cK tS aK aV h o f g wk im kt dl j jd jb jw jl k ks kw kc kq km kd ka kk d ds dk dw 0 H.size) (cwV 1 hts (gw_v (fun _ h9 => List.mem_cons_of_mem _ h9) wm_72 wm_73 wm_74 wm_2 wm_75) rfl rfl rfl (by decide +kernel) ⟨Nat.le_of_ble_eq_true rfl, Nat.le_of_ble_eq_true rfl⟩) (mx_preV (C := RX7) (T := TX7) (N := 10) (ci := 7) hKx hP hD hS hA [0, 1, 2, 3, 4, 5] (by decide) rfl rfl rfl) rfl rfl hl.1 rfl (lv_room (Nat.le_of_ble_eq_true rfl)) dX7_spent_11 ⟨Nat.le_of_ble_eq_true rfl, Nat.le_of_ble_eq_true rfl⟩) hP hD hS hA [0, 1, 2, 3, 4, 5] [] rfl rfl (by decide) (by decide) (fun r3 u3 H locs hq3 hP hD hS => ?_)
    replace hP : va_P (dC, dI) vwCl [(h, .inr (7, [.ref k, .ref d, .ref j, .ref o, .ref f, .ref g, .ref wk, .ref im, .ref kt, .ref dl])), (d, .inr (4, [.ref ds, .int 0, .ref dk, .ref dw, .int 0, .int (-6)])), (j, .inr (1, [.ref k, .ref d, .ref jd, .ref jb, .ref jw, .ref jl, .int (-6), .int (-6), .int 800, .int 0, .int (-6), .int 0, .int 0, .int 0])), (jl, .inl (cI, 61, .inl (upd (fun _ => 0) 0 800))), (k, .inr (0, [.ref ks, .ref kw, .ref kc, .int (-6), .int 0, .int 0, .ref kq, .ref km, .ref kd, .int 0, .ref ka, .ref kk])), (ks, .inl (cI, 5, .inl (upd (fun _ => 0) 0 800)))] H := hP
    replace hD : va_D A [(h, .inr (7, [.ref k, .ref d, .ref j, .ref o, .ref f, .ref g, .ref wk, .ref im, .ref kt, .ref dl])), (d, .inr (4, [.ref ds, .int 0, .ref dk, .ref dw, .int 0, .int (-6)])), (j, .inr (1, [.ref k, .ref d, .ref jd, .ref jb, .ref jw, .ref jl, .int (-6), .int (-6), .int 800, .int 0, .int (-6), .int 0, .int 0, .int 0])), (jl, .inl (cI, 61, .inl (upd (fun _ => 0) 0 800))), (k, .inr (0, [.ref ks, .ref kw, .ref kc, .int (-6), .int 0, .int 0, .ref kq, .ref km, .ref kd, .int 0, .ref ka, .ref kk])), (ks, .inl (cI, 5, .inl (upd (fun _ => 0) 0 800)))] := hD
    obtain rfl : r3 = 0 := hq3
    refine lv_istore_n (lv' := [(2, .int 0), (0, .ref h), (1, .int i0)]) hx hb dX7_spent_14 rfl hl (by decide) rfl (fun ls hl => ?_)
    refine lv_iload_n hx hb dX7_spent_15 rfl (lv_at hl 0 rfl) ?_
    refine lv_if_eq (tgt := 23) hx hb dX7_spent_16 (by decide) (fun c4 => ?_) (fun c4 => absurd c4 (by decide))
    refine lv_aload_n hx hb dX7_spent_23 rfl (lv_at hl 1 rfl) ?_
    refine va_get (D := (dC, dI)) (ci := 7) (v := .ref j) (C := RX7) (T := TX7) (N := 10) hx hb hts hin7 hown hK hP 0 rfl rfl 2 (by decide) hw0 (fun _ h9 => h9) rfl dX7_spent_24 ?_
    refine lv_iload_n hx hb dX7_spent_27 rfl (lv_at hl 2 rfl) ?_
    refine mx_i (wr := [(h, .inr (7, [.ref k, .ref d, .ref j, .ref o, .ref f, .ref g, .ref wk, .ref im, .ref kt, .ref dl])), (jl, .inl (cI, 61, .inl (upd (fun _ => 0) 0 800))), (k, .inr (0, [.ref ks, .ref kw, .ref kc, .int (-6), .int 0, .int 0, .ref kq, .ref km, .ref kd, .int 0, .ref ka, .ref kk])), (ks, .inl (cI, 5, .inl (upd (fun _ => 0) 0 800)))]) (va_runV (As := [.int i0]) (rest := []) ⟨hx, hb, hml, hown, hts⟩ (c_X1_burntOn l dC dI cI cZ cK tS aK aV j jd jb jw jl k d ds dk dw i0 H.size) (cwV 1 hts (gw_v (fun _ h9 => List.mem_cons_of_mem _ h9) wm_89 wm_90 wm_91 wm_65 wm_92) rfl rfl rfl (by decide +kernel) ⟨Nat.le_of_ble_eq_true rfl, Nat.le_of_ble_eq_true rfl⟩) (mx_preV (C := RX1) (T := TX1) (N := 14) (ci := 1) hKx hP hD hS hA [2, 1] (by decide) rfl rfl rfl) rfl rfl hl.1 rfl (lv_room (Nat.le_of_ble_eq_true rfl)) dX7_spent_28 ⟨Nat.le_of_ble_eq_true rfl, Nat.le_of_ble_eq_true rfl⟩) hP hD hS hA [2, 1] [0, 3, 4, 5] rfl rfl (by decide) (by decide) (fun r5 u5 H locs hq5 hP hD hS => ?_)
    replace hP : va_P (dC, dI) vwCl [(h, .inr (7, [.ref k, .ref d, .ref j, .ref o, .ref f, .ref g, .ref wk, .ref im, .ref kt, .ref dl])), (jl, .inl (cI, 61, .inl (upd (fun _ => 0) 0 800))), (k, .inr (0, [.ref ks, .ref kw, .ref kc, .int (-6), .int 0, .int 0, .ref kq, .ref km, .ref kd, .int 0, .ref ka, .ref kk])), (ks, .inl (cI, 5, .inl (upd (fun _ => 0) 0 800))), (j, .inr (1, [.ref k, .ref d, .ref jd, .ref jb, .ref jw, .ref jl, .int (-6), .int (-6), .int 800, .int 0, .int (-6), .int 0, .int 0, .int 0])), (d, .inr (4, [.ref ds, .int 0, .ref dk, .ref dw, .int 0, .int (-6)]))] H := hP
    replace hD : va_D A [(h, .inr (7, [.ref k, .ref d, .ref j, .ref o, .ref f, .ref g, .ref wk, .ref im, .ref kt, .ref dl])), (jl, .inl (cI, 61, .inl (upd (fun _ => 0) 0 800))), (k, .inr (0, [.ref ks, .ref kw, .ref kc, .int (-6), .int 0, .int 0, .ref kq, .ref km, .ref kd, .int 0, .ref ka, .ref kk])), (ks, .inl (cI, 5, .inl (upd (fun _ => 0) 0 800))), (j, .inr (1, [.ref k, .ref d, .ref jd, .ref jb, .ref jw, .ref jl, .int (-6), .int (-6), .int 800, .int 0, .int (-6), .int 0, .int 0, .int 0])), (d, .inr (4, [.ref ds, .int 0, .ref dk, .ref dw, .int 0, .int (-6)]))] := hD
    obtain rfl : r5 = 0 := hq5
    have hP9 := mx_subP (wc := []) hP [] rfl
    have hD9 := hD.sub (ws' := []) [] (by decide) rfl
    exact W.iret (v := 0) hx hb hr (fun t ht hW => ⟨⟨0, (), rfl, (by first | exact Or.inl (⟨rfl, by omega⟩) | exact Or.inr (⟨rfl, by omega⟩)), by rw [ht]; exact hP9, hD9⟩, hS.F ht⟩) hS.2.2 dX7_spent_31
  · have hf1 : i0.toInt < 0 ∨ 13 < i0.toInt := hf1
    refine lv_if_ne (tgt := 9) hx hb dX7_spent_4 (by decide) (fun c6 => absurd c6 (by decide)) (fun c6 => ?_)
    refine lv_iconst (v := (-1)) hx hb dX7_spent_7 (by decide) ?_
    have hP9 := mx_subP (wc := []) hP [] rfl
    have hD9 := hD.sub (ws' := []) [] (by decide) rfl
    exact W.iret (v := (-1)) hx hb hr (fun t ht hW => ⟨⟨(-1), (), rfl, (by first | exact Or.inl (⟨rfl, by omega⟩) | exact Or.inr (⟨rfl, by omega⟩)), by rw [ht]; exact hP9, hD9⟩, hS.F ht⟩) hS.2.2 dX7_spent_8
set_option maxHeartbeats 4000000 in
set_option maxRecDepth 100000 in
theorem c_X7_done (l : Launch) (dC : Nat → ClassId) (dI : Nat → Nat → Nat) (cI cZ cK : ClassId) (tS aK aV : Nat) (h : Nat) (o : Nat) (f : Nat) (g : Nat) (wk : Nat) (im : Nat) (kt : Nat) (dl : Nat) (j : Nat) (jd : Nat) (jb : Nat) (jw : Nat) (jl : Nat) (k : Nat) (ks : Nat) (kw : Nat) (kc : Nat) (kq : Nat) (km : Nat) (kd : Nat) (ka : Nat) (kk : Nat) (d : Nat) (ds : Nat) (dk : Nat) (dw : Nat) (sz : Nat) : Ci l yX7_done (wq yX7_done cX7_done 2 (some .int)) ({ frames := 4, cells := 0, slots := 0, locals := 85 }) dC dI cI cZ cK tS aK aV [.ref h] sz [(h, .inr (7, [.ref k, .ref d, .ref j, .ref o, .ref f, .ref g, .ref wk, .ref im, .ref kt, .ref dl])), (d, .inr (4, [.ref ds, .int 0, .ref dk, .ref dw, .int 0, .int 0])), (j, .inr (1, [.ref k, .ref d, .ref jd, .ref jb, .ref jw, .ref jl, .int 0, .int 0, .int 0, .int 0, .int 0, .int 0, .int 0, .int 0])), (jl, .inl (cI, 61, .inl (fun _ => 0))), (k, .inr (0, [.ref ks, .ref kw, .ref kc, .int (-6), .int 0, .int 0, .ref kq, .ref km, .ref kd, .int 0, .ref ka, .ref kk])), (ks, .inl (cI, 5, .inl (upd (fun _ => 0) 0 800)))] (fun (r : Int32) (_ : Unit) => r = 0) (fun _ => []) := by
  refine Met.ofW (cc := cX7_done) (maxL := 2) (ret := (some .int)) (by decide) rfl ?_
  intro p e s m args below meth c s₁ B hml hv
  obtain ⟨rfl, hsz, hP, hKx, hD0⟩ := hv
  have hx := B.exec
  have hb := B.bytes
  have hr := B.returns
  have hts := atoms_spec (ws := wq yX7_done cX7_done 2 (some .int)) B.pre
  have hown : s.vm.findClass RX7 = some m.cls := findClass_of_methodNamed B.named
  have hlocks := B.notSynchronized
  subst hsz
  have hD := hD0.self (sz := s.heap.size)
  generalize hAe : va_A [(h, .inr (7, [.ref k, .ref d, .ref j, .ref o, .ref f, .ref g, .ref wk, .ref im, .ref kt, .ref dl])), (d, .inr (4, [.ref ds, .int 0, .ref dk, .ref dw, .int 0, .int 0])), (j, .inr (1, [.ref k, .ref d, .ref jd, .ref jb, .ref jw, .ref jl, .int 0, .int 0, .int 0, .int 0, .int 0, .int 0, .int 0, .int 0])), (jl, .inl (cI, 61, .inl (fun _ => 0))), (k, .inr (0, [.ref ks, .ref kw, .ref kc, .int (-6), .int 0, .int 0, .ref kq, .ref km, .ref kd, .int 0, .ref ka, .ref kk])), (ks, .inl (cI, 5, .inl (upd (fun _ => 0) 0 800)))] s.heap.size = A at hD hKx ⊢
  have hA : ∀ q : Nat, s.heap.size ≤ q → A q := fun q h => by rw [← hAe]; exact Or.inr h
  have hS : va_S A s.heap s.heap [] := va_S.rf
  have hP : va_P (dC, dI) vwCl [(h, .inr (7, [.ref k, .ref d, .ref j, .ref o, .ref f, .ref g, .ref wk, .ref im, .ref kt, .ref dl])), (d, .inr (4, [.ref ds, .int 0, .ref dk, .ref dw, .int 0, .int 0])), (j, .inr (1, [.ref k, .ref d, .ref jd, .ref jb, .ref jw, .ref jl, .int 0, .int 0, .int 0, .int 0, .int 0, .int 0, .int 0, .int 0])), (jl, .inl (cI, 61, .inl (fun _ => 0))), (k, .inr (0, [.ref ks, .ref kw, .ref kc, .int (-6), .int 0, .int 0, .ref kq, .ref km, .ref kd, .int 0, .ref ka, .ref kk])), (ks, .inl (cI, 5, .inl (upd (fun _ => 0) 0 800)))] s.heap := hP
  have hl := lv_entry ([.ref h]) (n := 2) (Nat.le_of_ble_eq_true rfl)
  rw [lg_entry_eq]
  generalize (lg_sl ([.ref h]) ++ List.replicate (2 - (lg_sl ([.ref h])).length) Slot.unset).toArray = ls at hl ⊢
  have hl : lv_has ls 2 [(0, .ref h)] := hl
  have hK := hKx.1
  have hin7 := fun w9 h9 => List.mem_cons_of_mem (Cond.code yX7_done cX7_done 2 (some .int)) (inlX7 w9 h9)
  have hin0 := fun w9 h9 => List.mem_cons_of_mem (Cond.code yX7_done cX7_done 2 (some .int)) (inlX0 w9 h9)
  have hin1 := fun w9 h9 => List.mem_cons_of_mem (Cond.code yX7_done cX7_done 2 (some .int)) (inlX1 w9 h9)
  have hin4 := fun w9 h9 => List.mem_cons_of_mem (Cond.code yX7_done cX7_done 2 (some .int)) (inlX4 w9 h9)
  have hw0 := hts (.fieldLink RX7 12 "OneCan" "camp" "LOneCan$Camp;") (List.mem_cons_of_mem _ wm_69)
  have hw1 := hts (.fieldLink RX7 83 "OneCan$Camp" "settings" "[I") (List.mem_cons_of_mem _ wm_70)
  have hw2 := hts (.fieldLink RX7 28 "OneCan" "course" "LOneCan$Course;") (List.mem_cons_of_mem _ wm_61)
  have hw3 := hts (.fieldLink RX7 143 "OneCan$Course" "left" "I") (List.mem_cons_of_mem _ wm_84)
  have hw4 := hts (.fieldLink RX7 146 "OneCan$Course" "day" "I") (List.mem_cons_of_mem _ wm_83)
  have hw5 := hts (.fieldLink RX7 165 "OneCan$Course" "warmDay" "I") (List.mem_cons_of_mem _ wm_93)
  have hw6 := hts (.fieldLink RX7 168 "OneCan$Camp" "warmDay" "I") (List.mem_cons_of_mem _ wm_94)
  have hw7 := hts (.fieldLink RX7 169 "OneCan$Course" "bagDays" "I") (List.mem_cons_of_mem _ wm_95)
  have hw8 := hts (.fieldLink RX7 172 "OneCan$Camp" "bagDays" "I") (List.mem_cons_of_mem _ wm_96)
  have hw9 := hts (.fieldLink RX7 19 "OneCan" "pad" "LOneCan$Pad;") (List.mem_cons_of_mem _ wm_54)
  have hw10 := hts (.fieldLink RX7 115 "OneCan$Pad" "size" "I") (List.mem_cons_of_mem _ wm_68)
  have hw11 := hts (.fieldLink RX7 153 "OneCan$Pad" "acts" "I") (List.mem_cons_of_mem _ wm_85)
  refine lv_aload_n hx hb dX7_done_0 rfl (lv_at hl 0 rfl) ?_
  refine lv_iconst (v := 0) hx hb dX7_done_1 (by decide) ?_
  refine mx_i (wr := []) (va_runV (As := [.int 0]) (rest := []) ⟨hx, hb, hml, hown, hts⟩ (c_X7_planRefusal l dC dI cI cZ cK tS aK aV h o f g wk im kt dl j jd jb jw jl k ks kw kc kq km kd ka kk d ds dk dw 0 s.heap.size) (cwV 1 hts (gw_v (fun _ h9 => List.mem_cons_of_mem _ h9) wm_72 wm_73 wm_74 wm_2 wm_75) rfl rfl rfl (by decide +kernel) ⟨Nat.le_of_ble_eq_true rfl, Nat.le_of_ble_eq_true rfl⟩) (mx_preV (C := RX7) (T := TX7) (N := 10) (ci := 7) hKx hP hD hS hA [0, 1, 2, 3, 4, 5] (by decide) rfl rfl rfl) rfl rfl hl.1 rfl (lv_room (Nat.le_of_ble_eq_true rfl)) dX7_done_2 ⟨Nat.le_of_ble_eq_true rfl, Nat.le_of_ble_eq_true rfl⟩) hP hD hS hA [0, 1, 2, 3, 4, 5] [] rfl rfl (by decide) (by decide) (fun r1 u1 H locs hq1 hP hD hS => ?_)
  replace hP : va_P (dC, dI) vwCl [(h, .inr (7, [.ref k, .ref d, .ref j, .ref o, .ref f, .ref g, .ref wk, .ref im, .ref kt, .ref dl])), (d, .inr (4, [.ref ds, .int 0, .ref dk, .ref dw, .int 0, .int (-6)])), (j, .inr (1, [.ref k, .ref d, .ref jd, .ref jb, .ref jw, .ref jl, .int (-6), .int (-6), .int 800, .int 0, .int (-6), .int 0, .int 0, .int 0])), (jl, .inl (cI, 61, .inl (upd (fun _ => 0) 0 800))), (k, .inr (0, [.ref ks, .ref kw, .ref kc, .int (-6), .int 0, .int 0, .ref kq, .ref km, .ref kd, .int 0, .ref ka, .ref kk])), (ks, .inl (cI, 5, .inl (upd (fun _ => 0) 0 800)))] H := hP
  replace hD : va_D A [(h, .inr (7, [.ref k, .ref d, .ref j, .ref o, .ref f, .ref g, .ref wk, .ref im, .ref kt, .ref dl])), (d, .inr (4, [.ref ds, .int 0, .ref dk, .ref dw, .int 0, .int (-6)])), (j, .inr (1, [.ref k, .ref d, .ref jd, .ref jb, .ref jw, .ref jl, .int (-6), .int (-6), .int 800, .int 0, .int (-6), .int 0, .int 0, .int 0])), (jl, .inl (cI, 61, .inl (upd (fun _ => 0) 0 800))), (k, .inr (0, [.ref ks, .ref kw, .ref kc, .int (-6), .int 0, .int 0, .ref kq, .ref km, .ref kd, .int 0, .ref ka, .ref kk])), (ks, .inl (cI, 5, .inl (upd (fun _ => 0) 0 800)))] := hD
  obtain rfl : r1 = 0 := hq1
  refine lv_istore_n (lv' := [(1, .int 0), (0, .ref h)]) hx hb dX7_done_5 rfl hl (by decide) rfl (fun ls hl => ?_)
  refine lv_iload_n hx hb dX7_done_6 rfl (lv_at hl 0 rfl) ?_
  refine lv_if_eq (tgt := 12) hx hb dX7_done_7 (by decide) (fun c2 => ?_) (fun c2 => absurd c2 (by decide))
  refine lv_aload_n hx hb dX7_done_12 rfl (lv_at hl 1 rfl) ?_
  refine va_get (D := (dC, dI)) (ci := 7) (v := .ref k) (C := RX7) (T := TX7) (N := 10) hx hb hts hin7 hown hK hP 0 rfl rfl 0 (by decide) hw0 (fun _ h9 => h9) rfl dX7_done_13 ?_
  refine va_get (D := (dC, dI)) (ci := 0) (v := .ref ks) (C := RX0) (T := TX0) (N := 12) hx hb hts hin0 hown hK hP 4 rfl rfl 0 (by decide) hw1 (fun _ h9 => h9) rfl dX7_done_16 ?_
  refine lv_iconst (v := 0) hx hb dX7_done_19 (by decide) ?_
  refine lv_aload_n hx hb dX7_done_20 rfl (lv_at hl 1 rfl) ?_
  refine va_get (D := (dC, dI)) (ci := 7) (v := .ref j) (C := RX7) (T := TX7) (N := 10) hx hb hts hin7 hown hK hP 0 rfl rfl 2 (by decide) hw2 (fun _ h9 => h9) rfl dX7_done_21 ?_
  refine va_get (D := (dC, dI)) (ci := 1) (v := .int 800) (C := RX1) (T := TX1) (N := 14) hx hb hts hin1 hown hK hP 2 rfl rfl 8 (by decide) hw3 (fun _ h9 => h9) rfl dX7_done_24 ?_
  refine va_iast hx hb hK hP hD hS 5 0 rfl rfl (vin (by decide) (by decide)) dX7_done_27 (fun H locs hP hD hS => ?_)
  replace hP : va_P (dC, dI) vwCl [(h, .inr (7, [.ref k, .ref d, .ref j, .ref o, .ref f, .ref g, .ref wk, .ref im, .ref kt, .ref dl])), (d, .inr (4, [.ref ds, .int 0, .ref dk, .ref dw, .int 0, .int (-6)])), (j, .inr (1, [.ref k, .ref d, .ref jd, .ref jb, .ref jw, .ref jl, .int (-6), .int (-6), .int 800, .int 0, .int (-6), .int 0, .int 0, .int 0])), (jl, .inl (cI, 61, .inl (upd (fun _ => 0) 0 800))), (k, .inr (0, [.ref ks, .ref kw, .ref kc, .int (-6), .int 0, .int 0, .ref kq, .ref km, .ref kd, .int 0, .ref ka, .ref kk])), (ks, .inl (cI, 5, .inl (upd (upd (fun _ => 0) 0 800) 0 800)))] H := hP
  replace hD : va_D A [(h, .inr (7, [.ref k, .ref d, .ref j, .ref o, .ref f, .ref g, .ref wk, .ref im, .ref kt, .ref dl])), (d, .inr (4, [.ref ds, .int 0, .ref dk, .ref dw, .int 0, .int (-6)])), (j, .inr (1, [.ref k, .ref d, .ref jd, .ref jb, .ref jw, .ref jl, .int (-6), .int (-6), .int 800, .int 0, .int (-6), .int 0, .int 0, .int 0])), (jl, .inl (cI, 61, .inl (upd (fun _ => 0) 0 800))), (k, .inr (0, [.ref ks, .ref kw, .ref kc, .int (-6), .int 0, .int 0, .ref kq, .ref km, .ref kd, .int 0, .ref ka, .ref kk])), (ks, .inl (cI, 5, .inl (upd (upd (fun _ => 0) 0 800) 0 800)))] := hD
  refine lv_aload_n hx hb dX7_done_28 rfl (lv_at hl 1 rfl) ?_
  refine va_get (D := (dC, dI)) (ci := 7) (v := .ref k) (C := RX7) (T := TX7) (N := 10) hx hb hts hin7 hown hK hP 0 rfl rfl 0 (by decide) hw0 (fun _ h9 => h9) rfl dX7_done_29 ?_
  refine va_get (D := (dC, dI)) (ci := 0) (v := .ref ks) (C := RX0) (T := TX0) (N := 12) hx hb hts hin0 hown hK hP 4 rfl rfl 0 (by decide) hw1 (fun _ h9 => h9) rfl dX7_done_32 ?_
  refine lv_iconst (v := 4) hx hb dX7_done_35 (by decide) ?_
  refine lv_aload_n hx hb dX7_done_36 rfl (lv_at hl 1 rfl) ?_
  refine va_get (D := (dC, dI)) (ci := 7) (v := .ref j) (C := RX7) (T := TX7) (N := 10) hx hb hts hin7 hown hK hP 0 rfl rfl 2 (by decide) hw2 (fun _ h9 => h9) rfl dX7_done_37 ?_
  refine va_get (D := (dC, dI)) (ci := 1) (v := .int 0) (C := RX1) (T := TX1) (N := 14) hx hb hts hin1 hown hK hP 2 rfl rfl 9 (by decide) hw4 (fun _ h9 => h9) rfl dX7_done_40 ?_
  refine va_iast hx hb hK hP hD hS 5 0 rfl rfl (vin (by decide) (by decide)) dX7_done_43 (fun H locs hP hD hS => ?_)
  replace hP : va_P (dC, dI) vwCl [(h, .inr (7, [.ref k, .ref d, .ref j, .ref o, .ref f, .ref g, .ref wk, .ref im, .ref kt, .ref dl])), (d, .inr (4, [.ref ds, .int 0, .ref dk, .ref dw, .int 0, .int (-6)])), (j, .inr (1, [.ref k, .ref d, .ref jd, .ref jb, .ref jw, .ref jl, .int (-6), .int (-6), .int 800, .int 0, .int (-6), .int 0, .int 0, .int 0])), (jl, .inl (cI, 61, .inl (upd (fun _ => 0) 0 800))), (k, .inr (0, [.ref ks, .ref kw, .ref kc, .int (-6), .int 0, .int 0, .ref kq, .ref km, .ref kd, .int 0, .ref ka, .ref kk])), (ks, .inl (cI, 5, .inl (upd (upd (upd (fun _ => 0) 0 800) 0 800) 4 0)))] H := hP
  replace hD : va_D A [(h, .inr (7, [.ref k, .ref d, .ref j, .ref o, .ref f, .ref g, .ref wk, .ref im, .ref kt, .ref dl])), (d, .inr (4, [.ref ds, .int 0, .ref dk, .ref dw, .int 0, .int (-6)])), (j, .inr (1, [.ref k, .ref d, .ref jd, .ref jb, .ref jw, .ref jl, .int (-6), .int (-6), .int 800, .int 0, .int (-6), .int 0, .int 0, .int 0])), (jl, .inl (cI, 61, .inl (upd (fun _ => 0) 0 800))), (k, .inr (0, [.ref ks, .ref kw, .ref kc, .int (-6), .int 0, .int 0, .ref kq, .ref km, .ref kd, .int 0, .ref ka, .ref kk])), (ks, .inl (cI, 5, .inl (upd (upd (upd (fun _ => 0) 0 800) 0 800) 4 0)))] := hD
  refine lv_aload_n hx hb dX7_done_44 rfl (lv_at hl 1 rfl) ?_
  refine va_get (D := (dC, dI)) (ci := 7) (v := .ref k) (C := RX7) (T := TX7) (N := 10) hx hb hts hin7 hown hK hP 0 rfl rfl 0 (by decide) hw0 (fun _ h9 => h9) rfl dX7_done_45 ?_
  refine lv_aload_n hx hb dX7_done_48 rfl (lv_at hl 1 rfl) ?_
  refine va_get (D := (dC, dI)) (ci := 7) (v := .ref j) (C := RX7) (T := TX7) (N := 10) hx hb hts hin7 hown hK hP 0 rfl rfl 2 (by decide) hw2 (fun _ h9 => h9) rfl dX7_done_49 ?_
  refine va_get (D := (dC, dI)) (ci := 1) (v := .int (-6)) (C := RX1) (T := TX1) (N := 14) hx hb hts hin1 hown hK hP 2 rfl rfl 10 (by decide) hw5 (fun _ h9 => h9) rfl dX7_done_52 ?_
  refine va_put (D := (dC, dI)) (ci := 0) (v := .int (-6)) (ty := .int) (C := RX0) (T := TX0) (N := 12) hx hb hts hin0 tyX0 tyX0_ok nmX0 hown hK hP hD hS 4 rfl rfl 3 (by decide) hw6 (fun _ h9 => h9) rfl (by decide +kernel) rfl rfl (Nat.le_of_ble_eq_true rfl) dX7_done_55 (fun H locs hP hD hS => ?_)
  replace hP : va_P (dC, dI) vwCl [(h, .inr (7, [.ref k, .ref d, .ref j, .ref o, .ref f, .ref g, .ref wk, .ref im, .ref kt, .ref dl])), (d, .inr (4, [.ref ds, .int 0, .ref dk, .ref dw, .int 0, .int (-6)])), (j, .inr (1, [.ref k, .ref d, .ref jd, .ref jb, .ref jw, .ref jl, .int (-6), .int (-6), .int 800, .int 0, .int (-6), .int 0, .int 0, .int 0])), (jl, .inl (cI, 61, .inl (upd (fun _ => 0) 0 800))), (k, .inr (0, [.ref ks, .ref kw, .ref kc, .int (-6), .int 0, .int 0, .ref kq, .ref km, .ref kd, .int 0, .ref ka, .ref kk])), (ks, .inl (cI, 5, .inl (upd (upd (upd (fun _ => 0) 0 800) 0 800) 4 0)))] H := hP
  replace hD : va_D A [(h, .inr (7, [.ref k, .ref d, .ref j, .ref o, .ref f, .ref g, .ref wk, .ref im, .ref kt, .ref dl])), (d, .inr (4, [.ref ds, .int 0, .ref dk, .ref dw, .int 0, .int (-6)])), (j, .inr (1, [.ref k, .ref d, .ref jd, .ref jb, .ref jw, .ref jl, .int (-6), .int (-6), .int 800, .int 0, .int (-6), .int 0, .int 0, .int 0])), (jl, .inl (cI, 61, .inl (upd (fun _ => 0) 0 800))), (k, .inr (0, [.ref ks, .ref kw, .ref kc, .int (-6), .int 0, .int 0, .ref kq, .ref km, .ref kd, .int 0, .ref ka, .ref kk])), (ks, .inl (cI, 5, .inl (upd (upd (upd (fun _ => 0) 0 800) 0 800) 4 0)))] := hD
  refine lv_aload_n hx hb dX7_done_58 rfl (lv_at hl 1 rfl) ?_
  refine va_get (D := (dC, dI)) (ci := 7) (v := .ref k) (C := RX7) (T := TX7) (N := 10) hx hb hts hin7 hown hK hP 0 rfl rfl 0 (by decide) hw0 (fun _ h9 => h9) rfl dX7_done_59 ?_
  refine lv_aload_n hx hb dX7_done_62 rfl (lv_at hl 1 rfl) ?_
  refine va_get (D := (dC, dI)) (ci := 7) (v := .ref j) (C := RX7) (T := TX7) (N := 10) hx hb hts hin7 hown hK hP 0 rfl rfl 2 (by decide) hw2 (fun _ h9 => h9) rfl dX7_done_63 ?_
  refine va_get (D := (dC, dI)) (ci := 1) (v := .int 0) (C := RX1) (T := TX1) (N := 14) hx hb hts hin1 hown hK hP 2 rfl rfl 11 (by decide) hw7 (fun _ h9 => h9) rfl dX7_done_66 ?_
  refine va_put (D := (dC, dI)) (ci := 0) (v := .int 0) (ty := .int) (C := RX0) (T := TX0) (N := 12) hx hb hts hin0 tyX0 tyX0_ok nmX0 hown hK hP hD hS 4 rfl rfl 4 (by decide) hw8 (fun _ h9 => h9) rfl (by decide +kernel) rfl rfl (Nat.le_of_ble_eq_true rfl) dX7_done_69 (fun H locs hP hD hS => ?_)
  replace hP : va_P (dC, dI) vwCl [(h, .inr (7, [.ref k, .ref d, .ref j, .ref o, .ref f, .ref g, .ref wk, .ref im, .ref kt, .ref dl])), (d, .inr (4, [.ref ds, .int 0, .ref dk, .ref dw, .int 0, .int (-6)])), (j, .inr (1, [.ref k, .ref d, .ref jd, .ref jb, .ref jw, .ref jl, .int (-6), .int (-6), .int 800, .int 0, .int (-6), .int 0, .int 0, .int 0])), (jl, .inl (cI, 61, .inl (upd (fun _ => 0) 0 800))), (k, .inr (0, [.ref ks, .ref kw, .ref kc, .int (-6), .int 0, .int 0, .ref kq, .ref km, .ref kd, .int 0, .ref ka, .ref kk])), (ks, .inl (cI, 5, .inl (upd (upd (upd (fun _ => 0) 0 800) 0 800) 4 0)))] H := hP
  replace hD : va_D A [(h, .inr (7, [.ref k, .ref d, .ref j, .ref o, .ref f, .ref g, .ref wk, .ref im, .ref kt, .ref dl])), (d, .inr (4, [.ref ds, .int 0, .ref dk, .ref dw, .int 0, .int (-6)])), (j, .inr (1, [.ref k, .ref d, .ref jd, .ref jb, .ref jw, .ref jl, .int (-6), .int (-6), .int 800, .int 0, .int (-6), .int 0, .int 0, .int 0])), (jl, .inl (cI, 61, .inl (upd (fun _ => 0) 0 800))), (k, .inr (0, [.ref ks, .ref kw, .ref kc, .int (-6), .int 0, .int 0, .ref kq, .ref km, .ref kd, .int 0, .ref ka, .ref kk])), (ks, .inl (cI, 5, .inl (upd (upd (upd (fun _ => 0) 0 800) 0 800) 4 0)))] := hD
  refine lv_aload_n hx hb dX7_done_72 rfl (lv_at hl 1 rfl) ?_
  refine va_get (D := (dC, dI)) (ci := 7) (v := .ref d) (C := RX7) (T := TX7) (N := 10) hx hb hts hin7 hown hK hP 0 rfl rfl 1 (by decide) hw9 (fun _ h9 => h9) rfl dX7_done_73 ?_
  refine lv_iconst (v := 0) hx hb dX7_done_76 (by decide) ?_
  refine va_put (D := (dC, dI)) (ci := 4) (v := .int 0) (ty := .int) (C := RX4) (T := TX4) (N := 6) hx hb hts hin4 tyX4 tyX4_ok nmX4 hown hK hP hD hS 1 rfl rfl 1 (by decide) hw10 (fun _ h9 => h9) rfl (by decide +kernel) rfl rfl (Nat.le_of_ble_eq_true rfl) dX7_done_77 (fun H locs hP hD hS => ?_)
  replace hP : va_P (dC, dI) vwCl [(h, .inr (7, [.ref k, .ref d, .ref j, .ref o, .ref f, .ref g, .ref wk, .ref im, .ref kt, .ref dl])), (d, .inr (4, [.ref ds, .int 0, .ref dk, .ref dw, .int 0, .int (-6)])), (j, .inr (1, [.ref k, .ref d, .ref jd, .ref jb, .ref jw, .ref jl, .int (-6), .int (-6), .int 800, .int 0, .int (-6), .int 0, .int 0, .int 0])), (jl, .inl (cI, 61, .inl (upd (fun _ => 0) 0 800))), (k, .inr (0, [.ref ks, .ref kw, .ref kc, .int (-6), .int 0, .int 0, .ref kq, .ref km, .ref kd, .int 0, .ref ka, .ref kk])), (ks, .inl (cI, 5, .inl (upd (upd (upd (fun _ => 0) 0 800) 0 800) 4 0)))] H := hP
  replace hD : va_D A [(h, .inr (7, [.ref k, .ref d, .ref j, .ref o, .ref f, .ref g, .ref wk, .ref im, .ref kt, .ref dl])), (d, .inr (4, [.ref ds, .int 0, .ref dk, .ref dw, .int 0, .int (-6)])), (j, .inr (1, [.ref k, .ref d, .ref jd, .ref jb, .ref jw, .ref jl, .int (-6), .int (-6), .int 800, .int 0, .int (-6), .int 0, .int 0, .int 0])), (jl, .inl (cI, 61, .inl (upd (fun _ => 0) 0 800))), (k, .inr (0, [.ref ks, .ref kw, .ref kc, .int (-6), .int 0, .int 0, .ref kq, .ref km, .ref kd, .int 0, .ref ka, .ref kk])), (ks, .inl (cI, 5, .inl (upd (upd (upd (fun _ => 0) 0 800) 0 800) 4 0)))] := hD
  refine lv_aload_n hx hb dX7_done_80 rfl (lv_at hl 1 rfl) ?_
  refine va_get (D := (dC, dI)) (ci := 7) (v := .ref d) (C := RX7) (T := TX7) (N := 10) hx hb hts hin7 hown hK hP 0 rfl rfl 1 (by decide) hw9 (fun _ h9 => h9) rfl dX7_done_81 ?_
  refine va_get (D := (dC, dI)) (ci := 4) (v := .int 0) (C := RX4) (T := TX4) (N := 6) hx hb hts hin4 hown hK hP 1 rfl rfl 4 (by decide) hw11 (fun _ h9 => h9) rfl dX7_done_84 ?_
  have hP9 := mx_subP (wc := []) hP [] rfl
  have hD9 := hD.sub (ws' := []) [] (by decide) rfl
  exact W.iret (v := 0) hx hb hr (fun t ht hW => ⟨⟨0, (), rfl, rfl, by rw [ht]; exact hP9, hD9⟩, hS.F ht⟩) hS.2.2 dX7_done_87
set_option maxHeartbeats 4000000 in
set_option maxRecDepth 100000 in
theorem c_X7_plain (l : Launch) (dC : Nat → ClassId) (dI : Nat → Nat → Nat) (cI cZ cK : ClassId) (tS aK aV : Nat) (h : Nat) (o : Nat) (f : Nat) (g : Nat) (wk : Nat) (im : Nat) (kt : Nat) (dl : Nat) (j : Nat) (k : Nat) (ks : Nat) (kw : Nat) (kc : Nat) (kq : Nat) (km : Nat) (kd : Nat) (ka : Nat) (kk : Nat) (d : Nat) (i0 : Int32) (i1 : Int32) (i2 : Int32) (sz : Nat) : Ci l yX7_plain (wq yX7_plain cX7_plain 4 (some .int)) ({ frames := 2, cells := 0, slots := 0, locals := 43 }) dC dI cI cZ cK tS aK aV [.ref h, .int i0, .int i1, .int i2] sz [(h, .inr (7, [.ref k, .ref d, .ref j, .ref o, .ref f, .ref g, .ref wk, .ref im, .ref kt, .ref dl])), (k, .inr (0, [.ref ks, .ref kw, .ref kc, .int (-6), .int 0, .int 0, .ref kq, .ref km, .ref kd, .int 0, .ref ka, .ref kk]))] (fun (r : Int32) (_ : Unit) => r = (-1)) (fun _ => []) := by
  refine Met.ofW (cc := cX7_plain) (maxL := 4) (ret := (some .int)) (by decide) rfl ?_
  intro p e s m args below meth c s₁ B hml hv
  obtain ⟨rfl, hsz, hP, hKx, hD0⟩ := hv
  have hx := B.exec
  have hb := B.bytes
  have hr := B.returns
  have hts := atoms_spec (ws := wq yX7_plain cX7_plain 4 (some .int)) B.pre
  have hown : s.vm.findClass RX7 = some m.cls := findClass_of_methodNamed B.named
  have hlocks := B.notSynchronized
  subst hsz
  have hD := hD0.self (sz := s.heap.size)
  generalize hAe : va_A [(h, .inr (7, [.ref k, .ref d, .ref j, .ref o, .ref f, .ref g, .ref wk, .ref im, .ref kt, .ref dl])), (k, .inr (0, [.ref ks, .ref kw, .ref kc, .int (-6), .int 0, .int 0, .ref kq, .ref km, .ref kd, .int 0, .ref ka, .ref kk]))] s.heap.size = A at hD hKx ⊢
  have hA : ∀ q : Nat, s.heap.size ≤ q → A q := fun q h => by rw [← hAe]; exact Or.inr h
  have hS : va_S A s.heap s.heap [] := va_S.rf
  have hP : va_P (dC, dI) vwCl [(h, .inr (7, [.ref k, .ref d, .ref j, .ref o, .ref f, .ref g, .ref wk, .ref im, .ref kt, .ref dl])), (k, .inr (0, [.ref ks, .ref kw, .ref kc, .int (-6), .int 0, .int 0, .ref kq, .ref km, .ref kd, .int 0, .ref ka, .ref kk]))] s.heap := hP
  have hl := lv_entry ([.ref h, .int i0, .int i1, .int i2]) (n := 4) (Nat.le_of_ble_eq_true rfl)
  rw [lg_entry_eq]
  generalize (lg_sl ([.ref h, .int i0, .int i1, .int i2]) ++ List.replicate (4 - (lg_sl ([.ref h, .int i0, .int i1, .int i2])).length) Slot.unset).toArray = ls at hl ⊢
  have hl : lv_has ls 4 [(0, .ref h), (1, .int i0), (2, .int i1), (3, .int i2)] := hl
  have hK := hKx.1
  have hin7 := fun w9 h9 => List.mem_cons_of_mem (Cond.code yX7_plain cX7_plain 4 (some .int)) (inlX7 w9 h9)
  have hw0 := hts (.fieldLink RX7 12 "OneCan" "camp" "LOneCan$Camp;") (List.mem_cons_of_mem _ wm_69)
  refine lv_aload_n hx hb dX7_plain_0 rfl (lv_at hl 0 rfl) ?_
  refine va_get (D := (dC, dI)) (ci := 7) (v := .ref k) (C := RX7) (T := TX7) (N := 10) hx hb hts hin7 hown hK hP 0 rfl rfl 0 (by decide) hw0 (fun _ h9 => h9) rfl dX7_plain_1 ?_
  refine lv_iload_n hx hb dX7_plain_4 rfl (lv_at hl 1 rfl) ?_
  refine mx_i (wr := [(h, .inr (7, [.ref k, .ref d, .ref j, .ref o, .ref f, .ref g, .ref wk, .ref im, .ref kt, .ref dl]))]) (va_runV (As := [.int i0]) (rest := []) ⟨hx, hb, hml, hown, hts⟩ (c_X0_has l dC dI cI cZ cK tS aK aV k ks kw kc kq km kd ka kk i0 s.heap.size) (cwV 1 hts (gw_v (fun _ h9 => List.mem_cons_of_mem _ h9) wm_97 wm_98 wm_99 wm_10 wm_100) rfl rfl rfl (by decide +kernel) ⟨Nat.le_of_ble_eq_true rfl, Nat.le_of_ble_eq_true rfl⟩) (mx_preV (C := RX0) (T := TX0) (N := 12) (ci := 0) hKx hP hD hS hA [1] (by decide) rfl rfl rfl) rfl rfl hl.1 rfl (lv_room (Nat.le_of_ble_eq_true rfl)) dX7_plain_5 ⟨Nat.le_of_ble_eq_true rfl, Nat.le_of_ble_eq_true rfl⟩) hP hD hS hA [1] [0] rfl rfl (by decide) (by decide) (fun r1 u1 H locs hq1 hP hD hS => ?_)
  replace hP : va_P (dC, dI) vwCl [(h, .inr (7, [.ref k, .ref d, .ref j, .ref o, .ref f, .ref g, .ref wk, .ref im, .ref kt, .ref dl])), (k, .inr (0, [.ref ks, .ref kw, .ref kc, .int (-6), .int 0, .int 0, .ref kq, .ref km, .ref kd, .int 0, .ref ka, .ref kk]))] H := hP
  replace hD : va_D A [(h, .inr (7, [.ref k, .ref d, .ref j, .ref o, .ref f, .ref g, .ref wk, .ref im, .ref kt, .ref dl])), (k, .inr (0, [.ref ks, .ref kw, .ref kc, .int (-6), .int 0, .int 0, .ref kq, .ref km, .ref kd, .int 0, .ref ka, .ref kk]))] := hD
  obtain rfl : r1 = 0 := hq1
  refine lv_if_eq (tgt := 18) hx hb dX7_plain_8 (by decide) (fun c2 => ?_) (fun c2 => absurd c2 (by decide))
  refine lv_iconst (v := (-1)) hx hb dX7_plain_18 (by decide) ?_
  have hP9 := mx_subP (wc := []) hP [] rfl
  have hD9 := hD.sub (ws' := []) [] (by decide) rfl
  exact W.iret (v := (-1)) hx hb hr (fun t ht hW => ⟨⟨(-1), (), rfl, rfl, by rw [ht]; exact hP9, hD9⟩, hS.F ht⟩) hS.2.2 dX7_plain_19
set_option maxHeartbeats 4000000 in
set_option maxRecDepth 100000 in
theorem c_X7_ends (l : Launch) (dC : Nat → ClassId) (dI : Nat → Nat → Nat) (cI cZ cK : ClassId) (tS aK aV : Nat) (h : Nat) (o : Nat) (f : Nat) (g : Nat) (wk : Nat) (im : Nat) (kt : Nat) (dl : Nat) (j : Nat) (k : Nat) (ks : Nat) (kw : Nat) (kc : Nat) (kq : Nat) (km : Nat) (kd : Nat) (ka : Nat) (kk : Nat) (d : Nat) (i0 : Int32) (sz : Nat) : Ci l yX7_ends (wq yX7_ends cX7_ends 4 (some .int)) ({ frames := 2, cells := 0, slots := 0, locals := 43 }) dC dI cI cZ cK tS aK aV [.ref h, .int i0] sz [(h, .inr (7, [.ref k, .ref d, .ref j, .ref o, .ref f, .ref g, .ref wk, .ref im, .ref kt, .ref dl])), (k, .inr (0, [.ref ks, .ref kw, .ref kc, .int (-6), .int 0, .int 0, .ref kq, .ref km, .ref kd, .int 0, .ref ka, .ref kk]))] (fun (r : Int32) (_ : Unit) => r = (-1)) (fun _ => []) := by
  refine Met.ofW (cc := cX7_ends) (maxL := 4) (ret := (some .int)) (by decide) rfl ?_
  intro p e s m args below meth c s₁ B hml hv
  obtain ⟨rfl, hsz, hP, hKx, hD0⟩ := hv
  have hx := B.exec
  have hb := B.bytes
  have hr := B.returns
  have hts := atoms_spec (ws := wq yX7_ends cX7_ends 4 (some .int)) B.pre
  have hown : s.vm.findClass RX7 = some m.cls := findClass_of_methodNamed B.named
  have hlocks := B.notSynchronized
  subst hsz
  have hD := hD0.self (sz := s.heap.size)
  generalize hAe : va_A [(h, .inr (7, [.ref k, .ref d, .ref j, .ref o, .ref f, .ref g, .ref wk, .ref im, .ref kt, .ref dl])), (k, .inr (0, [.ref ks, .ref kw, .ref kc, .int (-6), .int 0, .int 0, .ref kq, .ref km, .ref kd, .int 0, .ref ka, .ref kk]))] s.heap.size = A at hD hKx ⊢
  have hA : ∀ q : Nat, s.heap.size ≤ q → A q := fun q h => by rw [← hAe]; exact Or.inr h
  have hS : va_S A s.heap s.heap [] := va_S.rf
  have hP : va_P (dC, dI) vwCl [(h, .inr (7, [.ref k, .ref d, .ref j, .ref o, .ref f, .ref g, .ref wk, .ref im, .ref kt, .ref dl])), (k, .inr (0, [.ref ks, .ref kw, .ref kc, .int (-6), .int 0, .int 0, .ref kq, .ref km, .ref kd, .int 0, .ref ka, .ref kk]))] s.heap := hP
  have hl := lv_entry ([.ref h, .int i0]) (n := 4) (Nat.le_of_ble_eq_true rfl)
  rw [lg_entry_eq]
  generalize (lg_sl ([.ref h, .int i0]) ++ List.replicate (4 - (lg_sl ([.ref h, .int i0])).length) Slot.unset).toArray = ls at hl ⊢
  have hl : lv_has ls 4 [(0, .ref h), (1, .int i0)] := hl
  have hK := hKx.1
  have hin7 := fun w9 h9 => List.mem_cons_of_mem (Cond.code yX7_ends cX7_ends 4 (some .int)) (inlX7 w9 h9)
  have hw0 := hts (.fieldLink RX7 12 "OneCan" "camp" "LOneCan$Camp;") (List.mem_cons_of_mem _ wm_69)
  refine lv_aload_n hx hb dX7_ends_0 rfl (lv_at hl 0 rfl) ?_
  refine va_get (D := (dC, dI)) (ci := 7) (v := .ref k) (C := RX7) (T := TX7) (N := 10) hx hb hts hin7 hown hK hP 0 rfl rfl 0 (by decide) hw0 (fun _ h9 => h9) rfl dX7_ends_1 ?_
  refine lv_iload_n hx hb dX7_ends_4 rfl (lv_at hl 1 rfl) ?_
  refine mx_i (wr := [(h, .inr (7, [.ref k, .ref d, .ref j, .ref o, .ref f, .ref g, .ref wk, .ref im, .ref kt, .ref dl]))]) (va_runV (As := [.int i0]) (rest := []) ⟨hx, hb, hml, hown, hts⟩ (c_X0_has l dC dI cI cZ cK tS aK aV k ks kw kc kq km kd ka kk i0 s.heap.size) (cwV 1 hts (gw_v (fun _ h9 => List.mem_cons_of_mem _ h9) wm_97 wm_98 wm_99 wm_10 wm_100) rfl rfl rfl (by decide +kernel) ⟨Nat.le_of_ble_eq_true rfl, Nat.le_of_ble_eq_true rfl⟩) (mx_preV (C := RX0) (T := TX0) (N := 12) (ci := 0) hKx hP hD hS hA [1] (by decide) rfl rfl rfl) rfl rfl hl.1 rfl (lv_room (Nat.le_of_ble_eq_true rfl)) dX7_ends_5 ⟨Nat.le_of_ble_eq_true rfl, Nat.le_of_ble_eq_true rfl⟩) hP hD hS hA [1] [0] rfl rfl (by decide) (by decide) (fun r1 u1 H locs hq1 hP hD hS => ?_)
  replace hP : va_P (dC, dI) vwCl [(h, .inr (7, [.ref k, .ref d, .ref j, .ref o, .ref f, .ref g, .ref wk, .ref im, .ref kt, .ref dl])), (k, .inr (0, [.ref ks, .ref kw, .ref kc, .int (-6), .int 0, .int 0, .ref kq, .ref km, .ref kd, .int 0, .ref ka, .ref kk]))] H := hP
  replace hD : va_D A [(h, .inr (7, [.ref k, .ref d, .ref j, .ref o, .ref f, .ref g, .ref wk, .ref im, .ref kt, .ref dl])), (k, .inr (0, [.ref ks, .ref kw, .ref kc, .int (-6), .int 0, .int 0, .ref kq, .ref km, .ref kd, .int 0, .ref ka, .ref kk]))] := hD
  obtain rfl : r1 = 0 := hq1
  refine lv_if_ne (tgt := 13) hx hb dX7_ends_8 (by decide) (fun c2 => absurd c2 (by decide)) (fun c2 => ?_)
  refine lv_iconst (v := (-1)) hx hb dX7_ends_11 (by decide) ?_
  have hP9 := mx_subP (wc := []) hP [] rfl
  have hD9 := hD.sub (ws' := []) [] (by decide) rfl
  exact W.iret (v := (-1)) hx hb hr (fun t ht hW => ⟨⟨(-1), (), rfl, rfl, by rw [ht]; exact hP9, hD9⟩, hS.F ht⟩) hS.2.2 dX7_ends_12
set_option maxHeartbeats 4000000 in
set_option maxRecDepth 100000 in
theorem c_X7_keep (l : Launch) (dC : Nat → ClassId) (dI : Nat → Nat → Nat) (cI cZ cK : ClassId) (tS aK aV : Nat) (h : Nat) (o : Nat) (f : Nat) (g : Nat) (wk : Nat) (im : Nat) (kt : Nat) (dl : Nat) (j : Nat) (k : Nat) (ks : Nat) (kw : Nat) (kc : Nat) (kq : Nat) (km : Nat) (kd : Nat) (ka : Nat) (kk : Nat) (d : Nat) (i0 : Int32) (i1 : Int32) (sz : Nat) : Ci l yX7_keep (wq yX7_keep cX7_keep 5 (some .int)) ({ frames := 2, cells := 0, slots := 0, locals := 43 }) dC dI cI cZ cK tS aK aV [.ref h, .int i0, .int i1] sz [(h, .inr (7, [.ref k, .ref d, .ref j, .ref o, .ref f, .ref g, .ref wk, .ref im, .ref kt, .ref dl])), (k, .inr (0, [.ref ks, .ref kw, .ref kc, .int (-6), .int 0, .int 0, .ref kq, .ref km, .ref kd, .int 0, .ref ka, .ref kk]))] (fun (r : Int32) (_ : Unit) => r = (-1)) (fun _ => []) := by
  refine Met.ofW (cc := cX7_keep) (maxL := 5) (ret := (some .int)) (by decide) rfl ?_
  intro p e s m args below meth c s₁ B hml hv
  obtain ⟨rfl, hsz, hP, hKx, hD0⟩ := hv
  have hx := B.exec
  have hb := B.bytes
  have hr := B.returns
  have hts := atoms_spec (ws := wq yX7_keep cX7_keep 5 (some .int)) B.pre
  have hown : s.vm.findClass RX7 = some m.cls := findClass_of_methodNamed B.named
  have hlocks := B.notSynchronized
  subst hsz
  have hD := hD0.self (sz := s.heap.size)
  generalize hAe : va_A [(h, .inr (7, [.ref k, .ref d, .ref j, .ref o, .ref f, .ref g, .ref wk, .ref im, .ref kt, .ref dl])), (k, .inr (0, [.ref ks, .ref kw, .ref kc, .int (-6), .int 0, .int 0, .ref kq, .ref km, .ref kd, .int 0, .ref ka, .ref kk]))] s.heap.size = A at hD hKx ⊢
  have hA : ∀ q : Nat, s.heap.size ≤ q → A q := fun q h => by rw [← hAe]; exact Or.inr h
  have hS : va_S A s.heap s.heap [] := va_S.rf
  have hP : va_P (dC, dI) vwCl [(h, .inr (7, [.ref k, .ref d, .ref j, .ref o, .ref f, .ref g, .ref wk, .ref im, .ref kt, .ref dl])), (k, .inr (0, [.ref ks, .ref kw, .ref kc, .int (-6), .int 0, .int 0, .ref kq, .ref km, .ref kd, .int 0, .ref ka, .ref kk]))] s.heap := hP
  have hl := lv_entry ([.ref h, .int i0, .int i1]) (n := 5) (Nat.le_of_ble_eq_true rfl)
  rw [lg_entry_eq]
  generalize (lg_sl ([.ref h, .int i0, .int i1]) ++ List.replicate (5 - (lg_sl ([.ref h, .int i0, .int i1])).length) Slot.unset).toArray = ls at hl ⊢
  have hl : lv_has ls 5 [(0, .ref h), (1, .int i0), (2, .int i1)] := hl
  have hK := hKx.1
  have hin7 := fun w9 h9 => List.mem_cons_of_mem (Cond.code yX7_keep cX7_keep 5 (some .int)) (inlX7 w9 h9)
  have hw0 := hts (.fieldLink RX7 12 "OneCan" "camp" "LOneCan$Camp;") (List.mem_cons_of_mem _ wm_69)
  refine lv_aload_n hx hb dX7_keep_0 rfl (lv_at hl 0 rfl) ?_
  refine va_get (D := (dC, dI)) (ci := 7) (v := .ref k) (C := RX7) (T := TX7) (N := 10) hx hb hts hin7 hown hK hP 0 rfl rfl 0 (by decide) hw0 (fun _ h9 => h9) rfl dX7_keep_1 ?_
  refine lv_iload_n hx hb dX7_keep_4 rfl (lv_at hl 1 rfl) ?_
  refine mx_i (wr := [(h, .inr (7, [.ref k, .ref d, .ref j, .ref o, .ref f, .ref g, .ref wk, .ref im, .ref kt, .ref dl]))]) (va_runV (As := [.int i0]) (rest := []) ⟨hx, hb, hml, hown, hts⟩ (c_X0_has l dC dI cI cZ cK tS aK aV k ks kw kc kq km kd ka kk i0 s.heap.size) (cwV 1 hts (gw_v (fun _ h9 => List.mem_cons_of_mem _ h9) wm_97 wm_98 wm_99 wm_10 wm_100) rfl rfl rfl (by decide +kernel) ⟨Nat.le_of_ble_eq_true rfl, Nat.le_of_ble_eq_true rfl⟩) (mx_preV (C := RX0) (T := TX0) (N := 12) (ci := 0) hKx hP hD hS hA [1] (by decide) rfl rfl rfl) rfl rfl hl.1 rfl (lv_room (Nat.le_of_ble_eq_true rfl)) dX7_keep_5 ⟨Nat.le_of_ble_eq_true rfl, Nat.le_of_ble_eq_true rfl⟩) hP hD hS hA [1] [0] rfl rfl (by decide) (by decide) (fun r1 u1 H locs hq1 hP hD hS => ?_)
  replace hP : va_P (dC, dI) vwCl [(h, .inr (7, [.ref k, .ref d, .ref j, .ref o, .ref f, .ref g, .ref wk, .ref im, .ref kt, .ref dl])), (k, .inr (0, [.ref ks, .ref kw, .ref kc, .int (-6), .int 0, .int 0, .ref kq, .ref km, .ref kd, .int 0, .ref ka, .ref kk]))] H := hP
  replace hD : va_D A [(h, .inr (7, [.ref k, .ref d, .ref j, .ref o, .ref f, .ref g, .ref wk, .ref im, .ref kt, .ref dl])), (k, .inr (0, [.ref ks, .ref kw, .ref kc, .int (-6), .int 0, .int 0, .ref kq, .ref km, .ref kd, .int 0, .ref ka, .ref kk]))] := hD
  obtain rfl : r1 = 0 := hq1
  refine lv_if_eq (tgt := 18) hx hb dX7_keep_8 (by decide) (fun c2 => ?_) (fun c2 => absurd c2 (by decide))
  refine lv_iconst (v := (-1)) hx hb dX7_keep_18 (by decide) ?_
  have hP9 := mx_subP (wc := []) hP [] rfl
  have hD9 := hD.sub (ws' := []) [] (by decide) rfl
  exact W.iret (v := (-1)) hx hb hr (fun t ht hW => ⟨⟨(-1), (), rfl, rfl, by rw [ht]; exact hP9, hD9⟩, hS.F ht⟩) hS.2.2 dX7_keep_19
set_option maxHeartbeats 4000000 in
set_option maxRecDepth 100000 in
theorem c_X7_shares (l : Launch) (dC : Nat → ClassId) (dI : Nat → Nat → Nat) (cI cZ cK : ClassId) (tS aK aV : Nat) (h : Nat) (o : Nat) (f : Nat) (g : Nat) (wk : Nat) (im : Nat) (kt : Nat) (dl : Nat) (j : Nat) (k : Nat) (ks : Nat) (kw : Nat) (kc : Nat) (kq : Nat) (km : Nat) (kd : Nat) (ka : Nat) (kk : Nat) (d : Nat) (i0 : Int32) (i1 : Int32) (i2 : Int32) (sz : Nat) : Ci l yX7_shares (wq yX7_shares cX7_shares 6 (some .int)) ({ frames := 2, cells := 0, slots := 0, locals := 43 }) dC dI cI cZ cK tS aK aV [.ref h, .int i0, .int i1, .int i2] sz [(h, .inr (7, [.ref k, .ref d, .ref j, .ref o, .ref f, .ref g, .ref wk, .ref im, .ref kt, .ref dl])), (k, .inr (0, [.ref ks, .ref kw, .ref kc, .int (-6), .int 0, .int 0, .ref kq, .ref km, .ref kd, .int 0, .ref ka, .ref kk]))] (fun (r : Int32) (_ : Unit) => r = (-1)) (fun _ => []) := by
  refine Met.ofW (cc := cX7_shares) (maxL := 6) (ret := (some .int)) (by decide) rfl ?_
  intro p e s m args below meth c s₁ B hml hv
  obtain ⟨rfl, hsz, hP, hKx, hD0⟩ := hv
  have hx := B.exec
  have hb := B.bytes
  have hr := B.returns
  have hts := atoms_spec (ws := wq yX7_shares cX7_shares 6 (some .int)) B.pre
  have hown : s.vm.findClass RX7 = some m.cls := findClass_of_methodNamed B.named
  have hlocks := B.notSynchronized
  subst hsz
  have hD := hD0.self (sz := s.heap.size)
  generalize hAe : va_A [(h, .inr (7, [.ref k, .ref d, .ref j, .ref o, .ref f, .ref g, .ref wk, .ref im, .ref kt, .ref dl])), (k, .inr (0, [.ref ks, .ref kw, .ref kc, .int (-6), .int 0, .int 0, .ref kq, .ref km, .ref kd, .int 0, .ref ka, .ref kk]))] s.heap.size = A at hD hKx ⊢
  have hA : ∀ q : Nat, s.heap.size ≤ q → A q := fun q h => by rw [← hAe]; exact Or.inr h
  have hS : va_S A s.heap s.heap [] := va_S.rf
  have hP : va_P (dC, dI) vwCl [(h, .inr (7, [.ref k, .ref d, .ref j, .ref o, .ref f, .ref g, .ref wk, .ref im, .ref kt, .ref dl])), (k, .inr (0, [.ref ks, .ref kw, .ref kc, .int (-6), .int 0, .int 0, .ref kq, .ref km, .ref kd, .int 0, .ref ka, .ref kk]))] s.heap := hP
  have hl := lv_entry ([.ref h, .int i0, .int i1, .int i2]) (n := 6) (Nat.le_of_ble_eq_true rfl)
  rw [lg_entry_eq]
  generalize (lg_sl ([.ref h, .int i0, .int i1, .int i2]) ++ List.replicate (6 - (lg_sl ([.ref h, .int i0, .int i1, .int i2])).length) Slot.unset).toArray = ls at hl ⊢
  have hl : lv_has ls 6 [(0, .ref h), (1, .int i0), (2, .int i1), (3, .int i2)] := hl
  have hK := hKx.1
  have hin7 := fun w9 h9 => List.mem_cons_of_mem (Cond.code yX7_shares cX7_shares 6 (some .int)) (inlX7 w9 h9)
  have hw0 := hts (.fieldLink RX7 12 "OneCan" "camp" "LOneCan$Camp;") (List.mem_cons_of_mem _ wm_69)
  refine lv_aload_n hx hb dX7_shares_0 rfl (lv_at hl 0 rfl) ?_
  refine va_get (D := (dC, dI)) (ci := 7) (v := .ref k) (C := RX7) (T := TX7) (N := 10) hx hb hts hin7 hown hK hP 0 rfl rfl 0 (by decide) hw0 (fun _ h9 => h9) rfl dX7_shares_1 ?_
  refine lv_iload_n hx hb dX7_shares_4 rfl (lv_at hl 1 rfl) ?_
  refine mx_i (wr := [(h, .inr (7, [.ref k, .ref d, .ref j, .ref o, .ref f, .ref g, .ref wk, .ref im, .ref kt, .ref dl]))]) (va_runV (As := [.int i0]) (rest := []) ⟨hx, hb, hml, hown, hts⟩ (c_X0_has l dC dI cI cZ cK tS aK aV k ks kw kc kq km kd ka kk i0 s.heap.size) (cwV 1 hts (gw_v (fun _ h9 => List.mem_cons_of_mem _ h9) wm_97 wm_98 wm_99 wm_10 wm_100) rfl rfl rfl (by decide +kernel) ⟨Nat.le_of_ble_eq_true rfl, Nat.le_of_ble_eq_true rfl⟩) (mx_preV (C := RX0) (T := TX0) (N := 12) (ci := 0) hKx hP hD hS hA [1] (by decide) rfl rfl rfl) rfl rfl hl.1 rfl (lv_room (Nat.le_of_ble_eq_true rfl)) dX7_shares_5 ⟨Nat.le_of_ble_eq_true rfl, Nat.le_of_ble_eq_true rfl⟩) hP hD hS hA [1] [0] rfl rfl (by decide) (by decide) (fun r1 u1 H locs hq1 hP hD hS => ?_)
  replace hP : va_P (dC, dI) vwCl [(h, .inr (7, [.ref k, .ref d, .ref j, .ref o, .ref f, .ref g, .ref wk, .ref im, .ref kt, .ref dl])), (k, .inr (0, [.ref ks, .ref kw, .ref kc, .int (-6), .int 0, .int 0, .ref kq, .ref km, .ref kd, .int 0, .ref ka, .ref kk]))] H := hP
  replace hD : va_D A [(h, .inr (7, [.ref k, .ref d, .ref j, .ref o, .ref f, .ref g, .ref wk, .ref im, .ref kt, .ref dl])), (k, .inr (0, [.ref ks, .ref kw, .ref kc, .int (-6), .int 0, .int 0, .ref kq, .ref km, .ref kd, .int 0, .ref ka, .ref kk]))] := hD
  obtain rfl : r1 = 0 := hq1
  refine lv_if_eq (tgt := 20) hx hb dX7_shares_8 (by decide) (fun c2 => ?_) (fun c2 => absurd c2 (by decide))
  refine lv_iconst (v := (-1)) hx hb dX7_shares_20 (by decide) ?_
  have hP9 := mx_subP (wc := []) hP [] rfl
  have hD9 := hD.sub (ws' := []) [] (by decide) rfl
  exact W.iret (v := (-1)) hx hb hr (fun t ht hW => ⟨⟨(-1), (), rfl, rfl, by rw [ht]; exact hP9, hD9⟩, hS.F ht⟩) hS.2.2 dX7_shares_21
set_option maxHeartbeats 4000000 in
set_option maxRecDepth 100000 in
theorem c_X7_say (l : Launch) (dC : Nat → ClassId) (dI : Nat → Nat → Nat) (cI cZ cK : ClassId) (tS aK aV : Nat) (h : Nat) (o : Nat) (f : Nat) (g : Nat) (wk : Nat) (im : Nat) (kt : Nat) (dl : Nat) (j : Nat) (k : Nat) (d : Nat) (ds : Nat) (dk : Nat) (dw : Nat) (i0 : Int32) (sz : Nat) : Ci l yX7_say (wq yX7_say cX7_say 2 (some .int)) ({ frames := 1, cells := 0, slots := 0, locals := 22 }) dC dI cI cZ cK tS aK aV [.ref h, .int i0] sz [(h, .inr (7, [.ref k, .ref d, .ref j, .ref o, .ref f, .ref g, .ref wk, .ref im, .ref kt, .ref dl])), (d, .inr (4, [.ref ds, .int 0, .ref dk, .ref dw, .int 0, .int 0])), (ds, .inl (cI, 60, .inl (fun _ => 0)))] (fun (r : Int32) (_ : Unit) => (r = 1 ∧ (33 ≤ i0.toInt ∧ i0.toInt ≤ 126)) ∨ (r = (-2) ∧ (i0.toInt < 33 ∨ 126 < i0.toInt))) (fun _ => []) := by
  refine Met.ofW (cc := cX7_say) (maxL := 2) (ret := (some .int)) (by decide) rfl ?_
  intro p e s m args below meth c s₁ B hml hv
  obtain ⟨rfl, hsz, hP, hKx, hD0⟩ := hv
  have hx := B.exec
  have hb := B.bytes
  have hr := B.returns
  have hts := atoms_spec (ws := wq yX7_say cX7_say 2 (some .int)) B.pre
  have hown : s.vm.findClass RX7 = some m.cls := findClass_of_methodNamed B.named
  have hlocks := B.notSynchronized
  subst hsz
  have hD := hD0.self (sz := s.heap.size)
  generalize hAe : va_A [(h, .inr (7, [.ref k, .ref d, .ref j, .ref o, .ref f, .ref g, .ref wk, .ref im, .ref kt, .ref dl])), (d, .inr (4, [.ref ds, .int 0, .ref dk, .ref dw, .int 0, .int 0])), (ds, .inl (cI, 60, .inl (fun _ => 0)))] s.heap.size = A at hD hKx ⊢
  have hA : ∀ q : Nat, s.heap.size ≤ q → A q := fun q h => by rw [← hAe]; exact Or.inr h
  have hS : va_S A s.heap s.heap [] := va_S.rf
  have hP : va_P (dC, dI) vwCl [(h, .inr (7, [.ref k, .ref d, .ref j, .ref o, .ref f, .ref g, .ref wk, .ref im, .ref kt, .ref dl])), (d, .inr (4, [.ref ds, .int 0, .ref dk, .ref dw, .int 0, .int 0])), (ds, .inl (cI, 60, .inl (fun _ => 0)))] s.heap := hP
  have hl := lv_entry ([.ref h, .int i0]) (n := 2) (Nat.le_of_ble_eq_true rfl)
  rw [lg_entry_eq]
  generalize (lg_sl ([.ref h, .int i0]) ++ List.replicate (2 - (lg_sl ([.ref h, .int i0])).length) Slot.unset).toArray = ls at hl ⊢
  have hl : lv_has ls 2 [(0, .ref h), (1, .int i0)] := hl
  have hK := hKx.1
  have hin7 := fun w9 h9 => List.mem_cons_of_mem (Cond.code yX7_say cX7_say 2 (some .int)) (inlX7 w9 h9)
  have hin4 := fun w9 h9 => List.mem_cons_of_mem (Cond.code yX7_say cX7_say 2 (some .int)) (inlX4 w9 h9)
  have hw0 := hts (.fieldLink RX7 19 "OneCan" "pad" "LOneCan$Pad;") (List.mem_cons_of_mem _ wm_54)
  have hw1 := hts (.fieldLink RX7 115 "OneCan$Pad" "size" "I") (List.mem_cons_of_mem _ wm_68)
  have hw2 := hts (.fieldLink RX7 118 "OneCan$Pad" "signs" "[I") (List.mem_cons_of_mem _ wm_101)
  refine lv_iload_n hx hb dX7_say_0 rfl (lv_at hl 1 rfl) ?_
  refine lv_bipush (v := 33) hx hb dX7_say_1 (by decide) ?_
  refine lv_bipush (v := 126) hx hb dX7_say_3 (by decide) ?_
  refine mx_i (wr := [(h, .inr (7, [.ref k, .ref d, .ref j, .ref o, .ref f, .ref g, .ref wk, .ref im, .ref kt, .ref dl])), (d, .inr (4, [.ref ds, .int 0, .ref dk, .ref dw, .int 0, .int 0])), (ds, .inl (cI, 60, .inl (fun _ => 0)))]) (va_runS (As := [.int i0, .int 33, .int 126]) (rest := []) ⟨hx, hb, hml, hown, hts⟩ (c_X7_isIn l dC dI cI cZ cK tS aK aV i0 33 126 s.heap.size) (va_cwS 3 hts (gw_s (fun _ h9 => List.mem_cons_of_mem _ h9) wm_0 wm_1 wm_2 wm_3) rfl rfl rfl (by decide +kernel) ⟨Nat.le_of_ble_eq_true rfl, Nat.le_of_ble_eq_true rfl⟩) (mx_preS hKx hP hD hS hA [] (by decide) rfl) rfl rfl hl.1 rfl (lv_room (Nat.le_of_ble_eq_true rfl)) dX7_say_5 ⟨Nat.le_of_ble_eq_true rfl, Nat.le_of_ble_eq_true rfl⟩) hP hD hS hA [] [0, 1, 2] rfl rfl (by decide) (by decide) (fun r1 u1 H locs hq1 hP hD hS => ?_)
  replace hP : va_P (dC, dI) vwCl [(h, .inr (7, [.ref k, .ref d, .ref j, .ref o, .ref f, .ref g, .ref wk, .ref im, .ref kt, .ref dl])), (d, .inr (4, [.ref ds, .int 0, .ref dk, .ref dw, .int 0, .int 0])), (ds, .inl (cI, 60, .inl (fun _ => 0)))] H := hP
  replace hD : va_D A [(h, .inr (7, [.ref k, .ref d, .ref j, .ref o, .ref f, .ref g, .ref wk, .ref im, .ref kt, .ref dl])), (d, .inr (4, [.ref ds, .int 0, .ref dk, .ref dw, .int 0, .int 0])), (ds, .inl (cI, 60, .inl (fun _ => 0)))] := hD
  rcases hq1 with ⟨rfl, hf1⟩ | ⟨rfl, hf1⟩
  · have hf1 : (33 : Int) ≤ i0.toInt ∧ i0.toInt ≤ (126 : Int) := hf1
    refine lv_if_ne (tgt := 14) hx hb dX7_say_8 (by decide) (fun c2 => ?_) (fun c2 => absurd c2 (by decide))
    refine lv_aload_n hx hb dX7_say_14 rfl (lv_at hl 0 rfl) ?_
    refine va_get (D := (dC, dI)) (ci := 7) (v := .ref d) (C := RX7) (T := TX7) (N := 10) hx hb hts hin7 hown hK hP 0 rfl rfl 1 (by decide) hw0 (fun _ h9 => h9) rfl dX7_say_15 ?_
    refine va_get (D := (dC, dI)) (ci := 4) (v := .int 0) (C := RX4) (T := TX4) (N := 6) hx hb hts hin4 hown hK hP 1 rfl rfl 1 (by decide) hw1 (fun _ h9 => h9) rfl dX7_say_18 ?_
    refine lv_bipush (v := 60) hx hb dX7_say_21 (by decide) ?_
    refine lv_icmp_lt (tgt := 29) hx hb dX7_say_23 (by decide) (fun c3 => ?_) (fun c3 => absurd c3 (by decide))
    refine lv_aload_n hx hb dX7_say_29 rfl (lv_at hl 0 rfl) ?_
    refine va_get (D := (dC, dI)) (ci := 7) (v := .ref d) (C := RX7) (T := TX7) (N := 10) hx hb hts hin7 hown hK hP 0 rfl rfl 1 (by decide) hw0 (fun _ h9 => h9) rfl dX7_say_30 ?_
    refine va_get (D := (dC, dI)) (ci := 4) (v := .ref ds) (C := RX4) (T := TX4) (N := 6) hx hb hts hin4 hown hK hP 1 rfl rfl 0 (by decide) hw2 (fun _ h9 => h9) rfl dX7_say_33 ?_
    refine lv_aload_n hx hb dX7_say_36 rfl (lv_at hl 0 rfl) ?_
    refine va_get (D := (dC, dI)) (ci := 7) (v := .ref d) (C := RX7) (T := TX7) (N := 10) hx hb hts hin7 hown hK hP 0 rfl rfl 1 (by decide) hw0 (fun _ h9 => h9) rfl dX7_say_37 ?_
    refine va_get (D := (dC, dI)) (ci := 4) (v := .int 0) (C := RX4) (T := TX4) (N := 6) hx hb hts hin4 hown hK hP 1 rfl rfl 1 (by decide) hw1 (fun _ h9 => h9) rfl dX7_say_40 ?_
    refine lv_iload_n hx hb dX7_say_43 rfl (lv_at hl 1 rfl) ?_
    refine va_iast hx hb hK hP hD hS 2 0 rfl rfl (vin (by decide) (by decide)) dX7_say_44 (fun H locs hP hD hS => ?_)
    replace hP : va_P (dC, dI) vwCl [(h, .inr (7, [.ref k, .ref d, .ref j, .ref o, .ref f, .ref g, .ref wk, .ref im, .ref kt, .ref dl])), (d, .inr (4, [.ref ds, .int 0, .ref dk, .ref dw, .int 0, .int 0])), (ds, .inl (cI, 60, .inl (upd (fun _ => 0) 0 i0)))] H := hP
    replace hD : va_D A [(h, .inr (7, [.ref k, .ref d, .ref j, .ref o, .ref f, .ref g, .ref wk, .ref im, .ref kt, .ref dl])), (d, .inr (4, [.ref ds, .int 0, .ref dk, .ref dw, .int 0, .int 0])), (ds, .inl (cI, 60, .inl (upd (fun _ => 0) 0 i0)))] := hD
    refine lv_aload_n hx hb dX7_say_45 rfl (lv_at hl 0 rfl) ?_
    refine va_get (D := (dC, dI)) (ci := 7) (v := .ref d) (C := RX7) (T := TX7) (N := 10) hx hb hts hin7 hown hK hP 0 rfl rfl 1 (by decide) hw0 (fun _ h9 => h9) rfl dX7_say_46 ?_
    refine lv_dup hx hb dX7_say_49 rfl ?_
    refine va_get (D := (dC, dI)) (ci := 4) (v := .int 0) (C := RX4) (T := TX4) (N := 6) hx hb hts hin4 hown hK hP 1 rfl rfl 1 (by decide) hw1 (fun _ h9 => h9) rfl dX7_say_50 ?_
    refine lv_iconst (v := 1) hx hb dX7_say_53 (by decide) ?_
    refine lv_iadd hx hb dX7_say_54 ?_
    refine lv_topi (fun x4 e4 => ?_)
    obtain rfl : x4 = 1 := e4.trans (by decide)
    refine va_put (D := (dC, dI)) (ci := 4) (v := .int 1) (ty := .int) (C := RX4) (T := TX4) (N := 6) hx hb hts hin4 tyX4 tyX4_ok nmX4 hown hK hP hD hS 1 rfl rfl 1 (by decide) hw1 (fun _ h9 => h9) rfl (by decide +kernel) rfl rfl (Nat.le_of_ble_eq_true rfl) dX7_say_55 (fun H locs hP hD hS => ?_)
    replace hP : va_P (dC, dI) vwCl [(h, .inr (7, [.ref k, .ref d, .ref j, .ref o, .ref f, .ref g, .ref wk, .ref im, .ref kt, .ref dl])), (d, .inr (4, [.ref ds, .int 1, .ref dk, .ref dw, .int 0, .int 0])), (ds, .inl (cI, 60, .inl (upd (fun _ => 0) 0 i0)))] H := hP
    replace hD : va_D A [(h, .inr (7, [.ref k, .ref d, .ref j, .ref o, .ref f, .ref g, .ref wk, .ref im, .ref kt, .ref dl])), (d, .inr (4, [.ref ds, .int 1, .ref dk, .ref dw, .int 0, .int 0])), (ds, .inl (cI, 60, .inl (upd (fun _ => 0) 0 i0)))] := hD
    refine lv_aload_n hx hb dX7_say_58 rfl (lv_at hl 0 rfl) ?_
    refine va_get (D := (dC, dI)) (ci := 7) (v := .ref d) (C := RX7) (T := TX7) (N := 10) hx hb hts hin7 hown hK hP 0 rfl rfl 1 (by decide) hw0 (fun _ h9 => h9) rfl dX7_say_59 ?_
    refine va_get (D := (dC, dI)) (ci := 4) (v := .int 1) (C := RX4) (T := TX4) (N := 6) hx hb hts hin4 hown hK hP 1 rfl rfl 1 (by decide) hw1 (fun _ h9 => h9) rfl dX7_say_62 ?_
    have hP9 := mx_subP (wc := []) hP [] rfl
    have hD9 := hD.sub (ws' := []) [] (by decide) rfl
    exact W.iret (v := 1) hx hb hr (fun t ht hW => ⟨⟨1, (), rfl, (by first | exact Or.inl (⟨rfl, by omega⟩) | exact Or.inr (⟨rfl, by omega⟩)), by rw [ht]; exact hP9, hD9⟩, hS.F ht⟩) hS.2.2 dX7_say_65
  · have hf1 : i0.toInt < (33 : Int) ∨ (126 : Int) < i0.toInt := hf1
    refine lv_if_ne (tgt := 14) hx hb dX7_say_8 (by decide) (fun c5 => absurd c5 (by decide)) (fun c5 => ?_)
    refine lv_bipush (v := (-2)) hx hb dX7_say_11 (by decide) ?_
    have hP9 := mx_subP (wc := []) hP [] rfl
    have hD9 := hD.sub (ws' := []) [] (by decide) rfl
    exact W.iret (v := (-2)) hx hb hr (fun t ht hW => ⟨⟨(-2), (), rfl, (by first | exact Or.inl (⟨rfl, by omega⟩) | exact Or.inr (⟨rfl, by omega⟩)), by rw [ht]; exact hP9, hD9⟩, hS.F ht⟩) hS.2.2 dX7_say_13
set_option maxHeartbeats 4000000 in
set_option maxRecDepth 100000 in
theorem c_X7_seen (l : Launch) (dC : Nat → ClassId) (dI : Nat → Nat → Nat) (cI cZ cK : ClassId) (tS aK aV : Nat) (h : Nat) (o : Nat) (f : Nat) (g : Nat) (wk : Nat) (im : Nat) (kt : Nat) (dl : Nat) (j : Nat) (k : Nat) (ks : Nat) (kw : Nat) (kc : Nat) (kq : Nat) (km : Nat) (kd : Nat) (ka : Nat) (kk : Nat) (d : Nat) (i0 : Int32) (i1 : Int32) (sz : Nat) : Ci l yX7_seen (wq yX7_seen cX7_seen 3 (some .int)) ({ frames := 1, cells := 0, slots := 0, locals := 22 }) dC dI cI cZ cK tS aK aV [.ref h, .int i0, .int i1] sz [(h, .inr (7, [.ref k, .ref d, .ref j, .ref o, .ref f, .ref g, .ref wk, .ref im, .ref kt, .ref dl])), (k, .inr (0, [.ref ks, .ref kw, .ref kc, .int (-6), .int 0, .int 0, .ref kq, .ref km, .ref kd, .int 0, .ref ka, .ref kk])), (ka, .inl (cI, 8, .inl (fun _ => 0))), (kk, .inl (cI, 8, .inl (fun _ => 0)))] (fun (r : Int32) (_ : Unit) => (r = 1 ∧ (0 ≤ i0.toInt ∧ i0.toInt ≤ 60 ∧ 0 ≤ i1.toInt ∧ i1.toInt ≤ 20)) ∨ (r = (-2) ∧ (i0.toInt < 0 ∨ 60 < i0.toInt ∨ i1.toInt < 0 ∨ 20 < i1.toInt))) (fun _ => []) := by
  refine Met.ofW (cc := cX7_seen) (maxL := 3) (ret := (some .int)) (by decide) rfl ?_
  intro p e s m args below meth c s₁ B hml hv
  obtain ⟨rfl, hsz, hP, hKx, hD0⟩ := hv
  have hx := B.exec
  have hb := B.bytes
  have hr := B.returns
  have hts := atoms_spec (ws := wq yX7_seen cX7_seen 3 (some .int)) B.pre
  have hown : s.vm.findClass RX7 = some m.cls := findClass_of_methodNamed B.named
  have hlocks := B.notSynchronized
  subst hsz
  have hD := hD0.self (sz := s.heap.size)
  generalize hAe : va_A [(h, .inr (7, [.ref k, .ref d, .ref j, .ref o, .ref f, .ref g, .ref wk, .ref im, .ref kt, .ref dl])), (k, .inr (0, [.ref ks, .ref kw, .ref kc, .int (-6), .int 0, .int 0, .ref kq, .ref km, .ref kd, .int 0, .ref ka, .ref kk])), (ka, .inl (cI, 8, .inl (fun _ => 0))), (kk, .inl (cI, 8, .inl (fun _ => 0)))] s.heap.size = A at hD hKx ⊢
  have hA : ∀ q : Nat, s.heap.size ≤ q → A q := fun q h => by rw [← hAe]; exact Or.inr h
  have hS : va_S A s.heap s.heap [] := va_S.rf
  have hP : va_P (dC, dI) vwCl [(h, .inr (7, [.ref k, .ref d, .ref j, .ref o, .ref f, .ref g, .ref wk, .ref im, .ref kt, .ref dl])), (k, .inr (0, [.ref ks, .ref kw, .ref kc, .int (-6), .int 0, .int 0, .ref kq, .ref km, .ref kd, .int 0, .ref ka, .ref kk])), (ka, .inl (cI, 8, .inl (fun _ => 0))), (kk, .inl (cI, 8, .inl (fun _ => 0)))] s.heap := hP
  have hl := lv_entry ([.ref h, .int i0, .int i1]) (n := 3) (Nat.le_of_ble_eq_true rfl)
  rw [lg_entry_eq]
  generalize (lg_sl ([.ref h, .int i0, .int i1]) ++ List.replicate (3 - (lg_sl ([.ref h, .int i0, .int i1])).length) Slot.unset).toArray = ls at hl ⊢
  have hl : lv_has ls 3 [(0, .ref h), (1, .int i0), (2, .int i1)] := hl
  have hK := hKx.1
  have hin7 := fun w9 h9 => List.mem_cons_of_mem (Cond.code yX7_seen cX7_seen 3 (some .int)) (inlX7 w9 h9)
  have hin0 := fun w9 h9 => List.mem_cons_of_mem (Cond.code yX7_seen cX7_seen 3 (some .int)) (inlX0 w9 h9)
  have hw0 := hts (.fieldLink RX7 12 "OneCan" "camp" "LOneCan$Camp;") (List.mem_cons_of_mem _ wm_69)
  have hw1 := hts (.fieldLink RX7 206 "OneCan$Camp" "sights" "I") (List.mem_cons_of_mem _ wm_71)
  have hw2 := hts (.fieldLink RX7 209 "OneCan$Camp" "sightActs" "[I") (List.mem_cons_of_mem _ wm_102)
  have hw3 := hts (.fieldLink RX7 212 "OneCan$Camp" "sightMarks" "[I") (List.mem_cons_of_mem _ wm_103)
  refine lv_iload_n hx hb dX7_seen_0 rfl (lv_at hl 1 rfl) ?_
  refine lv_iconst (v := 0) hx hb dX7_seen_1 (by decide) ?_
  refine lv_bipush (v := 60) hx hb dX7_seen_2 (by decide) ?_
  refine mx_i (wr := [(h, .inr (7, [.ref k, .ref d, .ref j, .ref o, .ref f, .ref g, .ref wk, .ref im, .ref kt, .ref dl])), (k, .inr (0, [.ref ks, .ref kw, .ref kc, .int (-6), .int 0, .int 0, .ref kq, .ref km, .ref kd, .int 0, .ref ka, .ref kk])), (ka, .inl (cI, 8, .inl (fun _ => 0))), (kk, .inl (cI, 8, .inl (fun _ => 0)))]) (va_runS (As := [.int i0, .int 0, .int 60]) (rest := []) ⟨hx, hb, hml, hown, hts⟩ (c_X7_isIn l dC dI cI cZ cK tS aK aV i0 0 60 s.heap.size) (va_cwS 3 hts (gw_s (fun _ h9 => List.mem_cons_of_mem _ h9) wm_0 wm_1 wm_2 wm_3) rfl rfl rfl (by decide +kernel) ⟨Nat.le_of_ble_eq_true rfl, Nat.le_of_ble_eq_true rfl⟩) (mx_preS hKx hP hD hS hA [] (by decide) rfl) rfl rfl hl.1 rfl (lv_room (Nat.le_of_ble_eq_true rfl)) dX7_seen_4 ⟨Nat.le_of_ble_eq_true rfl, Nat.le_of_ble_eq_true rfl⟩) hP hD hS hA [] [0, 1, 2, 3] rfl rfl (by decide) (by decide) (fun r1 u1 H locs hq1 hP hD hS => ?_)
  replace hP : va_P (dC, dI) vwCl [(h, .inr (7, [.ref k, .ref d, .ref j, .ref o, .ref f, .ref g, .ref wk, .ref im, .ref kt, .ref dl])), (k, .inr (0, [.ref ks, .ref kw, .ref kc, .int (-6), .int 0, .int 0, .ref kq, .ref km, .ref kd, .int 0, .ref ka, .ref kk])), (ka, .inl (cI, 8, .inl (fun _ => 0))), (kk, .inl (cI, 8, .inl (fun _ => 0)))] H := hP
  replace hD : va_D A [(h, .inr (7, [.ref k, .ref d, .ref j, .ref o, .ref f, .ref g, .ref wk, .ref im, .ref kt, .ref dl])), (k, .inr (0, [.ref ks, .ref kw, .ref kc, .int (-6), .int 0, .int 0, .ref kq, .ref km, .ref kd, .int 0, .ref ka, .ref kk])), (ka, .inl (cI, 8, .inl (fun _ => 0))), (kk, .inl (cI, 8, .inl (fun _ => 0)))] := hD
  rcases hq1 with ⟨rfl, hf1⟩ | ⟨rfl, hf1⟩
  · have hf1 : (0 : Int) ≤ i0.toInt ∧ i0.toInt ≤ (60 : Int) := hf1
    refine lv_if_eq (tgt := 20) hx hb dX7_seen_7 (by decide) (fun c2 => absurd c2 (by decide)) (fun c2 => ?_)
    refine lv_iload_n hx hb dX7_seen_10 rfl (lv_at hl 2 rfl) ?_
    refine lv_iconst (v := 0) hx hb dX7_seen_11 (by decide) ?_
    refine lv_bipush (v := 20) hx hb dX7_seen_12 (by decide) ?_
    refine mx_i (wr := [(h, .inr (7, [.ref k, .ref d, .ref j, .ref o, .ref f, .ref g, .ref wk, .ref im, .ref kt, .ref dl])), (k, .inr (0, [.ref ks, .ref kw, .ref kc, .int (-6), .int 0, .int 0, .ref kq, .ref km, .ref kd, .int 0, .ref ka, .ref kk])), (ka, .inl (cI, 8, .inl (fun _ => 0))), (kk, .inl (cI, 8, .inl (fun _ => 0)))]) (va_runS (As := [.int i1, .int 0, .int 20]) (rest := []) ⟨hx, hb, hml, hown, hts⟩ (c_X7_isIn l dC dI cI cZ cK tS aK aV i1 0 20 H.size) (va_cwS 3 hts (gw_s (fun _ h9 => List.mem_cons_of_mem _ h9) wm_0 wm_1 wm_2 wm_3) rfl rfl rfl (by decide +kernel) ⟨Nat.le_of_ble_eq_true rfl, Nat.le_of_ble_eq_true rfl⟩) (mx_preS hKx hP hD hS hA [] (by decide) rfl) rfl rfl hl.1 rfl (lv_room (Nat.le_of_ble_eq_true rfl)) dX7_seen_14 ⟨Nat.le_of_ble_eq_true rfl, Nat.le_of_ble_eq_true rfl⟩) hP hD hS hA [] [0, 1, 2, 3] rfl rfl (by decide) (by decide) (fun r3 u3 H locs hq3 hP hD hS => ?_)
    replace hP : va_P (dC, dI) vwCl [(h, .inr (7, [.ref k, .ref d, .ref j, .ref o, .ref f, .ref g, .ref wk, .ref im, .ref kt, .ref dl])), (k, .inr (0, [.ref ks, .ref kw, .ref kc, .int (-6), .int 0, .int 0, .ref kq, .ref km, .ref kd, .int 0, .ref ka, .ref kk])), (ka, .inl (cI, 8, .inl (fun _ => 0))), (kk, .inl (cI, 8, .inl (fun _ => 0)))] H := hP
    replace hD : va_D A [(h, .inr (7, [.ref k, .ref d, .ref j, .ref o, .ref f, .ref g, .ref wk, .ref im, .ref kt, .ref dl])), (k, .inr (0, [.ref ks, .ref kw, .ref kc, .int (-6), .int 0, .int 0, .ref kq, .ref km, .ref kd, .int 0, .ref ka, .ref kk])), (ka, .inl (cI, 8, .inl (fun _ => 0))), (kk, .inl (cI, 8, .inl (fun _ => 0)))] := hD
    rcases hq3 with ⟨rfl, hf3⟩ | ⟨rfl, hf3⟩
    · have hf3 : (0 : Int) ≤ i1.toInt ∧ i1.toInt ≤ (20 : Int) := hf3
      refine lv_if_ne (tgt := 23) hx hb dX7_seen_17 (by decide) (fun c4 => ?_) (fun c4 => absurd c4 (by decide))
      refine lv_aload_n hx hb dX7_seen_23 rfl (lv_at hl 0 rfl) ?_
      refine va_get (D := (dC, dI)) (ci := 7) (v := .ref k) (C := RX7) (T := TX7) (N := 10) hx hb hts hin7 hown hK hP 0 rfl rfl 0 (by decide) hw0 (fun _ h9 => h9) rfl dX7_seen_24 ?_
      refine va_get (D := (dC, dI)) (ci := 0) (v := .int 0) (C := RX0) (T := TX0) (N := 12) hx hb hts hin0 hown hK hP 1 rfl rfl 9 (by decide) hw1 (fun _ h9 => h9) rfl dX7_seen_27 ?_
      refine lv_bipush (v := 8) hx hb dX7_seen_30 (by decide) ?_
      refine lv_icmp_lt (tgt := 38) hx hb dX7_seen_32 (by decide) (fun c5 => ?_) (fun c5 => absurd c5 (by decide))
      refine lv_aload_n hx hb dX7_seen_38 rfl (lv_at hl 0 rfl) ?_
      refine va_get (D := (dC, dI)) (ci := 7) (v := .ref k) (C := RX7) (T := TX7) (N := 10) hx hb hts hin7 hown hK hP 0 rfl rfl 0 (by decide) hw0 (fun _ h9 => h9) rfl dX7_seen_39 ?_
      refine va_get (D := (dC, dI)) (ci := 0) (v := .ref ka) (C := RX0) (T := TX0) (N := 12) hx hb hts hin0 hown hK hP 1 rfl rfl 10 (by decide) hw2 (fun _ h9 => h9) rfl dX7_seen_42 ?_
      refine lv_aload_n hx hb dX7_seen_45 rfl (lv_at hl 0 rfl) ?_
      refine va_get (D := (dC, dI)) (ci := 7) (v := .ref k) (C := RX7) (T := TX7) (N := 10) hx hb hts hin7 hown hK hP 0 rfl rfl 0 (by decide) hw0 (fun _ h9 => h9) rfl dX7_seen_46 ?_
      refine va_get (D := (dC, dI)) (ci := 0) (v := .int 0) (C := RX0) (T := TX0) (N := 12) hx hb hts hin0 hown hK hP 1 rfl rfl 9 (by decide) hw1 (fun _ h9 => h9) rfl dX7_seen_49 ?_
      refine lv_iload_n hx hb dX7_seen_52 rfl (lv_at hl 1 rfl) ?_
      refine va_iast hx hb hK hP hD hS 2 0 rfl rfl (vin (by decide) (by decide)) dX7_seen_53 (fun H locs hP hD hS => ?_)
      replace hP : va_P (dC, dI) vwCl [(h, .inr (7, [.ref k, .ref d, .ref j, .ref o, .ref f, .ref g, .ref wk, .ref im, .ref kt, .ref dl])), (k, .inr (0, [.ref ks, .ref kw, .ref kc, .int (-6), .int 0, .int 0, .ref kq, .ref km, .ref kd, .int 0, .ref ka, .ref kk])), (ka, .inl (cI, 8, .inl (upd (fun _ => 0) 0 i0))), (kk, .inl (cI, 8, .inl (fun _ => 0)))] H := hP
      replace hD : va_D A [(h, .inr (7, [.ref k, .ref d, .ref j, .ref o, .ref f, .ref g, .ref wk, .ref im, .ref kt, .ref dl])), (k, .inr (0, [.ref ks, .ref kw, .ref kc, .int (-6), .int 0, .int 0, .ref kq, .ref km, .ref kd, .int 0, .ref ka, .ref kk])), (ka, .inl (cI, 8, .inl (upd (fun _ => 0) 0 i0))), (kk, .inl (cI, 8, .inl (fun _ => 0)))] := hD
      refine lv_aload_n hx hb dX7_seen_54 rfl (lv_at hl 0 rfl) ?_
      refine va_get (D := (dC, dI)) (ci := 7) (v := .ref k) (C := RX7) (T := TX7) (N := 10) hx hb hts hin7 hown hK hP 0 rfl rfl 0 (by decide) hw0 (fun _ h9 => h9) rfl dX7_seen_55 ?_
      refine va_get (D := (dC, dI)) (ci := 0) (v := .ref kk) (C := RX0) (T := TX0) (N := 12) hx hb hts hin0 hown hK hP 1 rfl rfl 11 (by decide) hw3 (fun _ h9 => h9) rfl dX7_seen_58 ?_
      refine lv_aload_n hx hb dX7_seen_61 rfl (lv_at hl 0 rfl) ?_
      refine va_get (D := (dC, dI)) (ci := 7) (v := .ref k) (C := RX7) (T := TX7) (N := 10) hx hb hts hin7 hown hK hP 0 rfl rfl 0 (by decide) hw0 (fun _ h9 => h9) rfl dX7_seen_62 ?_
      refine va_get (D := (dC, dI)) (ci := 0) (v := .int 0) (C := RX0) (T := TX0) (N := 12) hx hb hts hin0 hown hK hP 1 rfl rfl 9 (by decide) hw1 (fun _ h9 => h9) rfl dX7_seen_65 ?_
      refine lv_iload_n hx hb dX7_seen_68 rfl (lv_at hl 2 rfl) ?_
      refine va_iast hx hb hK hP hD hS 3 0 rfl rfl (vin (by decide) (by decide)) dX7_seen_69 (fun H locs hP hD hS => ?_)
      replace hP : va_P (dC, dI) vwCl [(h, .inr (7, [.ref k, .ref d, .ref j, .ref o, .ref f, .ref g, .ref wk, .ref im, .ref kt, .ref dl])), (k, .inr (0, [.ref ks, .ref kw, .ref kc, .int (-6), .int 0, .int 0, .ref kq, .ref km, .ref kd, .int 0, .ref ka, .ref kk])), (ka, .inl (cI, 8, .inl (upd (fun _ => 0) 0 i0))), (kk, .inl (cI, 8, .inl (upd (fun _ => 0) 0 i1)))] H := hP
      replace hD : va_D A [(h, .inr (7, [.ref k, .ref d, .ref j, .ref o, .ref f, .ref g, .ref wk, .ref im, .ref kt, .ref dl])), (k, .inr (0, [.ref ks, .ref kw, .ref kc, .int (-6), .int 0, .int 0, .ref kq, .ref km, .ref kd, .int 0, .ref ka, .ref kk])), (ka, .inl (cI, 8, .inl (upd (fun _ => 0) 0 i0))), (kk, .inl (cI, 8, .inl (upd (fun _ => 0) 0 i1)))] := hD
      refine lv_aload_n hx hb dX7_seen_70 rfl (lv_at hl 0 rfl) ?_
      refine va_get (D := (dC, dI)) (ci := 7) (v := .ref k) (C := RX7) (T := TX7) (N := 10) hx hb hts hin7 hown hK hP 0 rfl rfl 0 (by decide) hw0 (fun _ h9 => h9) rfl dX7_seen_71 ?_
      refine lv_dup hx hb dX7_seen_74 rfl ?_
      refine va_get (D := (dC, dI)) (ci := 0) (v := .int 0) (C := RX0) (T := TX0) (N := 12) hx hb hts hin0 hown hK hP 1 rfl rfl 9 (by decide) hw1 (fun _ h9 => h9) rfl dX7_seen_75 ?_
      refine lv_iconst (v := 1) hx hb dX7_seen_78 (by decide) ?_
      refine lv_iadd hx hb dX7_seen_79 ?_
      refine lv_topi (fun x6 e6 => ?_)
      obtain rfl : x6 = 1 := e6.trans (by decide)
      refine va_put (D := (dC, dI)) (ci := 0) (v := .int 1) (ty := .int) (C := RX0) (T := TX0) (N := 12) hx hb hts hin0 tyX0 tyX0_ok nmX0 hown hK hP hD hS 1 rfl rfl 9 (by decide) hw1 (fun _ h9 => h9) rfl (by decide +kernel) rfl rfl (Nat.le_of_ble_eq_true rfl) dX7_seen_80 (fun H locs hP hD hS => ?_)
      replace hP : va_P (dC, dI) vwCl [(h, .inr (7, [.ref k, .ref d, .ref j, .ref o, .ref f, .ref g, .ref wk, .ref im, .ref kt, .ref dl])), (k, .inr (0, [.ref ks, .ref kw, .ref kc, .int (-6), .int 0, .int 0, .ref kq, .ref km, .ref kd, .int 1, .ref ka, .ref kk])), (ka, .inl (cI, 8, .inl (upd (fun _ => 0) 0 i0))), (kk, .inl (cI, 8, .inl (upd (fun _ => 0) 0 i1)))] H := hP
      replace hD : va_D A [(h, .inr (7, [.ref k, .ref d, .ref j, .ref o, .ref f, .ref g, .ref wk, .ref im, .ref kt, .ref dl])), (k, .inr (0, [.ref ks, .ref kw, .ref kc, .int (-6), .int 0, .int 0, .ref kq, .ref km, .ref kd, .int 1, .ref ka, .ref kk])), (ka, .inl (cI, 8, .inl (upd (fun _ => 0) 0 i0))), (kk, .inl (cI, 8, .inl (upd (fun _ => 0) 0 i1)))] := hD
      refine lv_aload_n hx hb dX7_seen_83 rfl (lv_at hl 0 rfl) ?_
      refine va_get (D := (dC, dI)) (ci := 7) (v := .ref k) (C := RX7) (T := TX7) (N := 10) hx hb hts hin7 hown hK hP 0 rfl rfl 0 (by decide) hw0 (fun _ h9 => h9) rfl dX7_seen_84 ?_
      refine va_get (D := (dC, dI)) (ci := 0) (v := .int 1) (C := RX0) (T := TX0) (N := 12) hx hb hts hin0 hown hK hP 1 rfl rfl 9 (by decide) hw1 (fun _ h9 => h9) rfl dX7_seen_87 ?_
      have hP9 := mx_subP (wc := []) hP [] rfl
      have hD9 := hD.sub (ws' := []) [] (by decide) rfl
      exact W.iret (v := 1) hx hb hr (fun t ht hW => ⟨⟨1, (), rfl, (by first | exact Or.inl (⟨rfl, by omega⟩) | exact Or.inr (⟨rfl, by omega⟩)), by rw [ht]; exact hP9, hD9⟩, hS.F ht⟩) hS.2.2 dX7_seen_90
    · have hf3 : i1.toInt < (0 : Int) ∨ (20 : Int) < i1.toInt := hf3
      refine lv_if_ne (tgt := 23) hx hb dX7_seen_17 (by decide) (fun c7 => absurd c7 (by decide)) (fun c7 => ?_)
      refine lv_bipush (v := (-2)) hx hb dX7_seen_20 (by decide) ?_
      have hP9 := mx_subP (wc := []) hP [] rfl
      have hD9 := hD.sub (ws' := []) [] (by decide) rfl
      exact W.iret (v := (-2)) hx hb hr (fun t ht hW => ⟨⟨(-2), (), rfl, (by first | exact Or.inl (⟨rfl, by omega⟩) | exact Or.inr (⟨rfl, by omega⟩)), by rw [ht]; exact hP9, hD9⟩, hS.F ht⟩) hS.2.2 dX7_seen_22
  · have hf1 : i0.toInt < (0 : Int) ∨ (60 : Int) < i0.toInt := hf1
    refine lv_if_eq (tgt := 20) hx hb dX7_seen_7 (by decide) (fun c8 => ?_) (fun c8 => absurd c8 (by decide))
    refine lv_bipush (v := (-2)) hx hb dX7_seen_20 (by decide) ?_
    have hP9 := mx_subP (wc := []) hP [] rfl
    have hD9 := hD.sub (ws' := []) [] (by decide) rfl
    exact W.iret (v := (-2)) hx hb hr (fun t ht hW => ⟨⟨(-2), (), rfl, (by first | exact Or.inl (⟨rfl, by omega⟩) | exact Or.inr (⟨rfl, by omega⟩)), by rw [ht]; exact hP9, hD9⟩, hS.F ht⟩) hS.2.2 dX7_seen_22
set_option maxHeartbeats 4000000 in
set_option maxRecDepth 100000 in
theorem c_X7_day (l : Launch) (dC : Nat → ClassId) (dI : Nat → Nat → Nat) (cI cZ cK : ClassId) (tS aK aV : Nat) (h : Nat) (o : Nat) (f : Nat) (g : Nat) (wk : Nat) (im : Nat) (kt : Nat) (dl : Nat) (j : Nat) (k : Nat) (ks : Nat) (kw : Nat) (kc : Nat) (kq : Nat) (km : Nat) (kd : Nat) (ka : Nat) (kk : Nat) (d : Nat) (i0 : Int32) (i1 : Int32) (i2 : Int32) (sz : Nat) : Ci l yX7_day (wq yX7_day cX7_day 5 (some .int)) ({ frames := 2, cells := 0, slots := 0, locals := 42 }) dC dI cI cZ cK tS aK aV [.ref h, .int i0, .int i1, .int i2] sz [(h, .inr (7, [.ref k, .ref d, .ref j, .ref o, .ref f, .ref g, .ref wk, .ref im, .ref kt, .ref dl])), (k, .inr (0, [.ref ks, .ref kw, .ref kc, .int (-6), .int 0, .int 0, .ref kq, .ref km, .ref kd, .int 0, .ref ka, .ref kk])), (kw, .inl (cI, 14, .inl (fun _ => 0))), (kc, .inl (cZ, 14, .inl (fun _ => 0)))] (fun (r : Int32) (_ : Unit) => (r = 0 ∧ (0 ≤ i0.toInt ∧ i0.toInt ≤ 13 ∧ 0 ≤ i1.toInt ∧ i1.toInt ≤ 4)) ∨ (r = (-1) ∧ (i0.toInt < 0 ∨ 13 < i0.toInt)) ∨ (r = (-2) ∧ (0 ≤ i0.toInt ∧ i0.toInt ≤ 13 ∧ (i1.toInt < 0 ∨ 4 < i1.toInt)))) (fun _ => []) := by
  refine Met.ofW (cc := cX7_day) (maxL := 5) (ret := (some .int)) (by decide) rfl ?_
  intro p e s m args below meth c s₁ B hml hv
  obtain ⟨rfl, hsz, hP, hKx, hD0⟩ := hv
  have hx := B.exec
  have hb := B.bytes
  have hr := B.returns
  have hts := atoms_spec (ws := wq yX7_day cX7_day 5 (some .int)) B.pre
  have hown : s.vm.findClass RX7 = some m.cls := findClass_of_methodNamed B.named
  have hlocks := B.notSynchronized
  subst hsz
  have hD := hD0.self (sz := s.heap.size)
  generalize hAe : va_A [(h, .inr (7, [.ref k, .ref d, .ref j, .ref o, .ref f, .ref g, .ref wk, .ref im, .ref kt, .ref dl])), (k, .inr (0, [.ref ks, .ref kw, .ref kc, .int (-6), .int 0, .int 0, .ref kq, .ref km, .ref kd, .int 0, .ref ka, .ref kk])), (kw, .inl (cI, 14, .inl (fun _ => 0))), (kc, .inl (cZ, 14, .inl (fun _ => 0)))] s.heap.size = A at hD hKx ⊢
  have hA : ∀ q : Nat, s.heap.size ≤ q → A q := fun q h => by rw [← hAe]; exact Or.inr h
  have hS : va_S A s.heap s.heap [] := va_S.rf
  have hP : va_P (dC, dI) vwCl [(h, .inr (7, [.ref k, .ref d, .ref j, .ref o, .ref f, .ref g, .ref wk, .ref im, .ref kt, .ref dl])), (k, .inr (0, [.ref ks, .ref kw, .ref kc, .int (-6), .int 0, .int 0, .ref kq, .ref km, .ref kd, .int 0, .ref ka, .ref kk])), (kw, .inl (cI, 14, .inl (fun _ => 0))), (kc, .inl (cZ, 14, .inl (fun _ => 0)))] s.heap := hP
  have hl := lv_entry ([.ref h, .int i0, .int i1, .int i2]) (n := 5) (Nat.le_of_ble_eq_true rfl)
  rw [lg_entry_eq]
  generalize (lg_sl ([.ref h, .int i0, .int i1, .int i2]) ++ List.replicate (5 - (lg_sl ([.ref h, .int i0, .int i1, .int i2])).length) Slot.unset).toArray = ls at hl ⊢
  have hl : lv_has ls 5 [(0, .ref h), (1, .int i0), (2, .int i1), (3, .int i2)] := hl
  have hK := hKx.1
  have hin7 := fun w9 h9 => List.mem_cons_of_mem (Cond.code yX7_day cX7_day 5 (some .int)) (inlX7 w9 h9)
  have hin0 := fun w9 h9 => List.mem_cons_of_mem (Cond.code yX7_day cX7_day 5 (some .int)) (inlX0 w9 h9)
  have hw0 := hts (.fieldLink RX7 12 "OneCan" "camp" "LOneCan$Camp;") (List.mem_cons_of_mem _ wm_69)
  have hw1 := hts (.fieldLink RX7 90 "OneCan$Camp" "winds" "[I") (List.mem_cons_of_mem _ wm_104)
  have hw2 := hts (.fieldLink RX7 93 "OneCan$Camp" "colds" "[Z") (List.mem_cons_of_mem _ wm_105)
  refine lv_iload_n hx hb dX7_day_0 rfl (lv_at hl 1 rfl) ?_
  refine mx_i (wr := [(h, .inr (7, [.ref k, .ref d, .ref j, .ref o, .ref f, .ref g, .ref wk, .ref im, .ref kt, .ref dl])), (k, .inr (0, [.ref ks, .ref kw, .ref kc, .int (-6), .int 0, .int 0, .ref kq, .ref km, .ref kd, .int 0, .ref ka, .ref kk])), (kw, .inl (cI, 14, .inl (fun _ => 0))), (kc, .inl (cZ, 14, .inl (fun _ => 0)))]) (va_runS (As := [.int i0]) (rest := []) ⟨hx, hb, hml, hown, hts⟩ (c_X7_isDay l dC dI cI cZ cK tS aK aV i0 s.heap.size) (va_cwS 1 hts (gw_s (fun _ h9 => List.mem_cons_of_mem _ h9) wm_86 wm_87 wm_2 wm_88) rfl rfl rfl (by decide +kernel) ⟨Nat.le_of_ble_eq_true rfl, Nat.le_of_ble_eq_true rfl⟩) (mx_preS hKx hP hD hS hA [] (by decide) rfl) rfl rfl hl.1 rfl (lv_room (Nat.le_of_ble_eq_true rfl)) dX7_day_1 ⟨Nat.le_of_ble_eq_true rfl, Nat.le_of_ble_eq_true rfl⟩) hP hD hS hA [] [0, 1, 2, 3] rfl rfl (by decide) (by decide) (fun r1 u1 H locs hq1 hP hD hS => ?_)
  replace hP : va_P (dC, dI) vwCl [(h, .inr (7, [.ref k, .ref d, .ref j, .ref o, .ref f, .ref g, .ref wk, .ref im, .ref kt, .ref dl])), (k, .inr (0, [.ref ks, .ref kw, .ref kc, .int (-6), .int 0, .int 0, .ref kq, .ref km, .ref kd, .int 0, .ref ka, .ref kk])), (kw, .inl (cI, 14, .inl (fun _ => 0))), (kc, .inl (cZ, 14, .inl (fun _ => 0)))] H := hP
  replace hD : va_D A [(h, .inr (7, [.ref k, .ref d, .ref j, .ref o, .ref f, .ref g, .ref wk, .ref im, .ref kt, .ref dl])), (k, .inr (0, [.ref ks, .ref kw, .ref kc, .int (-6), .int 0, .int 0, .ref kq, .ref km, .ref kd, .int 0, .ref ka, .ref kk])), (kw, .inl (cI, 14, .inl (fun _ => 0))), (kc, .inl (cZ, 14, .inl (fun _ => 0)))] := hD
  rcases hq1 with ⟨rfl, hf1⟩ | ⟨rfl, hf1⟩
  · have hf1 : 0 ≤ i0.toInt ∧ i0.toInt ≤ 13 := hf1
    refine lv_if_ne (tgt := 9) hx hb dX7_day_4 (by decide) (fun c2 => ?_) (fun c2 => absurd c2 (by decide))
    refine lv_iload_n hx hb dX7_day_9 rfl (lv_at hl 2 rfl) ?_
    refine lv_iconst (v := 0) hx hb dX7_day_10 (by decide) ?_
    refine lv_iconst (v := 4) hx hb dX7_day_11 (by decide) ?_
    refine mx_i (wr := [(h, .inr (7, [.ref k, .ref d, .ref j, .ref o, .ref f, .ref g, .ref wk, .ref im, .ref kt, .ref dl])), (k, .inr (0, [.ref ks, .ref kw, .ref kc, .int (-6), .int 0, .int 0, .ref kq, .ref km, .ref kd, .int 0, .ref ka, .ref kk])), (kw, .inl (cI, 14, .inl (fun _ => 0))), (kc, .inl (cZ, 14, .inl (fun _ => 0)))]) (va_runS (As := [.int i1, .int 0, .int 4]) (rest := []) ⟨hx, hb, hml, hown, hts⟩ (c_X7_isIn l dC dI cI cZ cK tS aK aV i1 0 4 H.size) (va_cwS 3 hts (gw_s (fun _ h9 => List.mem_cons_of_mem _ h9) wm_0 wm_1 wm_2 wm_3) rfl rfl rfl (by decide +kernel) ⟨Nat.le_of_ble_eq_true rfl, Nat.le_of_ble_eq_true rfl⟩) (mx_preS hKx hP hD hS hA [] (by decide) rfl) rfl rfl hl.1 rfl (lv_room (Nat.le_of_ble_eq_true rfl)) dX7_day_12 ⟨Nat.le_of_ble_eq_true rfl, Nat.le_of_ble_eq_true rfl⟩) hP hD hS hA [] [0, 1, 2, 3] rfl rfl (by decide) (by decide) (fun r3 u3 H locs hq3 hP hD hS => ?_)
    replace hP : va_P (dC, dI) vwCl [(h, .inr (7, [.ref k, .ref d, .ref j, .ref o, .ref f, .ref g, .ref wk, .ref im, .ref kt, .ref dl])), (k, .inr (0, [.ref ks, .ref kw, .ref kc, .int (-6), .int 0, .int 0, .ref kq, .ref km, .ref kd, .int 0, .ref ka, .ref kk])), (kw, .inl (cI, 14, .inl (fun _ => 0))), (kc, .inl (cZ, 14, .inl (fun _ => 0)))] H := hP
    replace hD : va_D A [(h, .inr (7, [.ref k, .ref d, .ref j, .ref o, .ref f, .ref g, .ref wk, .ref im, .ref kt, .ref dl])), (k, .inr (0, [.ref ks, .ref kw, .ref kc, .int (-6), .int 0, .int 0, .ref kq, .ref km, .ref kd, .int 0, .ref ka, .ref kk])), (kw, .inl (cI, 14, .inl (fun _ => 0))), (kc, .inl (cZ, 14, .inl (fun _ => 0)))] := hD
    rcases hq3 with ⟨rfl, hf3⟩ | ⟨rfl, hf3⟩
    · have hf3 : (0 : Int) ≤ i1.toInt ∧ i1.toInt ≤ (4 : Int) := hf3
      refine lv_if_ne (tgt := 21) hx hb dX7_day_15 (by decide) (fun c4 => ?_) (fun c4 => absurd c4 (by decide))
      refine lv_aload_n hx hb dX7_day_21 rfl (lv_at hl 0 rfl) ?_
      refine va_get (D := (dC, dI)) (ci := 7) (v := .ref k) (C := RX7) (T := TX7) (N := 10) hx hb hts hin7 hown hK hP 0 rfl rfl 0 (by decide) hw0 (fun _ h9 => h9) rfl dX7_day_22 ?_
      refine va_get (D := (dC, dI)) (ci := 0) (v := .ref kw) (C := RX0) (T := TX0) (N := 12) hx hb hts hin0 hown hK hP 1 rfl rfl 1 (by decide) hw1 (fun _ h9 => h9) rfl dX7_day_25 ?_
      refine lv_iload_n hx hb dX7_day_28 rfl (lv_at hl 1 rfl) ?_
      refine va_iald hx hb hK hP 2 0 rfl rfl (vin (by omega) (by omega)) dX7_day_29 ?_
      refine lv_topi (fun x5 e5 => ?_)
      obtain rfl : x5 = 0 := e5.trans rfl
      refine lv_istore (lv' := [(4, .int 0), (0, .ref h), (1, .int i0), (2, .int i1), (3, .int i2)]) hx hb dX7_day_30 hl (by decide) rfl (fun ls hl => ?_)
      refine lv_aload_n hx hb dX7_day_32 rfl (lv_at hl 1 rfl) ?_
      refine va_get (D := (dC, dI)) (ci := 7) (v := .ref k) (C := RX7) (T := TX7) (N := 10) hx hb hts hin7 hown hK hP 0 rfl rfl 0 (by decide) hw0 (fun _ h9 => h9) rfl dX7_day_33 ?_
      refine va_get (D := (dC, dI)) (ci := 0) (v := .ref kw) (C := RX0) (T := TX0) (N := 12) hx hb hts hin0 hown hK hP 1 rfl rfl 1 (by decide) hw1 (fun _ h9 => h9) rfl dX7_day_36 ?_
      refine lv_iload_n hx hb dX7_day_39 rfl (lv_at hl 2 rfl) ?_
      refine lv_iload_n hx hb dX7_day_40 rfl (lv_at hl 3 rfl) ?_
      refine va_iast hx hb hK hP hD hS 2 0 rfl rfl (vin (by omega) (by omega)) dX7_day_41 (fun H locs hP hD hS => ?_)
      replace hP : va_P (dC, dI) vwCl [(h, .inr (7, [.ref k, .ref d, .ref j, .ref o, .ref f, .ref g, .ref wk, .ref im, .ref kt, .ref dl])), (k, .inr (0, [.ref ks, .ref kw, .ref kc, .int (-6), .int 0, .int 0, .ref kq, .ref km, .ref kd, .int 0, .ref ka, .ref kk])), (kw, .inl (cI, 14, .inl (upd (fun _ => 0) i0.toNatClampNeg i1))), (kc, .inl (cZ, 14, .inl (fun _ => 0)))] H := hP
      replace hD : va_D A [(h, .inr (7, [.ref k, .ref d, .ref j, .ref o, .ref f, .ref g, .ref wk, .ref im, .ref kt, .ref dl])), (k, .inr (0, [.ref ks, .ref kw, .ref kc, .int (-6), .int 0, .int 0, .ref kq, .ref km, .ref kd, .int 0, .ref ka, .ref kk])), (kw, .inl (cI, 14, .inl (upd (fun _ => 0) i0.toNatClampNeg i1))), (kc, .inl (cZ, 14, .inl (fun _ => 0)))] := hD
      refine lv_aload_n hx hb dX7_day_42 rfl (lv_at hl 1 rfl) ?_
      refine va_get (D := (dC, dI)) (ci := 7) (v := .ref k) (C := RX7) (T := TX7) (N := 10) hx hb hts hin7 hown hK hP 0 rfl rfl 0 (by decide) hw0 (fun _ h9 => h9) rfl dX7_day_43 ?_
      refine va_get (D := (dC, dI)) (ci := 0) (v := .ref kc) (C := RX0) (T := TX0) (N := 12) hx hb hts hin0 hown hK hP 1 rfl rfl 2 (by decide) hw2 (fun _ h9 => h9) rfl dX7_day_46 ?_
      refine lv_iload_n hx hb dX7_day_49 rfl (lv_at hl 2 rfl) ?_
      refine lv_iload_n hx hb dX7_day_50 rfl (lv_at hl 4 rfl) ?_
      refine va_zast hx hb hK hP hD hS 3 1 rfl rfl (vin (by omega) (by omega)) dX7_day_51 (fun H locs hP hD hS => ?_)
      replace hP : va_P (dC, dI) vwCl [(h, .inr (7, [.ref k, .ref d, .ref j, .ref o, .ref f, .ref g, .ref wk, .ref im, .ref kt, .ref dl])), (k, .inr (0, [.ref ks, .ref kw, .ref kc, .int (-6), .int 0, .int 0, .ref kq, .ref km, .ref kd, .int 0, .ref ka, .ref kk])), (kw, .inl (cI, 14, .inl (upd (fun _ => 0) i0.toNatClampNeg i1))), (kc, .inl (cZ, 14, .inl (upd (fun _ => 0) i0.toNatClampNeg (vp_nar .boolean i2))))] H := hP
      replace hD : va_D A [(h, .inr (7, [.ref k, .ref d, .ref j, .ref o, .ref f, .ref g, .ref wk, .ref im, .ref kt, .ref dl])), (k, .inr (0, [.ref ks, .ref kw, .ref kc, .int (-6), .int 0, .int 0, .ref kq, .ref km, .ref kd, .int 0, .ref ka, .ref kk])), (kw, .inl (cI, 14, .inl (upd (fun _ => 0) i0.toNatClampNeg i1))), (kc, .inl (cZ, 14, .inl (upd (fun _ => 0) i0.toNatClampNeg (vp_nar .boolean i2))))] := hD
      refine lv_iload hx hb dX7_day_52 (lv_at hl 0 rfl) ?_
      have hP9 := mx_subP (wc := []) hP [] rfl
      have hD9 := hD.sub (ws' := []) [] (by decide) rfl
      exact W.iret (v := 0) hx hb hr (fun t ht hW => ⟨⟨0, (), rfl, (by first | exact Or.inl (⟨rfl, by omega⟩) | exact Or.inr (Or.inl (⟨rfl, by omega⟩)) | exact Or.inr (Or.inr (⟨rfl, by omega⟩))), by rw [ht]; exact hP9, hD9⟩, hS.F ht⟩) hS.2.2 dX7_day_54
    · have hf3 : i1.toInt < (0 : Int) ∨ (4 : Int) < i1.toInt := hf3
      refine lv_if_ne (tgt := 21) hx hb dX7_day_15 (by decide) (fun c6 => absurd c6 (by decide)) (fun c6 => ?_)
      refine lv_bipush (v := (-2)) hx hb dX7_day_18 (by decide) ?_
      have hP9 := mx_subP (wc := []) hP [] rfl
      have hD9 := hD.sub (ws' := []) [] (by decide) rfl
      exact W.iret (v := (-2)) hx hb hr (fun t ht hW => ⟨⟨(-2), (), rfl, (by first | exact Or.inl (⟨rfl, by omega⟩) | exact Or.inr (Or.inl (⟨rfl, by omega⟩)) | exact Or.inr (Or.inr (⟨rfl, by omega⟩))), by rw [ht]; exact hP9, hD9⟩, hS.F ht⟩) hS.2.2 dX7_day_20
  · have hf1 : i0.toInt < 0 ∨ 13 < i0.toInt := hf1
    refine lv_if_ne (tgt := 9) hx hb dX7_day_4 (by decide) (fun c7 => absurd c7 (by decide)) (fun c7 => ?_)
    refine lv_iconst (v := (-1)) hx hb dX7_day_7 (by decide) ?_
    have hP9 := mx_subP (wc := []) hP [] rfl
    have hD9 := hD.sub (ws' := []) [] (by decide) rfl
    exact W.iret (v := (-1)) hx hb hr (fun t ht hW => ⟨⟨(-1), (), rfl, (by first | exact Or.inl (⟨rfl, by omega⟩) | exact Or.inr (Or.inl (⟨rfl, by omega⟩)) | exact Or.inr (Or.inr (⟨rfl, by omega⟩))), by rw [ht]; exact hP9, hD9⟩, hS.F ht⟩) hS.2.2 dX7_day_8
set_option maxHeartbeats 4000000 in
set_option maxRecDepth 100000 in
theorem c_X7_set (l : Launch) (dC : Nat → ClassId) (dI : Nat → Nat → Nat) (cI cZ cK : ClassId) (tS aK aV : Nat) (h : Nat) (o : Nat) (f : Nat) (g : Nat) (wk : Nat) (im : Nat) (kt : Nat) (dl : Nat) (j : Nat) (k : Nat) (ks : Nat) (kw : Nat) (kc : Nat) (kq : Nat) (km : Nat) (kd : Nat) (ka : Nat) (kk : Nat) (d : Nat) (i0 : Int32) (i1 : Int32) (sz : Nat) : Ci l yX7_set (wq yX7_set cX7_set 4 (some .int)) ({ frames := 1, cells := 0, slots := 0, locals := 22 }) dC dI cI cZ cK tS aK aV [.ref h, .int i0, .int i1] sz [(h, .inr (7, [.ref k, .ref d, .ref j, .ref o, .ref f, .ref g, .ref wk, .ref im, .ref kt, .ref dl])), (k, .inr (0, [.ref ks, .ref kw, .ref kc, .int (-6), .int 0, .int 0, .ref kq, .ref km, .ref kd, .int 0, .ref ka, .ref kk])), (ks, .inl (cI, 5, .inl (upd (fun _ => 0) 0 800)))] (fun (r : Int32) (_ : Unit) => (r = 800 ∧ (i0.toInt = 0 ∧ 0 ≤ i1.toInt ∧ i1.toInt ≤ 4000)) ∨ (r = 0 ∧ ((i0.toInt = 1 ∧ 0 ≤ i1.toInt ∧ i1.toInt ≤ 60) ∨ (i0.toInt = 2 ∧ 0 ≤ i1.toInt ∧ i1.toInt ≤ 6) ∨ (i0.toInt = 3 ∧ 0 ≤ i1.toInt ∧ i1.toInt ≤ 1) ∨ (i0.toInt = 4 ∧ 0 ≤ i1.toInt ∧ i1.toInt ≤ 13))) ∨ (r = (-2) ∧ (i0.toInt < 0 ∨ 4 < i0.toInt ∨ i1.toInt < 0 ∨ (i0.toInt = 0 ∧ 4000 < i1.toInt) ∨ (i0.toInt = 1 ∧ 60 < i1.toInt) ∨ (i0.toInt = 2 ∧ 6 < i1.toInt) ∨ (i0.toInt = 3 ∧ 1 < i1.toInt) ∨ (i0.toInt = 4 ∧ 13 < i1.toInt)))) (fun _ => []) := by
  refine Met.ofW (cc := cX7_set) (maxL := 4) (ret := (some .int)) (by decide) rfl ?_
  intro p e s m args below meth c s₁ B hml hv
  obtain ⟨rfl, hsz, hP, hKx, hD0⟩ := hv
  have hx := B.exec
  have hb := B.bytes
  have hr := B.returns
  have hts := atoms_spec (ws := wq yX7_set cX7_set 4 (some .int)) B.pre
  have hown : s.vm.findClass RX7 = some m.cls := findClass_of_methodNamed B.named
  have hlocks := B.notSynchronized
  subst hsz
  have hD := hD0.self (sz := s.heap.size)
  generalize hAe : va_A [(h, .inr (7, [.ref k, .ref d, .ref j, .ref o, .ref f, .ref g, .ref wk, .ref im, .ref kt, .ref dl])), (k, .inr (0, [.ref ks, .ref kw, .ref kc, .int (-6), .int 0, .int 0, .ref kq, .ref km, .ref kd, .int 0, .ref ka, .ref kk])), (ks, .inl (cI, 5, .inl (upd (fun _ => 0) 0 800)))] s.heap.size = A at hD hKx ⊢
  have hA : ∀ q : Nat, s.heap.size ≤ q → A q := fun q h => by rw [← hAe]; exact Or.inr h
  have hS : va_S A s.heap s.heap [] := va_S.rf
  have hP : va_P (dC, dI) vwCl [(h, .inr (7, [.ref k, .ref d, .ref j, .ref o, .ref f, .ref g, .ref wk, .ref im, .ref kt, .ref dl])), (k, .inr (0, [.ref ks, .ref kw, .ref kc, .int (-6), .int 0, .int 0, .ref kq, .ref km, .ref kd, .int 0, .ref ka, .ref kk])), (ks, .inl (cI, 5, .inl (upd (fun _ => 0) 0 800)))] s.heap := hP
  have hl := lv_entry ([.ref h, .int i0, .int i1]) (n := 4) (Nat.le_of_ble_eq_true rfl)
  rw [lg_entry_eq]
  generalize (lg_sl ([.ref h, .int i0, .int i1]) ++ List.replicate (4 - (lg_sl ([.ref h, .int i0, .int i1])).length) Slot.unset).toArray = ls at hl ⊢
  have hl : lv_has ls 4 [(0, .ref h), (1, .int i0), (2, .int i1)] := hl
  have hK := hKx.1
  have hin7 := fun w9 h9 => List.mem_cons_of_mem (Cond.code yX7_set cX7_set 4 (some .int)) (inlX7 w9 h9)
  have hin0 := fun w9 h9 => List.mem_cons_of_mem (Cond.code yX7_set cX7_set 4 (some .int)) (inlX0 w9 h9)
  have hw0 := hts (.fieldLink RX7 80 "OneCan" "SETTING_LIMITS" "[I") (List.mem_cons_of_mem _ wm_106)
  have hw1 := hts (.fieldLink RX7 12 "OneCan" "camp" "LOneCan$Camp;") (List.mem_cons_of_mem _ wm_69)
  have hw2 := hts (.fieldLink RX7 83 "OneCan$Camp" "settings" "[I") (List.mem_cons_of_mem _ wm_70)
  refine lv_iload_n hx hb dX7_set_0 rfl (lv_at hl 1 rfl) ?_
  refine lv_iconst (v := 0) hx hb dX7_set_1 (by decide) ?_
  refine lv_iconst (v := 4) hx hb dX7_set_2 (by decide) ?_
  refine mx_i (wr := [(h, .inr (7, [.ref k, .ref d, .ref j, .ref o, .ref f, .ref g, .ref wk, .ref im, .ref kt, .ref dl])), (k, .inr (0, [.ref ks, .ref kw, .ref kc, .int (-6), .int 0, .int 0, .ref kq, .ref km, .ref kd, .int 0, .ref ka, .ref kk])), (ks, .inl (cI, 5, .inl (upd (fun _ => 0) 0 800)))]) (va_runS (As := [.int i0, .int 0, .int 4]) (rest := []) ⟨hx, hb, hml, hown, hts⟩ (c_X7_isIn l dC dI cI cZ cK tS aK aV i0 0 4 s.heap.size) (va_cwS 3 hts (gw_s (fun _ h9 => List.mem_cons_of_mem _ h9) wm_0 wm_1 wm_2 wm_3) rfl rfl rfl (by decide +kernel) ⟨Nat.le_of_ble_eq_true rfl, Nat.le_of_ble_eq_true rfl⟩) (mx_preS hKx hP hD hS hA [] (by decide) rfl) rfl rfl hl.1 rfl (lv_room (Nat.le_of_ble_eq_true rfl)) dX7_set_3 ⟨Nat.le_of_ble_eq_true rfl, Nat.le_of_ble_eq_true rfl⟩) hP hD hS hA [] [0, 1, 2] rfl rfl (by decide) (by decide) (fun r1 u1 H locs hq1 hP hD hS => ?_)
  replace hP : va_P (dC, dI) vwCl [(h, .inr (7, [.ref k, .ref d, .ref j, .ref o, .ref f, .ref g, .ref wk, .ref im, .ref kt, .ref dl])), (k, .inr (0, [.ref ks, .ref kw, .ref kc, .int (-6), .int 0, .int 0, .ref kq, .ref km, .ref kd, .int 0, .ref ka, .ref kk])), (ks, .inl (cI, 5, .inl (upd (fun _ => 0) 0 800)))] H := hP
  replace hD : va_D A [(h, .inr (7, [.ref k, .ref d, .ref j, .ref o, .ref f, .ref g, .ref wk, .ref im, .ref kt, .ref dl])), (k, .inr (0, [.ref ks, .ref kw, .ref kc, .int (-6), .int 0, .int 0, .ref kq, .ref km, .ref kd, .int 0, .ref ka, .ref kk])), (ks, .inl (cI, 5, .inl (upd (fun _ => 0) 0 800)))] := hD
  rcases hq1 with ⟨rfl, hf1⟩ | ⟨rfl, hf1⟩
  · have hf1 : (0 : Int) ≤ i0.toInt ∧ i0.toInt ≤ (4 : Int) := hf1
    refine lv_if_eq (tgt := 22) hx hb dX7_set_6 (by decide) (fun c2 => absurd c2 (by decide)) (fun c2 => ?_)
    rcases (show i0 = 0 ∨ i0 = 1 ∨ i0 = 2 ∨ i0 = 3 ∨ i0 = 4 from by rcases (show i0.toInt = 0 ∨ i0.toInt = 1 ∨ i0.toInt = 2 ∨ i0.toInt = 3 ∨ i0.toInt = 4 by omega) with h9 | h9 | h9 | h9 | h9 <;> first | exact Or.inl (ceq h9) | exact Or.inr (Or.inl (ceq h9)) | exact Or.inr (Or.inr (Or.inl (ceq h9))) | exact Or.inr (Or.inr (Or.inr (Or.inl (ceq h9)))) | exact Or.inr (Or.inr (Or.inr (Or.inr (ceq h9))))) with rfl | rfl | rfl | rfl | rfl
    · have z9 : (0 : Int32).toInt = 0 := rfl
      refine lv_iload_n hx hb dX7_set_9 rfl (lv_at hl 2 rfl) ?_
      refine lv_iconst (v := 0) hx hb dX7_set_10 (by decide) ?_
      refine va_gets (v := .ref tS) hx hb hKx.2.2.2.2.2.2.1 hS hown hw0 (fun _ h9 => h9) dX7_set_11 ?_
      refine lv_iload_n hx hb dX7_set_14 rfl (lv_at hl 1 rfl) ?_
      refine va_ti (v := .int (limS (0 : Int32).toNatClampNeg)) hx hb hKx.2.2.2.2.2.2.2.1 hS (vin (by decide) (by decide)) rfl dX7_set_15 ?_
      refine lv_topi (fun x3 e3 => ?_)
      obtain rfl : x3 = 4000 := e3.trans (by decide)
      refine mx_i (wr := [(h, .inr (7, [.ref k, .ref d, .ref j, .ref o, .ref f, .ref g, .ref wk, .ref im, .ref kt, .ref dl])), (k, .inr (0, [.ref ks, .ref kw, .ref kc, .int (-6), .int 0, .int 0, .ref kq, .ref km, .ref kd, .int 0, .ref ka, .ref kk])), (ks, .inl (cI, 5, .inl (upd (fun _ => 0) 0 800)))]) (va_runS (As := [.int i1, .int 0, .int 4000]) (rest := []) ⟨hx, hb, hml, hown, hts⟩ (c_X7_isIn l dC dI cI cZ cK tS aK aV i1 0 4000 H.size) (va_cwS 3 hts (gw_s (fun _ h9 => List.mem_cons_of_mem _ h9) wm_0 wm_1 wm_2 wm_3) rfl rfl rfl (by decide +kernel) ⟨Nat.le_of_ble_eq_true rfl, Nat.le_of_ble_eq_true rfl⟩) (mx_preS hKx hP hD hS hA [] (by decide) rfl) rfl rfl hl.1 rfl (lv_room (Nat.le_of_ble_eq_true rfl)) dX7_set_16 ⟨Nat.le_of_ble_eq_true rfl, Nat.le_of_ble_eq_true rfl⟩) hP hD hS hA [] [0, 1, 2] rfl rfl (by decide) (by decide) (fun r4 u4 H locs hq4 hP hD hS => ?_)
      replace hP : va_P (dC, dI) vwCl [(h, .inr (7, [.ref k, .ref d, .ref j, .ref o, .ref f, .ref g, .ref wk, .ref im, .ref kt, .ref dl])), (k, .inr (0, [.ref ks, .ref kw, .ref kc, .int (-6), .int 0, .int 0, .ref kq, .ref km, .ref kd, .int 0, .ref ka, .ref kk])), (ks, .inl (cI, 5, .inl (upd (fun _ => 0) 0 800)))] H := hP
      replace hD : va_D A [(h, .inr (7, [.ref k, .ref d, .ref j, .ref o, .ref f, .ref g, .ref wk, .ref im, .ref kt, .ref dl])), (k, .inr (0, [.ref ks, .ref kw, .ref kc, .int (-6), .int 0, .int 0, .ref kq, .ref km, .ref kd, .int 0, .ref ka, .ref kk])), (ks, .inl (cI, 5, .inl (upd (fun _ => 0) 0 800)))] := hD
      rcases hq4 with ⟨rfl, hf4⟩ | ⟨rfl, hf4⟩
      · have hf4 : (0 : Int) ≤ i1.toInt ∧ i1.toInt ≤ (4000 : Int) := hf4
        refine lv_if_ne (tgt := 25) hx hb dX7_set_19 (by decide) (fun c5 => ?_) (fun c5 => absurd c5 (by decide))
        refine lv_aload_n hx hb dX7_set_25 rfl (lv_at hl 0 rfl) ?_
        refine va_get (D := (dC, dI)) (ci := 7) (v := .ref k) (C := RX7) (T := TX7) (N := 10) hx hb hts hin7 hown hK hP 0 rfl rfl 0 (by decide) hw1 (fun _ h9 => h9) rfl dX7_set_26 ?_
        refine va_get (D := (dC, dI)) (ci := 0) (v := .ref ks) (C := RX0) (T := TX0) (N := 12) hx hb hts hin0 hown hK hP 1 rfl rfl 0 (by decide) hw2 (fun _ h9 => h9) rfl dX7_set_29 ?_
        refine lv_iload_n hx hb dX7_set_32 rfl (lv_at hl 1 rfl) ?_
        refine va_iald hx hb hK hP 2 0 rfl rfl (vin (by decide) (by decide)) dX7_set_33 ?_
        refine lv_topi (fun x6 e6 => ?_)
        obtain rfl : x6 = 800 := e6.trans (by first | rfl | decide)
        refine lv_istore_n (lv' := [(3, .int 800), (0, .ref h), (1, .int 0), (2, .int i1)]) hx hb dX7_set_34 rfl hl (by decide) rfl (fun ls hl => ?_)
        refine lv_aload_n hx hb dX7_set_35 rfl (lv_at hl 1 rfl) ?_
        refine va_get (D := (dC, dI)) (ci := 7) (v := .ref k) (C := RX7) (T := TX7) (N := 10) hx hb hts hin7 hown hK hP 0 rfl rfl 0 (by decide) hw1 (fun _ h9 => h9) rfl dX7_set_36 ?_
        refine va_get (D := (dC, dI)) (ci := 0) (v := .ref ks) (C := RX0) (T := TX0) (N := 12) hx hb hts hin0 hown hK hP 1 rfl rfl 0 (by decide) hw2 (fun _ h9 => h9) rfl dX7_set_39 ?_
        refine lv_iload_n hx hb dX7_set_42 rfl (lv_at hl 2 rfl) ?_
        refine lv_iload_n hx hb dX7_set_43 rfl (lv_at hl 3 rfl) ?_
        refine va_iast hx hb hK hP hD hS 2 0 rfl rfl (vin (by decide) (by decide)) dX7_set_44 (fun H locs hP hD hS => ?_)
        replace hP : va_P (dC, dI) vwCl [(h, .inr (7, [.ref k, .ref d, .ref j, .ref o, .ref f, .ref g, .ref wk, .ref im, .ref kt, .ref dl])), (k, .inr (0, [.ref ks, .ref kw, .ref kc, .int (-6), .int 0, .int 0, .ref kq, .ref km, .ref kd, .int 0, .ref ka, .ref kk])), (ks, .inl (cI, 5, .inl (upd (upd (fun _ => 0) 0 800) 0 i1)))] H := hP
        replace hD : va_D A [(h, .inr (7, [.ref k, .ref d, .ref j, .ref o, .ref f, .ref g, .ref wk, .ref im, .ref kt, .ref dl])), (k, .inr (0, [.ref ks, .ref kw, .ref kc, .int (-6), .int 0, .int 0, .ref kq, .ref km, .ref kd, .int 0, .ref ka, .ref kk])), (ks, .inl (cI, 5, .inl (upd (upd (fun _ => 0) 0 800) 0 i1)))] := hD
        refine lv_iload_n hx hb dX7_set_45 rfl (lv_at hl 0 rfl) ?_
        have hP9 := mx_subP (wc := []) hP [] rfl
        have hD9 := hD.sub (ws' := []) [] (by decide) rfl
        exact W.iret (v := 800) hx hb hr (fun t ht hW => ⟨⟨800, (), rfl, (by first | exact Or.inl (⟨rfl, by omega⟩) | exact Or.inr (Or.inl (⟨rfl, by omega⟩)) | exact Or.inr (Or.inr (⟨rfl, by omega⟩))), by rw [ht]; exact hP9, hD9⟩, hS.F ht⟩) hS.2.2 dX7_set_46
      · have hf4 : i1.toInt < (0 : Int) ∨ (4000 : Int) < i1.toInt := hf4
        refine lv_if_ne (tgt := 25) hx hb dX7_set_19 (by decide) (fun c7 => absurd c7 (by decide)) (fun c7 => ?_)
        refine lv_bipush (v := (-2)) hx hb dX7_set_22 (by decide) ?_
        have hP9 := mx_subP (wc := []) hP [] rfl
        have hD9 := hD.sub (ws' := []) [] (by decide) rfl
        exact W.iret (v := (-2)) hx hb hr (fun t ht hW => ⟨⟨(-2), (), rfl, (by first | exact Or.inl (⟨rfl, by omega⟩) | exact Or.inr (Or.inl (⟨rfl, by omega⟩)) | exact Or.inr (Or.inr (⟨rfl, by omega⟩))), by rw [ht]; exact hP9, hD9⟩, hS.F ht⟩) hS.2.2 dX7_set_24
    · have z9 : (1 : Int32).toInt = 1 := rfl
      refine lv_iload_n hx hb dX7_set_9 rfl (lv_at hl 2 rfl) ?_
      refine lv_iconst (v := 0) hx hb dX7_set_10 (by decide) ?_
      refine va_gets (v := .ref tS) hx hb hKx.2.2.2.2.2.2.1 hS hown hw0 (fun _ h9 => h9) dX7_set_11 ?_
      refine lv_iload_n hx hb dX7_set_14 rfl (lv_at hl 1 rfl) ?_
      refine va_ti (v := .int (limS (1 : Int32).toNatClampNeg)) hx hb hKx.2.2.2.2.2.2.2.1 hS (vin (by decide) (by decide)) rfl dX7_set_15 ?_
      refine lv_topi (fun x8 e8 => ?_)
      obtain rfl : x8 = 60 := e8.trans (by decide)
      refine mx_i (wr := [(h, .inr (7, [.ref k, .ref d, .ref j, .ref o, .ref f, .ref g, .ref wk, .ref im, .ref kt, .ref dl])), (k, .inr (0, [.ref ks, .ref kw, .ref kc, .int (-6), .int 0, .int 0, .ref kq, .ref km, .ref kd, .int 0, .ref ka, .ref kk])), (ks, .inl (cI, 5, .inl (upd (fun _ => 0) 0 800)))]) (va_runS (As := [.int i1, .int 0, .int 60]) (rest := []) ⟨hx, hb, hml, hown, hts⟩ (c_X7_isIn l dC dI cI cZ cK tS aK aV i1 0 60 H.size) (va_cwS 3 hts (gw_s (fun _ h9 => List.mem_cons_of_mem _ h9) wm_0 wm_1 wm_2 wm_3) rfl rfl rfl (by decide +kernel) ⟨Nat.le_of_ble_eq_true rfl, Nat.le_of_ble_eq_true rfl⟩) (mx_preS hKx hP hD hS hA [] (by decide) rfl) rfl rfl hl.1 rfl (lv_room (Nat.le_of_ble_eq_true rfl)) dX7_set_16 ⟨Nat.le_of_ble_eq_true rfl, Nat.le_of_ble_eq_true rfl⟩) hP hD hS hA [] [0, 1, 2] rfl rfl (by decide) (by decide) (fun r9 u9 H locs hq9 hP hD hS => ?_)
      replace hP : va_P (dC, dI) vwCl [(h, .inr (7, [.ref k, .ref d, .ref j, .ref o, .ref f, .ref g, .ref wk, .ref im, .ref kt, .ref dl])), (k, .inr (0, [.ref ks, .ref kw, .ref kc, .int (-6), .int 0, .int 0, .ref kq, .ref km, .ref kd, .int 0, .ref ka, .ref kk])), (ks, .inl (cI, 5, .inl (upd (fun _ => 0) 0 800)))] H := hP
      replace hD : va_D A [(h, .inr (7, [.ref k, .ref d, .ref j, .ref o, .ref f, .ref g, .ref wk, .ref im, .ref kt, .ref dl])), (k, .inr (0, [.ref ks, .ref kw, .ref kc, .int (-6), .int 0, .int 0, .ref kq, .ref km, .ref kd, .int 0, .ref ka, .ref kk])), (ks, .inl (cI, 5, .inl (upd (fun _ => 0) 0 800)))] := hD
      rcases hq9 with ⟨rfl, hf9⟩ | ⟨rfl, hf9⟩
      · have hf9 : (0 : Int) ≤ i1.toInt ∧ i1.toInt ≤ (60 : Int) := hf9
        refine lv_if_ne (tgt := 25) hx hb dX7_set_19 (by decide) (fun c10 => ?_) (fun c10 => absurd c10 (by decide))
        refine lv_aload_n hx hb dX7_set_25 rfl (lv_at hl 0 rfl) ?_
        refine va_get (D := (dC, dI)) (ci := 7) (v := .ref k) (C := RX7) (T := TX7) (N := 10) hx hb hts hin7 hown hK hP 0 rfl rfl 0 (by decide) hw1 (fun _ h9 => h9) rfl dX7_set_26 ?_
        refine va_get (D := (dC, dI)) (ci := 0) (v := .ref ks) (C := RX0) (T := TX0) (N := 12) hx hb hts hin0 hown hK hP 1 rfl rfl 0 (by decide) hw2 (fun _ h9 => h9) rfl dX7_set_29 ?_
        refine lv_iload_n hx hb dX7_set_32 rfl (lv_at hl 1 rfl) ?_
        refine va_iald hx hb hK hP 2 0 rfl rfl (vin (by decide) (by decide)) dX7_set_33 ?_
        refine lv_topi (fun x11 e11 => ?_)
        obtain rfl : x11 = 0 := e11.trans (by first | rfl | decide)
        refine lv_istore_n (lv' := [(3, .int 0), (0, .ref h), (1, .int 1), (2, .int i1)]) hx hb dX7_set_34 rfl hl (by decide) rfl (fun ls hl => ?_)
        refine lv_aload_n hx hb dX7_set_35 rfl (lv_at hl 1 rfl) ?_
        refine va_get (D := (dC, dI)) (ci := 7) (v := .ref k) (C := RX7) (T := TX7) (N := 10) hx hb hts hin7 hown hK hP 0 rfl rfl 0 (by decide) hw1 (fun _ h9 => h9) rfl dX7_set_36 ?_
        refine va_get (D := (dC, dI)) (ci := 0) (v := .ref ks) (C := RX0) (T := TX0) (N := 12) hx hb hts hin0 hown hK hP 1 rfl rfl 0 (by decide) hw2 (fun _ h9 => h9) rfl dX7_set_39 ?_
        refine lv_iload_n hx hb dX7_set_42 rfl (lv_at hl 2 rfl) ?_
        refine lv_iload_n hx hb dX7_set_43 rfl (lv_at hl 3 rfl) ?_
        refine va_iast hx hb hK hP hD hS 2 0 rfl rfl (vin (by decide) (by decide)) dX7_set_44 (fun H locs hP hD hS => ?_)
        replace hP : va_P (dC, dI) vwCl [(h, .inr (7, [.ref k, .ref d, .ref j, .ref o, .ref f, .ref g, .ref wk, .ref im, .ref kt, .ref dl])), (k, .inr (0, [.ref ks, .ref kw, .ref kc, .int (-6), .int 0, .int 0, .ref kq, .ref km, .ref kd, .int 0, .ref ka, .ref kk])), (ks, .inl (cI, 5, .inl (upd (upd (fun _ => 0) 0 800) 1 i1)))] H := hP
        replace hD : va_D A [(h, .inr (7, [.ref k, .ref d, .ref j, .ref o, .ref f, .ref g, .ref wk, .ref im, .ref kt, .ref dl])), (k, .inr (0, [.ref ks, .ref kw, .ref kc, .int (-6), .int 0, .int 0, .ref kq, .ref km, .ref kd, .int 0, .ref ka, .ref kk])), (ks, .inl (cI, 5, .inl (upd (upd (fun _ => 0) 0 800) 1 i1)))] := hD
        refine lv_iload_n hx hb dX7_set_45 rfl (lv_at hl 0 rfl) ?_
        have hP9 := mx_subP (wc := []) hP [] rfl
        have hD9 := hD.sub (ws' := []) [] (by decide) rfl
        exact W.iret (v := 0) hx hb hr (fun t ht hW => ⟨⟨0, (), rfl, (by first | exact Or.inl (⟨rfl, by omega⟩) | exact Or.inr (Or.inl (⟨rfl, by omega⟩)) | exact Or.inr (Or.inr (⟨rfl, by omega⟩))), by rw [ht]; exact hP9, hD9⟩, hS.F ht⟩) hS.2.2 dX7_set_46
      · have hf9 : i1.toInt < (0 : Int) ∨ (60 : Int) < i1.toInt := hf9
        refine lv_if_ne (tgt := 25) hx hb dX7_set_19 (by decide) (fun c12 => absurd c12 (by decide)) (fun c12 => ?_)
        refine lv_bipush (v := (-2)) hx hb dX7_set_22 (by decide) ?_
        have hP9 := mx_subP (wc := []) hP [] rfl
        have hD9 := hD.sub (ws' := []) [] (by decide) rfl
        exact W.iret (v := (-2)) hx hb hr (fun t ht hW => ⟨⟨(-2), (), rfl, (by first | exact Or.inl (⟨rfl, by omega⟩) | exact Or.inr (Or.inl (⟨rfl, by omega⟩)) | exact Or.inr (Or.inr (⟨rfl, by omega⟩))), by rw [ht]; exact hP9, hD9⟩, hS.F ht⟩) hS.2.2 dX7_set_24
    · have z9 : (2 : Int32).toInt = 2 := rfl
      refine lv_iload_n hx hb dX7_set_9 rfl (lv_at hl 2 rfl) ?_
      refine lv_iconst (v := 0) hx hb dX7_set_10 (by decide) ?_
      refine va_gets (v := .ref tS) hx hb hKx.2.2.2.2.2.2.1 hS hown hw0 (fun _ h9 => h9) dX7_set_11 ?_
      refine lv_iload_n hx hb dX7_set_14 rfl (lv_at hl 1 rfl) ?_
      refine va_ti (v := .int (limS (2 : Int32).toNatClampNeg)) hx hb hKx.2.2.2.2.2.2.2.1 hS (vin (by decide) (by decide)) rfl dX7_set_15 ?_
      refine lv_topi (fun x13 e13 => ?_)
      obtain rfl : x13 = 6 := e13.trans (by decide)
      refine mx_i (wr := [(h, .inr (7, [.ref k, .ref d, .ref j, .ref o, .ref f, .ref g, .ref wk, .ref im, .ref kt, .ref dl])), (k, .inr (0, [.ref ks, .ref kw, .ref kc, .int (-6), .int 0, .int 0, .ref kq, .ref km, .ref kd, .int 0, .ref ka, .ref kk])), (ks, .inl (cI, 5, .inl (upd (fun _ => 0) 0 800)))]) (va_runS (As := [.int i1, .int 0, .int 6]) (rest := []) ⟨hx, hb, hml, hown, hts⟩ (c_X7_isIn l dC dI cI cZ cK tS aK aV i1 0 6 H.size) (va_cwS 3 hts (gw_s (fun _ h9 => List.mem_cons_of_mem _ h9) wm_0 wm_1 wm_2 wm_3) rfl rfl rfl (by decide +kernel) ⟨Nat.le_of_ble_eq_true rfl, Nat.le_of_ble_eq_true rfl⟩) (mx_preS hKx hP hD hS hA [] (by decide) rfl) rfl rfl hl.1 rfl (lv_room (Nat.le_of_ble_eq_true rfl)) dX7_set_16 ⟨Nat.le_of_ble_eq_true rfl, Nat.le_of_ble_eq_true rfl⟩) hP hD hS hA [] [0, 1, 2] rfl rfl (by decide) (by decide) (fun r14 u14 H locs hq14 hP hD hS => ?_)
      replace hP : va_P (dC, dI) vwCl [(h, .inr (7, [.ref k, .ref d, .ref j, .ref o, .ref f, .ref g, .ref wk, .ref im, .ref kt, .ref dl])), (k, .inr (0, [.ref ks, .ref kw, .ref kc, .int (-6), .int 0, .int 0, .ref kq, .ref km, .ref kd, .int 0, .ref ka, .ref kk])), (ks, .inl (cI, 5, .inl (upd (fun _ => 0) 0 800)))] H := hP
      replace hD : va_D A [(h, .inr (7, [.ref k, .ref d, .ref j, .ref o, .ref f, .ref g, .ref wk, .ref im, .ref kt, .ref dl])), (k, .inr (0, [.ref ks, .ref kw, .ref kc, .int (-6), .int 0, .int 0, .ref kq, .ref km, .ref kd, .int 0, .ref ka, .ref kk])), (ks, .inl (cI, 5, .inl (upd (fun _ => 0) 0 800)))] := hD
      rcases hq14 with ⟨rfl, hf14⟩ | ⟨rfl, hf14⟩
      · have hf14 : (0 : Int) ≤ i1.toInt ∧ i1.toInt ≤ (6 : Int) := hf14
        refine lv_if_ne (tgt := 25) hx hb dX7_set_19 (by decide) (fun c15 => ?_) (fun c15 => absurd c15 (by decide))
        refine lv_aload_n hx hb dX7_set_25 rfl (lv_at hl 0 rfl) ?_
        refine va_get (D := (dC, dI)) (ci := 7) (v := .ref k) (C := RX7) (T := TX7) (N := 10) hx hb hts hin7 hown hK hP 0 rfl rfl 0 (by decide) hw1 (fun _ h9 => h9) rfl dX7_set_26 ?_
        refine va_get (D := (dC, dI)) (ci := 0) (v := .ref ks) (C := RX0) (T := TX0) (N := 12) hx hb hts hin0 hown hK hP 1 rfl rfl 0 (by decide) hw2 (fun _ h9 => h9) rfl dX7_set_29 ?_
        refine lv_iload_n hx hb dX7_set_32 rfl (lv_at hl 1 rfl) ?_
        refine va_iald hx hb hK hP 2 0 rfl rfl (vin (by decide) (by decide)) dX7_set_33 ?_
        refine lv_topi (fun x16 e16 => ?_)
        obtain rfl : x16 = 0 := e16.trans (by first | rfl | decide)
        refine lv_istore_n (lv' := [(3, .int 0), (0, .ref h), (1, .int 2), (2, .int i1)]) hx hb dX7_set_34 rfl hl (by decide) rfl (fun ls hl => ?_)
        refine lv_aload_n hx hb dX7_set_35 rfl (lv_at hl 1 rfl) ?_
        refine va_get (D := (dC, dI)) (ci := 7) (v := .ref k) (C := RX7) (T := TX7) (N := 10) hx hb hts hin7 hown hK hP 0 rfl rfl 0 (by decide) hw1 (fun _ h9 => h9) rfl dX7_set_36 ?_
        refine va_get (D := (dC, dI)) (ci := 0) (v := .ref ks) (C := RX0) (T := TX0) (N := 12) hx hb hts hin0 hown hK hP 1 rfl rfl 0 (by decide) hw2 (fun _ h9 => h9) rfl dX7_set_39 ?_
        refine lv_iload_n hx hb dX7_set_42 rfl (lv_at hl 2 rfl) ?_
        refine lv_iload_n hx hb dX7_set_43 rfl (lv_at hl 3 rfl) ?_
        refine va_iast hx hb hK hP hD hS 2 0 rfl rfl (vin (by decide) (by decide)) dX7_set_44 (fun H locs hP hD hS => ?_)
        replace hP : va_P (dC, dI) vwCl [(h, .inr (7, [.ref k, .ref d, .ref j, .ref o, .ref f, .ref g, .ref wk, .ref im, .ref kt, .ref dl])), (k, .inr (0, [.ref ks, .ref kw, .ref kc, .int (-6), .int 0, .int 0, .ref kq, .ref km, .ref kd, .int 0, .ref ka, .ref kk])), (ks, .inl (cI, 5, .inl (upd (upd (fun _ => 0) 0 800) 2 i1)))] H := hP
        replace hD : va_D A [(h, .inr (7, [.ref k, .ref d, .ref j, .ref o, .ref f, .ref g, .ref wk, .ref im, .ref kt, .ref dl])), (k, .inr (0, [.ref ks, .ref kw, .ref kc, .int (-6), .int 0, .int 0, .ref kq, .ref km, .ref kd, .int 0, .ref ka, .ref kk])), (ks, .inl (cI, 5, .inl (upd (upd (fun _ => 0) 0 800) 2 i1)))] := hD
        refine lv_iload_n hx hb dX7_set_45 rfl (lv_at hl 0 rfl) ?_
        have hP9 := mx_subP (wc := []) hP [] rfl
        have hD9 := hD.sub (ws' := []) [] (by decide) rfl
        exact W.iret (v := 0) hx hb hr (fun t ht hW => ⟨⟨0, (), rfl, (by first | exact Or.inl (⟨rfl, by omega⟩) | exact Or.inr (Or.inl (⟨rfl, by omega⟩)) | exact Or.inr (Or.inr (⟨rfl, by omega⟩))), by rw [ht]; exact hP9, hD9⟩, hS.F ht⟩) hS.2.2 dX7_set_46
      · have hf14 : i1.toInt < (0 : Int) ∨ (6 : Int) < i1.toInt := hf14
        refine lv_if_ne (tgt := 25) hx hb dX7_set_19 (by decide) (fun c17 => absurd c17 (by decide)) (fun c17 => ?_)
        refine lv_bipush (v := (-2)) hx hb dX7_set_22 (by decide) ?_
        have hP9 := mx_subP (wc := []) hP [] rfl
        have hD9 := hD.sub (ws' := []) [] (by decide) rfl
        exact W.iret (v := (-2)) hx hb hr (fun t ht hW => ⟨⟨(-2), (), rfl, (by first | exact Or.inl (⟨rfl, by omega⟩) | exact Or.inr (Or.inl (⟨rfl, by omega⟩)) | exact Or.inr (Or.inr (⟨rfl, by omega⟩))), by rw [ht]; exact hP9, hD9⟩, hS.F ht⟩) hS.2.2 dX7_set_24
    · have z9 : (3 : Int32).toInt = 3 := rfl
      refine lv_iload_n hx hb dX7_set_9 rfl (lv_at hl 2 rfl) ?_
      refine lv_iconst (v := 0) hx hb dX7_set_10 (by decide) ?_
      refine va_gets (v := .ref tS) hx hb hKx.2.2.2.2.2.2.1 hS hown hw0 (fun _ h9 => h9) dX7_set_11 ?_
      refine lv_iload_n hx hb dX7_set_14 rfl (lv_at hl 1 rfl) ?_
      refine va_ti (v := .int (limS (3 : Int32).toNatClampNeg)) hx hb hKx.2.2.2.2.2.2.2.1 hS (vin (by decide) (by decide)) rfl dX7_set_15 ?_
      refine lv_topi (fun x18 e18 => ?_)
      obtain rfl : x18 = 1 := e18.trans (by decide)
      refine mx_i (wr := [(h, .inr (7, [.ref k, .ref d, .ref j, .ref o, .ref f, .ref g, .ref wk, .ref im, .ref kt, .ref dl])), (k, .inr (0, [.ref ks, .ref kw, .ref kc, .int (-6), .int 0, .int 0, .ref kq, .ref km, .ref kd, .int 0, .ref ka, .ref kk])), (ks, .inl (cI, 5, .inl (upd (fun _ => 0) 0 800)))]) (va_runS (As := [.int i1, .int 0, .int 1]) (rest := []) ⟨hx, hb, hml, hown, hts⟩ (c_X7_isIn l dC dI cI cZ cK tS aK aV i1 0 1 H.size) (va_cwS 3 hts (gw_s (fun _ h9 => List.mem_cons_of_mem _ h9) wm_0 wm_1 wm_2 wm_3) rfl rfl rfl (by decide +kernel) ⟨Nat.le_of_ble_eq_true rfl, Nat.le_of_ble_eq_true rfl⟩) (mx_preS hKx hP hD hS hA [] (by decide) rfl) rfl rfl hl.1 rfl (lv_room (Nat.le_of_ble_eq_true rfl)) dX7_set_16 ⟨Nat.le_of_ble_eq_true rfl, Nat.le_of_ble_eq_true rfl⟩) hP hD hS hA [] [0, 1, 2] rfl rfl (by decide) (by decide) (fun r19 u19 H locs hq19 hP hD hS => ?_)
      replace hP : va_P (dC, dI) vwCl [(h, .inr (7, [.ref k, .ref d, .ref j, .ref o, .ref f, .ref g, .ref wk, .ref im, .ref kt, .ref dl])), (k, .inr (0, [.ref ks, .ref kw, .ref kc, .int (-6), .int 0, .int 0, .ref kq, .ref km, .ref kd, .int 0, .ref ka, .ref kk])), (ks, .inl (cI, 5, .inl (upd (fun _ => 0) 0 800)))] H := hP
      replace hD : va_D A [(h, .inr (7, [.ref k, .ref d, .ref j, .ref o, .ref f, .ref g, .ref wk, .ref im, .ref kt, .ref dl])), (k, .inr (0, [.ref ks, .ref kw, .ref kc, .int (-6), .int 0, .int 0, .ref kq, .ref km, .ref kd, .int 0, .ref ka, .ref kk])), (ks, .inl (cI, 5, .inl (upd (fun _ => 0) 0 800)))] := hD
      rcases hq19 with ⟨rfl, hf19⟩ | ⟨rfl, hf19⟩
      · have hf19 : (0 : Int) ≤ i1.toInt ∧ i1.toInt ≤ (1 : Int) := hf19
        refine lv_if_ne (tgt := 25) hx hb dX7_set_19 (by decide) (fun c20 => ?_) (fun c20 => absurd c20 (by decide))
        refine lv_aload_n hx hb dX7_set_25 rfl (lv_at hl 0 rfl) ?_
        refine va_get (D := (dC, dI)) (ci := 7) (v := .ref k) (C := RX7) (T := TX7) (N := 10) hx hb hts hin7 hown hK hP 0 rfl rfl 0 (by decide) hw1 (fun _ h9 => h9) rfl dX7_set_26 ?_
        refine va_get (D := (dC, dI)) (ci := 0) (v := .ref ks) (C := RX0) (T := TX0) (N := 12) hx hb hts hin0 hown hK hP 1 rfl rfl 0 (by decide) hw2 (fun _ h9 => h9) rfl dX7_set_29 ?_
        refine lv_iload_n hx hb dX7_set_32 rfl (lv_at hl 1 rfl) ?_
        refine va_iald hx hb hK hP 2 0 rfl rfl (vin (by decide) (by decide)) dX7_set_33 ?_
        refine lv_topi (fun x21 e21 => ?_)
        obtain rfl : x21 = 0 := e21.trans (by first | rfl | decide)
        refine lv_istore_n (lv' := [(3, .int 0), (0, .ref h), (1, .int 3), (2, .int i1)]) hx hb dX7_set_34 rfl hl (by decide) rfl (fun ls hl => ?_)
        refine lv_aload_n hx hb dX7_set_35 rfl (lv_at hl 1 rfl) ?_
        refine va_get (D := (dC, dI)) (ci := 7) (v := .ref k) (C := RX7) (T := TX7) (N := 10) hx hb hts hin7 hown hK hP 0 rfl rfl 0 (by decide) hw1 (fun _ h9 => h9) rfl dX7_set_36 ?_
        refine va_get (D := (dC, dI)) (ci := 0) (v := .ref ks) (C := RX0) (T := TX0) (N := 12) hx hb hts hin0 hown hK hP 1 rfl rfl 0 (by decide) hw2 (fun _ h9 => h9) rfl dX7_set_39 ?_
        refine lv_iload_n hx hb dX7_set_42 rfl (lv_at hl 2 rfl) ?_
        refine lv_iload_n hx hb dX7_set_43 rfl (lv_at hl 3 rfl) ?_
        refine va_iast hx hb hK hP hD hS 2 0 rfl rfl (vin (by decide) (by decide)) dX7_set_44 (fun H locs hP hD hS => ?_)
        replace hP : va_P (dC, dI) vwCl [(h, .inr (7, [.ref k, .ref d, .ref j, .ref o, .ref f, .ref g, .ref wk, .ref im, .ref kt, .ref dl])), (k, .inr (0, [.ref ks, .ref kw, .ref kc, .int (-6), .int 0, .int 0, .ref kq, .ref km, .ref kd, .int 0, .ref ka, .ref kk])), (ks, .inl (cI, 5, .inl (upd (upd (fun _ => 0) 0 800) 3 i1)))] H := hP
        replace hD : va_D A [(h, .inr (7, [.ref k, .ref d, .ref j, .ref o, .ref f, .ref g, .ref wk, .ref im, .ref kt, .ref dl])), (k, .inr (0, [.ref ks, .ref kw, .ref kc, .int (-6), .int 0, .int 0, .ref kq, .ref km, .ref kd, .int 0, .ref ka, .ref kk])), (ks, .inl (cI, 5, .inl (upd (upd (fun _ => 0) 0 800) 3 i1)))] := hD
        refine lv_iload_n hx hb dX7_set_45 rfl (lv_at hl 0 rfl) ?_
        have hP9 := mx_subP (wc := []) hP [] rfl
        have hD9 := hD.sub (ws' := []) [] (by decide) rfl
        exact W.iret (v := 0) hx hb hr (fun t ht hW => ⟨⟨0, (), rfl, (by first | exact Or.inl (⟨rfl, by omega⟩) | exact Or.inr (Or.inl (⟨rfl, by omega⟩)) | exact Or.inr (Or.inr (⟨rfl, by omega⟩))), by rw [ht]; exact hP9, hD9⟩, hS.F ht⟩) hS.2.2 dX7_set_46
      · have hf19 : i1.toInt < (0 : Int) ∨ (1 : Int) < i1.toInt := hf19
        refine lv_if_ne (tgt := 25) hx hb dX7_set_19 (by decide) (fun c22 => absurd c22 (by decide)) (fun c22 => ?_)
        refine lv_bipush (v := (-2)) hx hb dX7_set_22 (by decide) ?_
        have hP9 := mx_subP (wc := []) hP [] rfl
        have hD9 := hD.sub (ws' := []) [] (by decide) rfl
        exact W.iret (v := (-2)) hx hb hr (fun t ht hW => ⟨⟨(-2), (), rfl, (by first | exact Or.inl (⟨rfl, by omega⟩) | exact Or.inr (Or.inl (⟨rfl, by omega⟩)) | exact Or.inr (Or.inr (⟨rfl, by omega⟩))), by rw [ht]; exact hP9, hD9⟩, hS.F ht⟩) hS.2.2 dX7_set_24
    · have z9 : (4 : Int32).toInt = 4 := rfl
      refine lv_iload_n hx hb dX7_set_9 rfl (lv_at hl 2 rfl) ?_
      refine lv_iconst (v := 0) hx hb dX7_set_10 (by decide) ?_
      refine va_gets (v := .ref tS) hx hb hKx.2.2.2.2.2.2.1 hS hown hw0 (fun _ h9 => h9) dX7_set_11 ?_
      refine lv_iload_n hx hb dX7_set_14 rfl (lv_at hl 1 rfl) ?_
      refine va_ti (v := .int (limS (4 : Int32).toNatClampNeg)) hx hb hKx.2.2.2.2.2.2.2.1 hS (vin (by decide) (by decide)) rfl dX7_set_15 ?_
      refine lv_topi (fun x23 e23 => ?_)
      obtain rfl : x23 = 13 := e23.trans (by decide)
      refine mx_i (wr := [(h, .inr (7, [.ref k, .ref d, .ref j, .ref o, .ref f, .ref g, .ref wk, .ref im, .ref kt, .ref dl])), (k, .inr (0, [.ref ks, .ref kw, .ref kc, .int (-6), .int 0, .int 0, .ref kq, .ref km, .ref kd, .int 0, .ref ka, .ref kk])), (ks, .inl (cI, 5, .inl (upd (fun _ => 0) 0 800)))]) (va_runS (As := [.int i1, .int 0, .int 13]) (rest := []) ⟨hx, hb, hml, hown, hts⟩ (c_X7_isIn l dC dI cI cZ cK tS aK aV i1 0 13 H.size) (va_cwS 3 hts (gw_s (fun _ h9 => List.mem_cons_of_mem _ h9) wm_0 wm_1 wm_2 wm_3) rfl rfl rfl (by decide +kernel) ⟨Nat.le_of_ble_eq_true rfl, Nat.le_of_ble_eq_true rfl⟩) (mx_preS hKx hP hD hS hA [] (by decide) rfl) rfl rfl hl.1 rfl (lv_room (Nat.le_of_ble_eq_true rfl)) dX7_set_16 ⟨Nat.le_of_ble_eq_true rfl, Nat.le_of_ble_eq_true rfl⟩) hP hD hS hA [] [0, 1, 2] rfl rfl (by decide) (by decide) (fun r24 u24 H locs hq24 hP hD hS => ?_)
      replace hP : va_P (dC, dI) vwCl [(h, .inr (7, [.ref k, .ref d, .ref j, .ref o, .ref f, .ref g, .ref wk, .ref im, .ref kt, .ref dl])), (k, .inr (0, [.ref ks, .ref kw, .ref kc, .int (-6), .int 0, .int 0, .ref kq, .ref km, .ref kd, .int 0, .ref ka, .ref kk])), (ks, .inl (cI, 5, .inl (upd (fun _ => 0) 0 800)))] H := hP
      replace hD : va_D A [(h, .inr (7, [.ref k, .ref d, .ref j, .ref o, .ref f, .ref g, .ref wk, .ref im, .ref kt, .ref dl])), (k, .inr (0, [.ref ks, .ref kw, .ref kc, .int (-6), .int 0, .int 0, .ref kq, .ref km, .ref kd, .int 0, .ref ka, .ref kk])), (ks, .inl (cI, 5, .inl (upd (fun _ => 0) 0 800)))] := hD
      rcases hq24 with ⟨rfl, hf24⟩ | ⟨rfl, hf24⟩
      · have hf24 : (0 : Int) ≤ i1.toInt ∧ i1.toInt ≤ (13 : Int) := hf24
        refine lv_if_ne (tgt := 25) hx hb dX7_set_19 (by decide) (fun c25 => ?_) (fun c25 => absurd c25 (by decide))
        refine lv_aload_n hx hb dX7_set_25 rfl (lv_at hl 0 rfl) ?_
        refine va_get (D := (dC, dI)) (ci := 7) (v := .ref k) (C := RX7) (T := TX7) (N := 10) hx hb hts hin7 hown hK hP 0 rfl rfl 0 (by decide) hw1 (fun _ h9 => h9) rfl dX7_set_26 ?_
        refine va_get (D := (dC, dI)) (ci := 0) (v := .ref ks) (C := RX0) (T := TX0) (N := 12) hx hb hts hin0 hown hK hP 1 rfl rfl 0 (by decide) hw2 (fun _ h9 => h9) rfl dX7_set_29 ?_
        refine lv_iload_n hx hb dX7_set_32 rfl (lv_at hl 1 rfl) ?_
        refine va_iald hx hb hK hP 2 0 rfl rfl (vin (by decide) (by decide)) dX7_set_33 ?_
        refine lv_topi (fun x26 e26 => ?_)
        obtain rfl : x26 = 0 := e26.trans (by first | rfl | decide)
        refine lv_istore_n (lv' := [(3, .int 0), (0, .ref h), (1, .int 4), (2, .int i1)]) hx hb dX7_set_34 rfl hl (by decide) rfl (fun ls hl => ?_)
        refine lv_aload_n hx hb dX7_set_35 rfl (lv_at hl 1 rfl) ?_
        refine va_get (D := (dC, dI)) (ci := 7) (v := .ref k) (C := RX7) (T := TX7) (N := 10) hx hb hts hin7 hown hK hP 0 rfl rfl 0 (by decide) hw1 (fun _ h9 => h9) rfl dX7_set_36 ?_
        refine va_get (D := (dC, dI)) (ci := 0) (v := .ref ks) (C := RX0) (T := TX0) (N := 12) hx hb hts hin0 hown hK hP 1 rfl rfl 0 (by decide) hw2 (fun _ h9 => h9) rfl dX7_set_39 ?_
        refine lv_iload_n hx hb dX7_set_42 rfl (lv_at hl 2 rfl) ?_
        refine lv_iload_n hx hb dX7_set_43 rfl (lv_at hl 3 rfl) ?_
        refine va_iast hx hb hK hP hD hS 2 0 rfl rfl (vin (by decide) (by decide)) dX7_set_44 (fun H locs hP hD hS => ?_)
        replace hP : va_P (dC, dI) vwCl [(h, .inr (7, [.ref k, .ref d, .ref j, .ref o, .ref f, .ref g, .ref wk, .ref im, .ref kt, .ref dl])), (k, .inr (0, [.ref ks, .ref kw, .ref kc, .int (-6), .int 0, .int 0, .ref kq, .ref km, .ref kd, .int 0, .ref ka, .ref kk])), (ks, .inl (cI, 5, .inl (upd (upd (fun _ => 0) 0 800) 4 i1)))] H := hP
        replace hD : va_D A [(h, .inr (7, [.ref k, .ref d, .ref j, .ref o, .ref f, .ref g, .ref wk, .ref im, .ref kt, .ref dl])), (k, .inr (0, [.ref ks, .ref kw, .ref kc, .int (-6), .int 0, .int 0, .ref kq, .ref km, .ref kd, .int 0, .ref ka, .ref kk])), (ks, .inl (cI, 5, .inl (upd (upd (fun _ => 0) 0 800) 4 i1)))] := hD
        refine lv_iload_n hx hb dX7_set_45 rfl (lv_at hl 0 rfl) ?_
        have hP9 := mx_subP (wc := []) hP [] rfl
        have hD9 := hD.sub (ws' := []) [] (by decide) rfl
        exact W.iret (v := 0) hx hb hr (fun t ht hW => ⟨⟨0, (), rfl, (by first | exact Or.inl (⟨rfl, by omega⟩) | exact Or.inr (Or.inl (⟨rfl, by omega⟩)) | exact Or.inr (Or.inr (⟨rfl, by omega⟩))), by rw [ht]; exact hP9, hD9⟩, hS.F ht⟩) hS.2.2 dX7_set_46
      · have hf24 : i1.toInt < (0 : Int) ∨ (13 : Int) < i1.toInt := hf24
        refine lv_if_ne (tgt := 25) hx hb dX7_set_19 (by decide) (fun c27 => absurd c27 (by decide)) (fun c27 => ?_)
        refine lv_bipush (v := (-2)) hx hb dX7_set_22 (by decide) ?_
        have hP9 := mx_subP (wc := []) hP [] rfl
        have hD9 := hD.sub (ws' := []) [] (by decide) rfl
        exact W.iret (v := (-2)) hx hb hr (fun t ht hW => ⟨⟨(-2), (), rfl, (by first | exact Or.inl (⟨rfl, by omega⟩) | exact Or.inr (Or.inl (⟨rfl, by omega⟩)) | exact Or.inr (Or.inr (⟨rfl, by omega⟩))), by rw [ht]; exact hP9, hD9⟩, hS.F ht⟩) hS.2.2 dX7_set_24
  · have hf1 : i0.toInt < (0 : Int) ∨ (4 : Int) < i0.toInt := hf1
    refine lv_if_eq (tgt := 22) hx hb dX7_set_6 (by decide) (fun c28 => ?_) (fun c28 => absurd c28 (by decide))
    refine lv_bipush (v := (-2)) hx hb dX7_set_22 (by decide) ?_
    have hP9 := mx_subP (wc := []) hP [] rfl
    have hD9 := hD.sub (ws' := []) [] (by decide) rfl
    exact W.iret (v := (-2)) hx hb hr (fun t ht hW => ⟨⟨(-2), (), rfl, (by first | exact Or.inl (⟨rfl, by omega⟩) | exact Or.inr (Or.inl (⟨rfl, by omega⟩)) | exact Or.inr (Or.inr (⟨rfl, by omega⟩))), by rw [ht]; exact hP9, hD9⟩, hS.F ht⟩) hS.2.2 dX7_set_24
set_option maxHeartbeats 4000000 in
set_option maxRecDepth 100000 in
theorem c_J6_bitCount_0f7a4_0 (l : Launch) (dC : Nat → ClassId) (dI : Nat → Nat → Nat) (cI cZ cK : ClassId) (tS aK aV : Nat) (sz : Nat) : Ci l yJ6_bitCount_0f7a4 (wq yJ6_bitCount_0f7a4 cJ6_bitCount_0f7a4 1 (some .int)) ({ frames := 0, cells := 0, slots := 0, locals := 0 }) dC dI cI cZ cK tS aK aV [.int 0] sz [] (fun (r : Int32) (_ : Unit) => r = 0) (fun _ => []) := by
  refine Met.ofW (cc := cJ6_bitCount_0f7a4) (maxL := 1) (ret := (some .int)) (by decide) rfl ?_
  intro p e s m args below meth c s₁ B hml hv
  obtain ⟨rfl, hsz, hP, hKx, hD0⟩ := hv
  have hx := B.exec
  have hb := B.bytes
  have hr := B.returns
  have hts := atoms_spec (ws := wq yJ6_bitCount_0f7a4 cJ6_bitCount_0f7a4 1 (some .int)) B.pre
  have hown : s.vm.findClass RJ6 = some m.cls := findClass_of_methodNamed B.named
  have hlocks := B.notSynchronized
  subst hsz
  have hD := hD0.self (sz := s.heap.size)
  generalize hAe : va_A [] s.heap.size = A at hD hKx ⊢
  have hA : ∀ q : Nat, s.heap.size ≤ q → A q := fun q h => by rw [← hAe]; exact Or.inr h
  have hS : va_S A s.heap s.heap [] := va_S.rf
  have hP : va_P (dC, dI) vwCl [] s.heap := hP
  have hl := lv_entry ([.int 0]) (n := 1) (Nat.le_of_ble_eq_true rfl)
  rw [lg_entry_eq]
  generalize (lg_sl ([.int 0]) ++ List.replicate (1 - (lg_sl ([.int 0])).length) Slot.unset).toArray = ls at hl ⊢
  have hl : lv_has ls 1 [(0, .int 0)] := hl
  have hK := hKx.1
  have hw0 := hts (.constant RJ6 265 1431655765) (List.mem_cons_of_mem _ wm_107)
  have hw1 := hts (.constant RJ6 266 858993459) (List.mem_cons_of_mem _ wm_108)
  have hw2 := hts (.constant RJ6 267 252645135) (List.mem_cons_of_mem _ wm_109)
  refine lv_iload_n hx hb dJ6_bitCount_0f7a4_0 rfl (lv_at hl 0 rfl) ?_
  refine lv_iload_n hx hb dJ6_bitCount_0f7a4_1 rfl (lv_at hl 0 rfl) ?_
  refine lv_iconst (v := 1) hx hb dJ6_bitCount_0f7a4_2 (by decide) ?_
  refine lv_iushr (v := 0) hx hb dJ6_bitCount_0f7a4_3 (by decide) ?_
  refine lv_ldcw (v := 1431655765) hx hb hown hw0 dJ6_bitCount_0f7a4_4 ?_
  refine lv_iand hx hb dJ6_bitCount_0f7a4_7 ?_
  refine lv_topi (fun x1 e1 => ?_)
  obtain rfl : x1 = 0 := e1.trans (by decide)
  refine lv_isub hx hb dJ6_bitCount_0f7a4_8 ?_
  refine lv_topi (fun x2 e2 => ?_)
  obtain rfl : x2 = 0 := e2.trans (by decide)
  refine lv_istore_n (lv' := [(0, .int 0)]) hx hb dJ6_bitCount_0f7a4_9 rfl hl (by decide) rfl (fun ls hl => ?_)
  refine lv_iload_n hx hb dJ6_bitCount_0f7a4_10 rfl (lv_at hl 0 rfl) ?_
  refine lv_ldcw (v := 858993459) hx hb hown hw1 dJ6_bitCount_0f7a4_11 ?_
  refine lv_iand hx hb dJ6_bitCount_0f7a4_14 ?_
  refine lv_topi (fun x3 e3 => ?_)
  obtain rfl : x3 = 0 := e3.trans (by decide)
  refine lv_iload_n hx hb dJ6_bitCount_0f7a4_15 rfl (lv_at hl 0 rfl) ?_
  refine lv_iconst (v := 2) hx hb dJ6_bitCount_0f7a4_16 (by decide) ?_
  refine lv_iushr (v := 0) hx hb dJ6_bitCount_0f7a4_17 (by decide) ?_
  refine lv_ldcw (v := 858993459) hx hb hown hw1 dJ6_bitCount_0f7a4_18 ?_
  refine lv_iand hx hb dJ6_bitCount_0f7a4_21 ?_
  refine lv_topi (fun x4 e4 => ?_)
  obtain rfl : x4 = 0 := e4.trans (by decide)
  refine lv_iadd hx hb dJ6_bitCount_0f7a4_22 ?_
  refine lv_topi (fun x5 e5 => ?_)
  obtain rfl : x5 = 0 := e5.trans (by decide)
  refine lv_istore_n (lv' := [(0, .int 0)]) hx hb dJ6_bitCount_0f7a4_23 rfl hl (by decide) rfl (fun ls hl => ?_)
  refine lv_iload_n hx hb dJ6_bitCount_0f7a4_24 rfl (lv_at hl 0 rfl) ?_
  refine lv_iload_n hx hb dJ6_bitCount_0f7a4_25 rfl (lv_at hl 0 rfl) ?_
  refine lv_iconst (v := 4) hx hb dJ6_bitCount_0f7a4_26 (by decide) ?_
  refine lv_iushr (v := 0) hx hb dJ6_bitCount_0f7a4_27 (by decide) ?_
  refine lv_iadd hx hb dJ6_bitCount_0f7a4_28 ?_
  refine lv_topi (fun x6 e6 => ?_)
  obtain rfl : x6 = 0 := e6.trans (by decide)
  refine lv_ldcw (v := 252645135) hx hb hown hw2 dJ6_bitCount_0f7a4_29 ?_
  refine lv_iand hx hb dJ6_bitCount_0f7a4_32 ?_
  refine lv_topi (fun x7 e7 => ?_)
  obtain rfl : x7 = 0 := e7.trans (by decide)
  refine lv_istore_n (lv' := [(0, .int 0)]) hx hb dJ6_bitCount_0f7a4_33 rfl hl (by decide) rfl (fun ls hl => ?_)
  refine lv_iload_n hx hb dJ6_bitCount_0f7a4_34 rfl (lv_at hl 0 rfl) ?_
  refine lv_iload_n hx hb dJ6_bitCount_0f7a4_35 rfl (lv_at hl 0 rfl) ?_
  refine lv_bipush (v := 8) hx hb dJ6_bitCount_0f7a4_36 (by decide) ?_
  refine lv_iushr (v := 0) hx hb dJ6_bitCount_0f7a4_38 (by decide) ?_
  refine lv_iadd hx hb dJ6_bitCount_0f7a4_39 ?_
  refine lv_topi (fun x8 e8 => ?_)
  obtain rfl : x8 = 0 := e8.trans (by decide)
  refine lv_istore_n (lv' := [(0, .int 0)]) hx hb dJ6_bitCount_0f7a4_40 rfl hl (by decide) rfl (fun ls hl => ?_)
  refine lv_iload_n hx hb dJ6_bitCount_0f7a4_41 rfl (lv_at hl 0 rfl) ?_
  refine lv_iload_n hx hb dJ6_bitCount_0f7a4_42 rfl (lv_at hl 0 rfl) ?_
  refine lv_bipush (v := 16) hx hb dJ6_bitCount_0f7a4_43 (by decide) ?_
  refine lv_iushr (v := 0) hx hb dJ6_bitCount_0f7a4_45 (by decide) ?_
  refine lv_iadd hx hb dJ6_bitCount_0f7a4_46 ?_
  refine lv_topi (fun x9 e9 => ?_)
  obtain rfl : x9 = 0 := e9.trans (by decide)
  refine lv_istore_n (lv' := [(0, .int 0)]) hx hb dJ6_bitCount_0f7a4_47 rfl hl (by decide) rfl (fun ls hl => ?_)
  refine lv_iload_n hx hb dJ6_bitCount_0f7a4_48 rfl (lv_at hl 0 rfl) ?_
  refine lv_bipush (v := 63) hx hb dJ6_bitCount_0f7a4_49 (by decide) ?_
  refine lv_iand hx hb dJ6_bitCount_0f7a4_51 ?_
  refine lv_topi (fun x10 e10 => ?_)
  obtain rfl : x10 = 0 := e10.trans (by decide)
  have hP9 := mx_subP (wc := []) hP [] rfl
  have hD9 := hD.sub (ws' := []) [] (by decide) rfl
  exact W.iret (v := 0) hx hb hr (fun t ht hW => ⟨⟨0, (), rfl, rfl, by rw [ht]; exact hP9, hD9⟩, hS.F ht⟩) hS.2.2 dJ6_bitCount_0f7a4_52
set_option maxHeartbeats 4000000 in
set_option maxRecDepth 100000 in
theorem c_J6_bitCount_0f7a4_1 (l : Launch) (dC : Nat → ClassId) (dI : Nat → Nat → Nat) (cI cZ cK : ClassId) (tS aK aV : Nat) (sz : Nat) : Ci l yJ6_bitCount_0f7a4 (wq yJ6_bitCount_0f7a4 cJ6_bitCount_0f7a4 1 (some .int)) ({ frames := 0, cells := 0, slots := 0, locals := 0 }) dC dI cI cZ cK tS aK aV [.int 1] sz [] (fun (r : Int32) (_ : Unit) => r = 1) (fun _ => []) := by
  refine Met.ofW (cc := cJ6_bitCount_0f7a4) (maxL := 1) (ret := (some .int)) (by decide) rfl ?_
  intro p e s m args below meth c s₁ B hml hv
  obtain ⟨rfl, hsz, hP, hKx, hD0⟩ := hv
  have hx := B.exec
  have hb := B.bytes
  have hr := B.returns
  have hts := atoms_spec (ws := wq yJ6_bitCount_0f7a4 cJ6_bitCount_0f7a4 1 (some .int)) B.pre
  have hown : s.vm.findClass RJ6 = some m.cls := findClass_of_methodNamed B.named
  have hlocks := B.notSynchronized
  subst hsz
  have hD := hD0.self (sz := s.heap.size)
  generalize hAe : va_A [] s.heap.size = A at hD hKx ⊢
  have hA : ∀ q : Nat, s.heap.size ≤ q → A q := fun q h => by rw [← hAe]; exact Or.inr h
  have hS : va_S A s.heap s.heap [] := va_S.rf
  have hP : va_P (dC, dI) vwCl [] s.heap := hP
  have hl := lv_entry ([.int 1]) (n := 1) (Nat.le_of_ble_eq_true rfl)
  rw [lg_entry_eq]
  generalize (lg_sl ([.int 1]) ++ List.replicate (1 - (lg_sl ([.int 1])).length) Slot.unset).toArray = ls at hl ⊢
  have hl : lv_has ls 1 [(0, .int 1)] := hl
  have hK := hKx.1
  have hw0 := hts (.constant RJ6 265 1431655765) (List.mem_cons_of_mem _ wm_107)
  have hw1 := hts (.constant RJ6 266 858993459) (List.mem_cons_of_mem _ wm_108)
  have hw2 := hts (.constant RJ6 267 252645135) (List.mem_cons_of_mem _ wm_109)
  refine lv_iload_n hx hb dJ6_bitCount_0f7a4_0 rfl (lv_at hl 0 rfl) ?_
  refine lv_iload_n hx hb dJ6_bitCount_0f7a4_1 rfl (lv_at hl 0 rfl) ?_
  refine lv_iconst (v := 1) hx hb dJ6_bitCount_0f7a4_2 (by decide) ?_
  refine lv_iushr (v := 0) hx hb dJ6_bitCount_0f7a4_3 (by decide) ?_
  refine lv_ldcw (v := 1431655765) hx hb hown hw0 dJ6_bitCount_0f7a4_4 ?_
  refine lv_iand hx hb dJ6_bitCount_0f7a4_7 ?_
  refine lv_topi (fun x1 e1 => ?_)
  obtain rfl : x1 = 0 := e1.trans (by decide)
  refine lv_isub hx hb dJ6_bitCount_0f7a4_8 ?_
  refine lv_topi (fun x2 e2 => ?_)
  obtain rfl : x2 = 1 := e2.trans (by decide)
  refine lv_istore_n (lv' := [(0, .int 1)]) hx hb dJ6_bitCount_0f7a4_9 rfl hl (by decide) rfl (fun ls hl => ?_)
  refine lv_iload_n hx hb dJ6_bitCount_0f7a4_10 rfl (lv_at hl 0 rfl) ?_
  refine lv_ldcw (v := 858993459) hx hb hown hw1 dJ6_bitCount_0f7a4_11 ?_
  refine lv_iand hx hb dJ6_bitCount_0f7a4_14 ?_
  refine lv_topi (fun x3 e3 => ?_)
  obtain rfl : x3 = 1 := e3.trans (by decide)
  refine lv_iload_n hx hb dJ6_bitCount_0f7a4_15 rfl (lv_at hl 0 rfl) ?_
  refine lv_iconst (v := 2) hx hb dJ6_bitCount_0f7a4_16 (by decide) ?_
  refine lv_iushr (v := 0) hx hb dJ6_bitCount_0f7a4_17 (by decide) ?_
  refine lv_ldcw (v := 858993459) hx hb hown hw1 dJ6_bitCount_0f7a4_18 ?_
  refine lv_iand hx hb dJ6_bitCount_0f7a4_21 ?_
  refine lv_topi (fun x4 e4 => ?_)
  obtain rfl : x4 = 0 := e4.trans (by decide)
  refine lv_iadd hx hb dJ6_bitCount_0f7a4_22 ?_
  refine lv_topi (fun x5 e5 => ?_)
  obtain rfl : x5 = 1 := e5.trans (by decide)
  refine lv_istore_n (lv' := [(0, .int 1)]) hx hb dJ6_bitCount_0f7a4_23 rfl hl (by decide) rfl (fun ls hl => ?_)
  refine lv_iload_n hx hb dJ6_bitCount_0f7a4_24 rfl (lv_at hl 0 rfl) ?_
  refine lv_iload_n hx hb dJ6_bitCount_0f7a4_25 rfl (lv_at hl 0 rfl) ?_
  refine lv_iconst (v := 4) hx hb dJ6_bitCount_0f7a4_26 (by decide) ?_
  refine lv_iushr (v := 0) hx hb dJ6_bitCount_0f7a4_27 (by decide) ?_
  refine lv_iadd hx hb dJ6_bitCount_0f7a4_28 ?_
  refine lv_topi (fun x6 e6 => ?_)
  obtain rfl : x6 = 1 := e6.trans (by decide)
  refine lv_ldcw (v := 252645135) hx hb hown hw2 dJ6_bitCount_0f7a4_29 ?_
  refine lv_iand hx hb dJ6_bitCount_0f7a4_32 ?_
  refine lv_topi (fun x7 e7 => ?_)
  obtain rfl : x7 = 1 := e7.trans (by decide)
  refine lv_istore_n (lv' := [(0, .int 1)]) hx hb dJ6_bitCount_0f7a4_33 rfl hl (by decide) rfl (fun ls hl => ?_)
  refine lv_iload_n hx hb dJ6_bitCount_0f7a4_34 rfl (lv_at hl 0 rfl) ?_
  refine lv_iload_n hx hb dJ6_bitCount_0f7a4_35 rfl (lv_at hl 0 rfl) ?_
  refine lv_bipush (v := 8) hx hb dJ6_bitCount_0f7a4_36 (by decide) ?_
  refine lv_iushr (v := 0) hx hb dJ6_bitCount_0f7a4_38 (by decide) ?_
  refine lv_iadd hx hb dJ6_bitCount_0f7a4_39 ?_
  refine lv_topi (fun x8 e8 => ?_)
  obtain rfl : x8 = 1 := e8.trans (by decide)
  refine lv_istore_n (lv' := [(0, .int 1)]) hx hb dJ6_bitCount_0f7a4_40 rfl hl (by decide) rfl (fun ls hl => ?_)
  refine lv_iload_n hx hb dJ6_bitCount_0f7a4_41 rfl (lv_at hl 0 rfl) ?_
  refine lv_iload_n hx hb dJ6_bitCount_0f7a4_42 rfl (lv_at hl 0 rfl) ?_
  refine lv_bipush (v := 16) hx hb dJ6_bitCount_0f7a4_43 (by decide) ?_
  refine lv_iushr (v := 0) hx hb dJ6_bitCount_0f7a4_45 (by decide) ?_
  refine lv_iadd hx hb dJ6_bitCount_0f7a4_46 ?_
  refine lv_topi (fun x9 e9 => ?_)
  obtain rfl : x9 = 1 := e9.trans (by decide)
  refine lv_istore_n (lv' := [(0, .int 1)]) hx hb dJ6_bitCount_0f7a4_47 rfl hl (by decide) rfl (fun ls hl => ?_)
  refine lv_iload_n hx hb dJ6_bitCount_0f7a4_48 rfl (lv_at hl 0 rfl) ?_
  refine lv_bipush (v := 63) hx hb dJ6_bitCount_0f7a4_49 (by decide) ?_
  refine lv_iand hx hb dJ6_bitCount_0f7a4_51 ?_
  refine lv_topi (fun x10 e10 => ?_)
  obtain rfl : x10 = 1 := e10.trans (by decide)
  have hP9 := mx_subP (wc := []) hP [] rfl
  have hD9 := hD.sub (ws' := []) [] (by decide) rfl
  exact W.iret (v := 1) hx hb hr (fun t ht hW => ⟨⟨1, (), rfl, rfl, by rw [ht]; exact hP9, hD9⟩, hS.F ht⟩) hS.2.2 dJ6_bitCount_0f7a4_52
set_option maxHeartbeats 4000000 in
set_option maxRecDepth 100000 in
theorem c_J6_bitCount_0f7a4_2 (l : Launch) (dC : Nat → ClassId) (dI : Nat → Nat → Nat) (cI cZ cK : ClassId) (tS aK aV : Nat) (sz : Nat) : Ci l yJ6_bitCount_0f7a4 (wq yJ6_bitCount_0f7a4 cJ6_bitCount_0f7a4 1 (some .int)) ({ frames := 0, cells := 0, slots := 0, locals := 0 }) dC dI cI cZ cK tS aK aV [.int 2] sz [] (fun (r : Int32) (_ : Unit) => r = 1) (fun _ => []) := by
  refine Met.ofW (cc := cJ6_bitCount_0f7a4) (maxL := 1) (ret := (some .int)) (by decide) rfl ?_
  intro p e s m args below meth c s₁ B hml hv
  obtain ⟨rfl, hsz, hP, hKx, hD0⟩ := hv
  have hx := B.exec
  have hb := B.bytes
  have hr := B.returns
  have hts := atoms_spec (ws := wq yJ6_bitCount_0f7a4 cJ6_bitCount_0f7a4 1 (some .int)) B.pre
  have hown : s.vm.findClass RJ6 = some m.cls := findClass_of_methodNamed B.named
  have hlocks := B.notSynchronized
  subst hsz
  have hD := hD0.self (sz := s.heap.size)
  generalize hAe : va_A [] s.heap.size = A at hD hKx ⊢
  have hA : ∀ q : Nat, s.heap.size ≤ q → A q := fun q h => by rw [← hAe]; exact Or.inr h
  have hS : va_S A s.heap s.heap [] := va_S.rf
  have hP : va_P (dC, dI) vwCl [] s.heap := hP
  have hl := lv_entry ([.int 2]) (n := 1) (Nat.le_of_ble_eq_true rfl)
  rw [lg_entry_eq]
  generalize (lg_sl ([.int 2]) ++ List.replicate (1 - (lg_sl ([.int 2])).length) Slot.unset).toArray = ls at hl ⊢
  have hl : lv_has ls 1 [(0, .int 2)] := hl
  have hK := hKx.1
  have hw0 := hts (.constant RJ6 265 1431655765) (List.mem_cons_of_mem _ wm_107)
  have hw1 := hts (.constant RJ6 266 858993459) (List.mem_cons_of_mem _ wm_108)
  have hw2 := hts (.constant RJ6 267 252645135) (List.mem_cons_of_mem _ wm_109)
  refine lv_iload_n hx hb dJ6_bitCount_0f7a4_0 rfl (lv_at hl 0 rfl) ?_
  refine lv_iload_n hx hb dJ6_bitCount_0f7a4_1 rfl (lv_at hl 0 rfl) ?_
  refine lv_iconst (v := 1) hx hb dJ6_bitCount_0f7a4_2 (by decide) ?_
  refine lv_iushr (v := 1) hx hb dJ6_bitCount_0f7a4_3 (by decide) ?_
  refine lv_ldcw (v := 1431655765) hx hb hown hw0 dJ6_bitCount_0f7a4_4 ?_
  refine lv_iand hx hb dJ6_bitCount_0f7a4_7 ?_
  refine lv_topi (fun x1 e1 => ?_)
  obtain rfl : x1 = 1 := e1.trans (by decide)
  refine lv_isub hx hb dJ6_bitCount_0f7a4_8 ?_
  refine lv_topi (fun x2 e2 => ?_)
  obtain rfl : x2 = 1 := e2.trans (by decide)
  refine lv_istore_n (lv' := [(0, .int 1)]) hx hb dJ6_bitCount_0f7a4_9 rfl hl (by decide) rfl (fun ls hl => ?_)
  refine lv_iload_n hx hb dJ6_bitCount_0f7a4_10 rfl (lv_at hl 0 rfl) ?_
  refine lv_ldcw (v := 858993459) hx hb hown hw1 dJ6_bitCount_0f7a4_11 ?_
  refine lv_iand hx hb dJ6_bitCount_0f7a4_14 ?_
  refine lv_topi (fun x3 e3 => ?_)
  obtain rfl : x3 = 1 := e3.trans (by decide)
  refine lv_iload_n hx hb dJ6_bitCount_0f7a4_15 rfl (lv_at hl 0 rfl) ?_
  refine lv_iconst (v := 2) hx hb dJ6_bitCount_0f7a4_16 (by decide) ?_
  refine lv_iushr (v := 0) hx hb dJ6_bitCount_0f7a4_17 (by decide) ?_
  refine lv_ldcw (v := 858993459) hx hb hown hw1 dJ6_bitCount_0f7a4_18 ?_
  refine lv_iand hx hb dJ6_bitCount_0f7a4_21 ?_
  refine lv_topi (fun x4 e4 => ?_)
  obtain rfl : x4 = 0 := e4.trans (by decide)
  refine lv_iadd hx hb dJ6_bitCount_0f7a4_22 ?_
  refine lv_topi (fun x5 e5 => ?_)
  obtain rfl : x5 = 1 := e5.trans (by decide)
  refine lv_istore_n (lv' := [(0, .int 1)]) hx hb dJ6_bitCount_0f7a4_23 rfl hl (by decide) rfl (fun ls hl => ?_)
  refine lv_iload_n hx hb dJ6_bitCount_0f7a4_24 rfl (lv_at hl 0 rfl) ?_
  refine lv_iload_n hx hb dJ6_bitCount_0f7a4_25 rfl (lv_at hl 0 rfl) ?_
  refine lv_iconst (v := 4) hx hb dJ6_bitCount_0f7a4_26 (by decide) ?_
  refine lv_iushr (v := 0) hx hb dJ6_bitCount_0f7a4_27 (by decide) ?_
  refine lv_iadd hx hb dJ6_bitCount_0f7a4_28 ?_
  refine lv_topi (fun x6 e6 => ?_)
  obtain rfl : x6 = 1 := e6.trans (by decide)
  refine lv_ldcw (v := 252645135) hx hb hown hw2 dJ6_bitCount_0f7a4_29 ?_
  refine lv_iand hx hb dJ6_bitCount_0f7a4_32 ?_
  refine lv_topi (fun x7 e7 => ?_)
  obtain rfl : x7 = 1 := e7.trans (by decide)
  refine lv_istore_n (lv' := [(0, .int 1)]) hx hb dJ6_bitCount_0f7a4_33 rfl hl (by decide) rfl (fun ls hl => ?_)
  refine lv_iload_n hx hb dJ6_bitCount_0f7a4_34 rfl (lv_at hl 0 rfl) ?_
  refine lv_iload_n hx hb dJ6_bitCount_0f7a4_35 rfl (lv_at hl 0 rfl) ?_
  refine lv_bipush (v := 8) hx hb dJ6_bitCount_0f7a4_36 (by decide) ?_
  refine lv_iushr (v := 0) hx hb dJ6_bitCount_0f7a4_38 (by decide) ?_
  refine lv_iadd hx hb dJ6_bitCount_0f7a4_39 ?_
  refine lv_topi (fun x8 e8 => ?_)
  obtain rfl : x8 = 1 := e8.trans (by decide)
  refine lv_istore_n (lv' := [(0, .int 1)]) hx hb dJ6_bitCount_0f7a4_40 rfl hl (by decide) rfl (fun ls hl => ?_)
  refine lv_iload_n hx hb dJ6_bitCount_0f7a4_41 rfl (lv_at hl 0 rfl) ?_
  refine lv_iload_n hx hb dJ6_bitCount_0f7a4_42 rfl (lv_at hl 0 rfl) ?_
  refine lv_bipush (v := 16) hx hb dJ6_bitCount_0f7a4_43 (by decide) ?_
  refine lv_iushr (v := 0) hx hb dJ6_bitCount_0f7a4_45 (by decide) ?_
  refine lv_iadd hx hb dJ6_bitCount_0f7a4_46 ?_
  refine lv_topi (fun x9 e9 => ?_)
  obtain rfl : x9 = 1 := e9.trans (by decide)
  refine lv_istore_n (lv' := [(0, .int 1)]) hx hb dJ6_bitCount_0f7a4_47 rfl hl (by decide) rfl (fun ls hl => ?_)
  refine lv_iload_n hx hb dJ6_bitCount_0f7a4_48 rfl (lv_at hl 0 rfl) ?_
  refine lv_bipush (v := 63) hx hb dJ6_bitCount_0f7a4_49 (by decide) ?_
  refine lv_iand hx hb dJ6_bitCount_0f7a4_51 ?_
  refine lv_topi (fun x10 e10 => ?_)
  obtain rfl : x10 = 1 := e10.trans (by decide)
  have hP9 := mx_subP (wc := []) hP [] rfl
  have hD9 := hD.sub (ws' := []) [] (by decide) rfl
  exact W.iret (v := 1) hx hb hr (fun t ht hW => ⟨⟨1, (), rfl, rfl, by rw [ht]; exact hP9, hD9⟩, hS.F ht⟩) hS.2.2 dJ6_bitCount_0f7a4_52
set_option maxHeartbeats 4000000 in
set_option maxRecDepth 100000 in
theorem c_J6_bitCount_0f7a4_4 (l : Launch) (dC : Nat → ClassId) (dI : Nat → Nat → Nat) (cI cZ cK : ClassId) (tS aK aV : Nat) (sz : Nat) : Ci l yJ6_bitCount_0f7a4 (wq yJ6_bitCount_0f7a4 cJ6_bitCount_0f7a4 1 (some .int)) ({ frames := 0, cells := 0, slots := 0, locals := 0 }) dC dI cI cZ cK tS aK aV [.int 4] sz [] (fun (r : Int32) (_ : Unit) => r = 1) (fun _ => []) := by
  refine Met.ofW (cc := cJ6_bitCount_0f7a4) (maxL := 1) (ret := (some .int)) (by decide) rfl ?_
  intro p e s m args below meth c s₁ B hml hv
  obtain ⟨rfl, hsz, hP, hKx, hD0⟩ := hv
  have hx := B.exec
  have hb := B.bytes
  have hr := B.returns
  have hts := atoms_spec (ws := wq yJ6_bitCount_0f7a4 cJ6_bitCount_0f7a4 1 (some .int)) B.pre
  have hown : s.vm.findClass RJ6 = some m.cls := findClass_of_methodNamed B.named
  have hlocks := B.notSynchronized
  subst hsz
  have hD := hD0.self (sz := s.heap.size)
  generalize hAe : va_A [] s.heap.size = A at hD hKx ⊢
  have hA : ∀ q : Nat, s.heap.size ≤ q → A q := fun q h => by rw [← hAe]; exact Or.inr h
  have hS : va_S A s.heap s.heap [] := va_S.rf
  have hP : va_P (dC, dI) vwCl [] s.heap := hP
  have hl := lv_entry ([.int 4]) (n := 1) (Nat.le_of_ble_eq_true rfl)
  rw [lg_entry_eq]
  generalize (lg_sl ([.int 4]) ++ List.replicate (1 - (lg_sl ([.int 4])).length) Slot.unset).toArray = ls at hl ⊢
  have hl : lv_has ls 1 [(0, .int 4)] := hl
  have hK := hKx.1
  have hw0 := hts (.constant RJ6 265 1431655765) (List.mem_cons_of_mem _ wm_107)
  have hw1 := hts (.constant RJ6 266 858993459) (List.mem_cons_of_mem _ wm_108)
  have hw2 := hts (.constant RJ6 267 252645135) (List.mem_cons_of_mem _ wm_109)
  refine lv_iload_n hx hb dJ6_bitCount_0f7a4_0 rfl (lv_at hl 0 rfl) ?_
  refine lv_iload_n hx hb dJ6_bitCount_0f7a4_1 rfl (lv_at hl 0 rfl) ?_
  refine lv_iconst (v := 1) hx hb dJ6_bitCount_0f7a4_2 (by decide) ?_
  refine lv_iushr (v := 2) hx hb dJ6_bitCount_0f7a4_3 (by decide) ?_
  refine lv_ldcw (v := 1431655765) hx hb hown hw0 dJ6_bitCount_0f7a4_4 ?_
  refine lv_iand hx hb dJ6_bitCount_0f7a4_7 ?_
  refine lv_topi (fun x1 e1 => ?_)
  obtain rfl : x1 = 0 := e1.trans (by decide)
  refine lv_isub hx hb dJ6_bitCount_0f7a4_8 ?_
  refine lv_topi (fun x2 e2 => ?_)
  obtain rfl : x2 = 4 := e2.trans (by decide)
  refine lv_istore_n (lv' := [(0, .int 4)]) hx hb dJ6_bitCount_0f7a4_9 rfl hl (by decide) rfl (fun ls hl => ?_)
  refine lv_iload_n hx hb dJ6_bitCount_0f7a4_10 rfl (lv_at hl 0 rfl) ?_
  refine lv_ldcw (v := 858993459) hx hb hown hw1 dJ6_bitCount_0f7a4_11 ?_
  refine lv_iand hx hb dJ6_bitCount_0f7a4_14 ?_
  refine lv_topi (fun x3 e3 => ?_)
  obtain rfl : x3 = 0 := e3.trans (by decide)
  refine lv_iload_n hx hb dJ6_bitCount_0f7a4_15 rfl (lv_at hl 0 rfl) ?_
  refine lv_iconst (v := 2) hx hb dJ6_bitCount_0f7a4_16 (by decide) ?_
  refine lv_iushr (v := 1) hx hb dJ6_bitCount_0f7a4_17 (by decide) ?_
  refine lv_ldcw (v := 858993459) hx hb hown hw1 dJ6_bitCount_0f7a4_18 ?_
  refine lv_iand hx hb dJ6_bitCount_0f7a4_21 ?_
  refine lv_topi (fun x4 e4 => ?_)
  obtain rfl : x4 = 1 := e4.trans (by decide)
  refine lv_iadd hx hb dJ6_bitCount_0f7a4_22 ?_
  refine lv_topi (fun x5 e5 => ?_)
  obtain rfl : x5 = 1 := e5.trans (by decide)
  refine lv_istore_n (lv' := [(0, .int 1)]) hx hb dJ6_bitCount_0f7a4_23 rfl hl (by decide) rfl (fun ls hl => ?_)
  refine lv_iload_n hx hb dJ6_bitCount_0f7a4_24 rfl (lv_at hl 0 rfl) ?_
  refine lv_iload_n hx hb dJ6_bitCount_0f7a4_25 rfl (lv_at hl 0 rfl) ?_
  refine lv_iconst (v := 4) hx hb dJ6_bitCount_0f7a4_26 (by decide) ?_
  refine lv_iushr (v := 0) hx hb dJ6_bitCount_0f7a4_27 (by decide) ?_
  refine lv_iadd hx hb dJ6_bitCount_0f7a4_28 ?_
  refine lv_topi (fun x6 e6 => ?_)
  obtain rfl : x6 = 1 := e6.trans (by decide)
  refine lv_ldcw (v := 252645135) hx hb hown hw2 dJ6_bitCount_0f7a4_29 ?_
  refine lv_iand hx hb dJ6_bitCount_0f7a4_32 ?_
  refine lv_topi (fun x7 e7 => ?_)
  obtain rfl : x7 = 1 := e7.trans (by decide)
  refine lv_istore_n (lv' := [(0, .int 1)]) hx hb dJ6_bitCount_0f7a4_33 rfl hl (by decide) rfl (fun ls hl => ?_)
  refine lv_iload_n hx hb dJ6_bitCount_0f7a4_34 rfl (lv_at hl 0 rfl) ?_
  refine lv_iload_n hx hb dJ6_bitCount_0f7a4_35 rfl (lv_at hl 0 rfl) ?_
  refine lv_bipush (v := 8) hx hb dJ6_bitCount_0f7a4_36 (by decide) ?_
  refine lv_iushr (v := 0) hx hb dJ6_bitCount_0f7a4_38 (by decide) ?_
  refine lv_iadd hx hb dJ6_bitCount_0f7a4_39 ?_
  refine lv_topi (fun x8 e8 => ?_)
  obtain rfl : x8 = 1 := e8.trans (by decide)
  refine lv_istore_n (lv' := [(0, .int 1)]) hx hb dJ6_bitCount_0f7a4_40 rfl hl (by decide) rfl (fun ls hl => ?_)
  refine lv_iload_n hx hb dJ6_bitCount_0f7a4_41 rfl (lv_at hl 0 rfl) ?_
  refine lv_iload_n hx hb dJ6_bitCount_0f7a4_42 rfl (lv_at hl 0 rfl) ?_
  refine lv_bipush (v := 16) hx hb dJ6_bitCount_0f7a4_43 (by decide) ?_
  refine lv_iushr (v := 0) hx hb dJ6_bitCount_0f7a4_45 (by decide) ?_
  refine lv_iadd hx hb dJ6_bitCount_0f7a4_46 ?_
  refine lv_topi (fun x9 e9 => ?_)
  obtain rfl : x9 = 1 := e9.trans (by decide)
  refine lv_istore_n (lv' := [(0, .int 1)]) hx hb dJ6_bitCount_0f7a4_47 rfl hl (by decide) rfl (fun ls hl => ?_)
  refine lv_iload_n hx hb dJ6_bitCount_0f7a4_48 rfl (lv_at hl 0 rfl) ?_
  refine lv_bipush (v := 63) hx hb dJ6_bitCount_0f7a4_49 (by decide) ?_
  refine lv_iand hx hb dJ6_bitCount_0f7a4_51 ?_
  refine lv_topi (fun x10 e10 => ?_)
  obtain rfl : x10 = 1 := e10.trans (by decide)
  have hP9 := mx_subP (wc := []) hP [] rfl
  have hD9 := hD.sub (ws' := []) [] (by decide) rfl
  exact W.iret (v := 1) hx hb hr (fun t ht hW => ⟨⟨1, (), rfl, rfl, by rw [ht]; exact hP9, hD9⟩, hS.F ht⟩) hS.2.2 dJ6_bitCount_0f7a4_52
