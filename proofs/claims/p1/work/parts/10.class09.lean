set_option maxHeartbeats 4000000 in
set_option maxRecDepth 100000 in
theorem c_X7_least0 (l : Launch) (dC : Nat → ClassId) (dI : Nat → Nat → Nat) (cI cZ cK : ClassId) (tS aK aV : Nat) (h : Nat) (o : Nat) (f : Nat) (g : Nat) (wk : Nat) (im : Nat) (kt : Nat) (dl : Nat) (j : Nat) (k : Nat) (ks : Nat) (kw : Nat) (kc : Nat) (kq : Nat) (km : Nat) (kd : Nat) (ka : Nat) (kk : Nat) (d : Nat) (op : Nat) (oq : Nat) (ov : Nat) (os : Nat) (i1 : Int32) (sz : Nat) : Ci l yX7_least (wq yX7_least cX7_least 4 (some .int)) ({ frames := 4, cells := 0, slots := 0, locals := 92 }) dC dI cI cZ cK tS aK aV [.ref h, .int 0, .int i1] sz [(h, .inr (7, [.ref k, .ref d, .ref j, .ref o, .ref f, .ref g, .ref wk, .ref im, .ref kt, .ref dl])), (o, .inr (3, [.ref k, .ref op, .int 0, .ref oq, .ref ov, .ref os])), (op, .inl (cI, 6, .inl (fun _ => 0))), (os, .inl (cI, 5, .inl (fun _ => 0))), (k, .inr (0, [.ref ks, .ref kw, .ref kc, .int (-6), .int 0, .int 0, .ref kq, .ref km, .ref kd, .int 0, .ref ka, .ref kk])), (ks, .inl (cI, 5, .inl (upd (fun _ => 0) 0 800))), (kw, .inl (cI, 14, .inl (fun _ => 0))), (kq, .inl (cI, 6, .inl (fun _ => 0))), (km, .inl (cI, 6, .inl (fun _ => 0)))] (fun (r : Int32) (_ : Unit) => (r = 0 ∧ (0 ≤ i1.toInt ∧ i1.toInt ≤ 13)) ∨ (r = (-1) ∧ (i1.toInt < 0 ∨ 13 < i1.toInt))) (fun _ => []) := by
  refine Met.ofW (cc := cX7_least) (maxL := 4) (ret := (some .int)) (by decide) rfl ?_
  intro p e s m args below meth c s₁ B hml hv
  obtain ⟨rfl, hsz, hP, hKx, hD0⟩ := hv
  have hx := B.exec
  have hb := B.bytes
  have hr := B.returns
  have hts := atoms_spec (ws := wq yX7_least cX7_least 4 (some .int)) B.pre
  have hown : s.vm.findClass RX7 = some m.cls := findClass_of_methodNamed B.named
  have hlocks := B.notSynchronized
  subst hsz
  have hD := hD0.self (sz := s.heap.size)
  generalize hAe : va_A [(h, .inr (7, [.ref k, .ref d, .ref j, .ref o, .ref f, .ref g, .ref wk, .ref im, .ref kt, .ref dl])), (o, .inr (3, [.ref k, .ref op, .int 0, .ref oq, .ref ov, .ref os])), (op, .inl (cI, 6, .inl (fun _ => 0))), (os, .inl (cI, 5, .inl (fun _ => 0))), (k, .inr (0, [.ref ks, .ref kw, .ref kc, .int (-6), .int 0, .int 0, .ref kq, .ref km, .ref kd, .int 0, .ref ka, .ref kk])), (ks, .inl (cI, 5, .inl (upd (fun _ => 0) 0 800))), (kw, .inl (cI, 14, .inl (fun _ => 0))), (kq, .inl (cI, 6, .inl (fun _ => 0))), (km, .inl (cI, 6, .inl (fun _ => 0)))] s.heap.size = A at hD hKx ⊢
  have hA : ∀ q : Nat, s.heap.size ≤ q → A q := fun q h => by rw [← hAe]; exact Or.inr h
  have hS : va_S A s.heap s.heap [] := va_S.rf
  have hP : va_P (dC, dI) vwCl [(h, .inr (7, [.ref k, .ref d, .ref j, .ref o, .ref f, .ref g, .ref wk, .ref im, .ref kt, .ref dl])), (o, .inr (3, [.ref k, .ref op, .int 0, .ref oq, .ref ov, .ref os])), (op, .inl (cI, 6, .inl (fun _ => 0))), (os, .inl (cI, 5, .inl (fun _ => 0))), (k, .inr (0, [.ref ks, .ref kw, .ref kc, .int (-6), .int 0, .int 0, .ref kq, .ref km, .ref kd, .int 0, .ref ka, .ref kk])), (ks, .inl (cI, 5, .inl (upd (fun _ => 0) 0 800))), (kw, .inl (cI, 14, .inl (fun _ => 0))), (kq, .inl (cI, 6, .inl (fun _ => 0))), (km, .inl (cI, 6, .inl (fun _ => 0)))] s.heap := hP
  have hl := lv_entry ([.ref h, .int 0, .int i1]) (n := 4) (Nat.le_of_ble_eq_true rfl)
  rw [lg_entry_eq]
  generalize (lg_sl ([.ref h, .int 0, .int i1]) ++ List.replicate (4 - (lg_sl ([.ref h, .int 0, .int i1])).length) Slot.unset).toArray = ls at hl ⊢
  have hl : lv_has ls 4 [(0, .ref h), (1, .int 0), (2, .int i1)] := hl
  have hK := hKx.1
  have hin7 := fun w9 h9 => List.mem_cons_of_mem (Cond.code yX7_least cX7_least 4 (some .int)) (inlX7 w9 h9)
  have hw0 := hts (.fieldLink RX7 37 "OneCan" "order" "LOneCan$Order;") (List.mem_cons_of_mem _ wm_142)
  refine lv_aload_n hx hb dX7_least_0 rfl (lv_at hl 0 rfl) ?_
  refine lv_iload_n hx hb dX7_least_1 rfl (lv_at hl 1 rfl) ?_
  refine lv_iload_n hx hb dX7_least_2 rfl (lv_at hl 2 rfl) ?_
  refine mx_i (wr := [(os, .inl (cI, 5, .inl (fun _ => 0))), (kw, .inl (cI, 14, .inl (fun _ => 0))), (kq, .inl (cI, 6, .inl (fun _ => 0))), (km, .inl (cI, 6, .inl (fun _ => 0)))]) (va_runV (As := [.int 0, .int i1]) (rest := []) ⟨hx, hb, hml, hown, hts⟩ (c_X7_spreadRefusal0 l dC dI cI cZ cK tS aK aV h o f g wk im kt dl j k ks kw kc kq km kd ka kk d op oq ov os i1 s.heap.size) (cwV 2 hts (gw_v (fun _ h9 => List.mem_cons_of_mem _ h9) wm_186 wm_187 wm_188 wm_2 wm_189) rfl rfl rfl (by decide +kernel) ⟨Nat.le_of_ble_eq_true rfl, Nat.le_of_ble_eq_true rfl⟩) (mx_preV (C := RX7) (T := TX7) (N := 10) (ci := 7) hKx hP hD hS hA [0, 1, 2, 4, 5] (by decide) rfl rfl rfl) rfl rfl hl.1 rfl (lv_room (Nat.le_of_ble_eq_true rfl)) dX7_least_3 ⟨Nat.le_of_ble_eq_true rfl, Nat.le_of_ble_eq_true rfl⟩) hP hD hS hA [0, 1, 2, 4, 5] [3, 6, 7, 8] rfl rfl (by decide) (by decide) (fun r1 u1 H locs hq1 hP hD hS => ?_)
  replace hP : va_P (dC, dI) vwCl [(os, .inl (cI, 5, .inl (fun _ => 0))), (kw, .inl (cI, 14, .inl (fun _ => 0))), (kq, .inl (cI, 6, .inl (fun _ => 0))), (km, .inl (cI, 6, .inl (fun _ => 0))), (h, .inr (7, [.ref k, .ref d, .ref j, .ref o, .ref f, .ref g, .ref wk, .ref im, .ref kt, .ref dl])), (o, .inr (3, [.ref k, .ref op, .int 0, .ref oq, .ref ov, .ref os])), (op, .inl (cI, 6, .inl (upd (upd (upd (upd (upd (upd (fun _ => 0) 5 0) 4 0) 3 0) 2 0) 1 0) 0 0))), (k, .inr (0, [.ref ks, .ref kw, .ref kc, .int (-6), .int 0, .int 0, .ref kq, .ref km, .ref kd, .int 0, .ref ka, .ref kk])), (ks, .inl (cI, 5, .inl (upd (fun _ => 0) 0 800)))] H := hP
  replace hD : va_D A [(os, .inl (cI, 5, .inl (fun _ => 0))), (kw, .inl (cI, 14, .inl (fun _ => 0))), (kq, .inl (cI, 6, .inl (fun _ => 0))), (km, .inl (cI, 6, .inl (fun _ => 0))), (h, .inr (7, [.ref k, .ref d, .ref j, .ref o, .ref f, .ref g, .ref wk, .ref im, .ref kt, .ref dl])), (o, .inr (3, [.ref k, .ref op, .int 0, .ref oq, .ref ov, .ref os])), (op, .inl (cI, 6, .inl (upd (upd (upd (upd (upd (upd (fun _ => 0) 5 0) 4 0) 3 0) 2 0) 1 0) 0 0))), (k, .inr (0, [.ref ks, .ref kw, .ref kc, .int (-6), .int 0, .int 0, .ref kq, .ref km, .ref kd, .int 0, .ref ka, .ref kk])), (ks, .inl (cI, 5, .inl (upd (fun _ => 0) 0 800)))] := hD
  rcases hq1 with ⟨rfl, hf1⟩ | ⟨rfl, hf1⟩
  · have hf1 : 0 ≤ i1.toInt ∧ i1.toInt ≤ 13 := hf1
    refine lv_istore_n (lv' := [(3, .int 0), (0, .ref h), (1, .int 0), (2, .int i1)]) hx hb dX7_least_6 rfl hl (by decide) rfl (fun ls hl => ?_)
    refine lv_iload_n hx hb dX7_least_7 rfl (lv_at hl 0 rfl) ?_
    refine lv_if_eq (tgt := 15) hx hb dX7_least_8 (by decide) (fun c2 => ?_) (fun c2 => absurd c2 (by decide))
    refine lv_aload_n hx hb dX7_least_15 rfl (lv_at hl 1 rfl) ?_
    refine va_get (D := (dC, dI)) (ci := 7) (v := .ref o) (C := RX7) (T := TX7) (N := 10) hx hb hts hin7 hown hK hP 4 rfl rfl 3 (by decide) hw0 (fun _ h9 => h9) rfl dX7_least_16 ?_
    refine lv_iload_n hx hb dX7_least_19 rfl (lv_at hl 3 rfl) ?_
    refine mx_i (wr := [(h, .inr (7, [.ref k, .ref d, .ref j, .ref o, .ref f, .ref g, .ref wk, .ref im, .ref kt, .ref dl]))]) (va_runV (As := [.int i1]) (rest := []) ⟨hx, hb, hml, hown, hts⟩ (c_X3_leastByTwos0 l dC dI cI cZ cK tS aK aV o k ks kw kc kq km kd ka kk op oq ov os i1 H.size (by first | omega | decide | assumption | trivial)) (cwV 1 hts (gw_v (fun _ h9 => List.mem_cons_of_mem _ h9) wm_203 wm_204 wm_205 wm_146 wm_206) rfl rfl rfl (by decide +kernel) ⟨Nat.le_of_ble_eq_true rfl, Nat.le_of_ble_eq_true rfl⟩) (mx_preV (C := RX3) (T := TX3) (N := 6) (ci := 3) hKx hP hD hS hA [5, 6, 0, 7, 8, 1, 2, 3] (by decide) rfl rfl rfl) rfl rfl hl.1 rfl (lv_room (Nat.le_of_ble_eq_true rfl)) dX7_least_20 ⟨Nat.le_of_ble_eq_true rfl, Nat.le_of_ble_eq_true rfl⟩) hP hD hS hA [5, 6, 0, 7, 8, 1, 2, 3] [4] rfl rfl (by decide) (by decide) (fun r3 u3 H locs hq3 hP hD hS => ?_)
    replace hP : va_P (dC, dI) vwCl [(h, .inr (7, [.ref k, .ref d, .ref j, .ref o, .ref f, .ref g, .ref wk, .ref im, .ref kt, .ref dl]))] H := hP
    replace hD : va_D A [(h, .inr (7, [.ref k, .ref d, .ref j, .ref o, .ref f, .ref g, .ref wk, .ref im, .ref kt, .ref dl]))] := hD
    obtain rfl : r3 = 0 := hq3
    have hP9 := mx_subP (wc := []) hP [] rfl
    have hD9 := hD.sub (ws' := []) [] (by decide) rfl
    exact W.iret (v := 0) hx hb hr (fun t ht hW => ⟨⟨0, (), rfl, (by first | exact Or.inl (⟨rfl, by omega⟩) | exact Or.inr (⟨rfl, by omega⟩)), by rw [ht]; exact hP9, hD9⟩, hS.F ht⟩) hS.2.2 dX7_least_23
  · have hf1 : i1.toInt < 0 ∨ 13 < i1.toInt := hf1
    refine lv_istore_n (lv' := [(3, .int (-1)), (0, .ref h), (1, .int 0), (2, .int i1)]) hx hb dX7_least_6 rfl hl (by decide) rfl (fun ls hl => ?_)
    refine lv_iload_n hx hb dX7_least_7 rfl (lv_at hl 0 rfl) ?_
    refine lv_if_eq (tgt := 15) hx hb dX7_least_8 (by decide) (fun c4 => absurd c4 (by decide)) (fun c4 => ?_)
    refine lv_iload_n hx hb dX7_least_11 rfl (lv_at hl 0 rfl) ?_
    refine lv_goto (tgt := 23) hx hb dX7_least_12 (by decide) ?_
    have hP9 := mx_subP (wc := []) hP [] rfl
    have hD9 := hD.sub (ws' := []) [] (by decide) rfl
    exact W.iret (v := (-1)) hx hb hr (fun t ht hW => ⟨⟨(-1), (), rfl, (by first | exact Or.inl (⟨rfl, by omega⟩) | exact Or.inr (⟨rfl, by omega⟩)), by rw [ht]; exact hP9, hD9⟩, hS.F ht⟩) hS.2.2 dX7_least_23
set_option maxHeartbeats 4000000 in
set_option maxRecDepth 100000 in
theorem c_X5_boundBySights (l : Launch) (dC : Nat → ClassId) (dI : Nat → Nat → Nat) (cI cZ cK : ClassId) (tS aK aV : Nat) (f : Nat) (j : Nat) (k : Nat) (ks : Nat) (kw : Nat) (kc : Nat) (kq : Nat) (km : Nat) (kd : Nat) (ka : Nat) (kk : Nat) (d : Nat) (ds : Nat) (dk : Nat) (dw : Nat) (fl : Nat) (fh : Nat) (ff : Nat) (fa : Nat) (fm : Nat) (sz : Nat) : Ci l yX5_boundBySights (wq yX5_boundBySights cX5_boundBySights 4 (some .boolean)) ({ frames := 0, cells := 0, slots := 0, locals := 0 }) dC dI cI cZ cK tS aK aV [.ref f] sz [(f, .inr (5, [.ref k, .ref d, .ref j, .ref fl, .ref fh, .ref ff, .ref fa, .ref fm, .int 0, .int 0, .int 0])), (fl, .inl (cI, 61, .inl (fun _ => 0))), (fh, .inl (cI, 61, .inl (fun _ => 0))), (d, .inr (4, [.ref ds, .int 0, .ref dk, .ref dw, .int 0, .int (-6)])), (k, .inr (0, [.ref ks, .ref kw, .ref kc, .int (-6), .int 0, .int 0, .ref kq, .ref km, .ref kd, .int 0, .ref ka, .ref kk]))] (fun (r : Int32) (_ : Unit) => r = 1) (fun _ => [(f, .inr (5, [.ref k, .ref d, .ref j, .ref fl, .ref fh, .ref ff, .ref fa, .ref fm, .int 0, .int 0, .int 0])), (fl, .inl (cI, 61, .inl (upd (fun _ => 0) 0 0))), (fh, .inl (cI, 61, .inl (upd (fun _ => 0) 0 4000))), (d, .inr (4, [.ref ds, .int 0, .ref dk, .ref dw, .int 0, .int (-6)])), (k, .inr (0, [.ref ks, .ref kw, .ref kc, .int (-6), .int 0, .int 0, .ref kq, .ref km, .ref kd, .int 0, .ref ka, .ref kk]))]) := by
  refine Met.ofW (cc := cX5_boundBySights) (maxL := 4) (ret := (some .boolean)) (by decide) rfl ?_
  intro p e s m args below meth c s₁ B hml hv
  obtain ⟨rfl, hsz, hP, hKx, hD0⟩ := hv
  have hx := B.exec
  have hb := B.bytes
  have hr := B.returns
  have hts := atoms_spec (ws := wq yX5_boundBySights cX5_boundBySights 4 (some .boolean)) B.pre
  have hown : s.vm.findClass RX5 = some m.cls := findClass_of_methodNamed B.named
  have hlocks := B.notSynchronized
  subst hsz
  have hD := hD0.self (sz := s.heap.size)
  generalize hAe : va_A [(f, .inr (5, [.ref k, .ref d, .ref j, .ref fl, .ref fh, .ref ff, .ref fa, .ref fm, .int 0, .int 0, .int 0])), (fl, .inl (cI, 61, .inl (fun _ => 0))), (fh, .inl (cI, 61, .inl (fun _ => 0))), (d, .inr (4, [.ref ds, .int 0, .ref dk, .ref dw, .int 0, .int (-6)])), (k, .inr (0, [.ref ks, .ref kw, .ref kc, .int (-6), .int 0, .int 0, .ref kq, .ref km, .ref kd, .int 0, .ref ka, .ref kk]))] s.heap.size = A at hD hKx ⊢
  have hA : ∀ q : Nat, s.heap.size ≤ q → A q := fun q h => by rw [← hAe]; exact Or.inr h
  have hS : va_S A s.heap s.heap [] := va_S.rf
  have hP : va_P (dC, dI) vwCl [(f, .inr (5, [.ref k, .ref d, .ref j, .ref fl, .ref fh, .ref ff, .ref fa, .ref fm, .int 0, .int 0, .int 0])), (fl, .inl (cI, 61, .inl (fun _ => 0))), (fh, .inl (cI, 61, .inl (fun _ => 0))), (d, .inr (4, [.ref ds, .int 0, .ref dk, .ref dw, .int 0, .int (-6)])), (k, .inr (0, [.ref ks, .ref kw, .ref kc, .int (-6), .int 0, .int 0, .ref kq, .ref km, .ref kd, .int 0, .ref ka, .ref kk]))] s.heap := hP
  have hl := lv_entry ([.ref f]) (n := 4) (Nat.le_of_ble_eq_true rfl)
  rw [lg_entry_eq]
  generalize (lg_sl ([.ref f]) ++ List.replicate (4 - (lg_sl ([.ref f])).length) Slot.unset).toArray = ls at hl ⊢
  have hl : lv_has ls 4 [(0, .ref f)] := hl
  have hK := hKx.1
  have hin5 := fun w9 h9 => List.mem_cons_of_mem (Cond.code yX5_boundBySights cX5_boundBySights 4 (some .boolean)) (inlX5 w9 h9)
  have hin4 := fun w9 h9 => List.mem_cons_of_mem (Cond.code yX5_boundBySights cX5_boundBySights 4 (some .boolean)) (inlX4 w9 h9)
  have hin0 := fun w9 h9 => List.mem_cons_of_mem (Cond.code yX5_boundBySights cX5_boundBySights 4 (some .boolean)) (inlX0 w9 h9)
  have hw0 := hts (.fieldLink RX5 31 "OneCan$Search" "pad" "LOneCan$Pad;") (List.mem_cons_of_mem _ wm_207)
  have hw1 := hts (.fieldLink RX5 54 "OneCan$Pad" "acts" "I") (List.mem_cons_of_mem _ wm_208)
  have hw2 := hts (.fieldLink RX5 9 "OneCan$Search" "low" "[I") (List.mem_cons_of_mem _ wm_209)
  have hw3 := hts (.fieldLink RX5 15 "OneCan$Search" "high" "[I") (List.mem_cons_of_mem _ wm_210)
  have hw4 := hts (.fieldLink RX5 27 "OneCan$Search" "camp" "LOneCan$Camp;") (List.mem_cons_of_mem _ wm_211)
  have hw5 := hts (.fieldLink RX5 89 "OneCan$Camp" "sights" "I") (List.mem_cons_of_mem _ wm_212)
  refine lv_iconst (v := 0) hx hb dX5_boundBySights_0 (by decide) ?_
  refine lv_istore_n (lv' := [(1, .int 0), (0, .ref f)]) hx hb dX5_boundBySights_1 rfl hl (by decide) rfl (fun ls hl => ?_)
  refine lv_iload_n hx hb dX5_boundBySights_2 rfl (lv_at hl 0 rfl) ?_
  refine lv_aload_n hx hb dX5_boundBySights_3 rfl (lv_at hl 1 rfl) ?_
  refine va_get (D := (dC, dI)) (ci := 5) (v := .ref d) (C := RX5) (T := TX5) (N := 11) hx hb hts hin5 hown hK hP 0 rfl rfl 1 (by decide) hw0 (fun _ h9 => h9) rfl dX5_boundBySights_4 ?_
  refine va_get (D := (dC, dI)) (ci := 4) (v := .int 0) (C := RX4) (T := TX4) (N := 6) hx hb hts hin4 hown hK hP 3 rfl rfl 4 (by decide) hw1 (fun _ h9 => h9) rfl dX5_boundBySights_7 ?_
  refine lv_icmp_gt (tgt := 35) hx hb dX5_boundBySights_10 (by decide) (fun c1 => absurd c1 (by decide)) (fun c1 => ?_)
  refine lv_aload_n hx hb dX5_boundBySights_13 rfl (lv_at hl 1 rfl) ?_
  refine va_get (D := (dC, dI)) (ci := 5) (v := .ref fl) (C := RX5) (T := TX5) (N := 11) hx hb hts hin5 hown hK hP 0 rfl rfl 3 (by decide) hw2 (fun _ h9 => h9) rfl dX5_boundBySights_14 ?_
  refine lv_iload_n hx hb dX5_boundBySights_17 rfl (lv_at hl 0 rfl) ?_
  refine lv_iconst (v := 0) hx hb dX5_boundBySights_18 (by decide) ?_
  refine va_iast hx hb hK hP hD hS 1 0 rfl rfl (vin (by decide) (by decide)) dX5_boundBySights_19 (fun H locs hP hD hS => ?_)
  replace hP : va_P (dC, dI) vwCl [(f, .inr (5, [.ref k, .ref d, .ref j, .ref fl, .ref fh, .ref ff, .ref fa, .ref fm, .int 0, .int 0, .int 0])), (fl, .inl (cI, 61, .inl (upd (fun _ => 0) 0 0))), (fh, .inl (cI, 61, .inl (fun _ => 0))), (d, .inr (4, [.ref ds, .int 0, .ref dk, .ref dw, .int 0, .int (-6)])), (k, .inr (0, [.ref ks, .ref kw, .ref kc, .int (-6), .int 0, .int 0, .ref kq, .ref km, .ref kd, .int 0, .ref ka, .ref kk]))] H := hP
  replace hD : va_D A [(f, .inr (5, [.ref k, .ref d, .ref j, .ref fl, .ref fh, .ref ff, .ref fa, .ref fm, .int 0, .int 0, .int 0])), (fl, .inl (cI, 61, .inl (upd (fun _ => 0) 0 0))), (fh, .inl (cI, 61, .inl (fun _ => 0))), (d, .inr (4, [.ref ds, .int 0, .ref dk, .ref dw, .int 0, .int (-6)])), (k, .inr (0, [.ref ks, .ref kw, .ref kc, .int (-6), .int 0, .int 0, .ref kq, .ref km, .ref kd, .int 0, .ref ka, .ref kk]))] := hD
  refine lv_aload_n hx hb dX5_boundBySights_20 rfl (lv_at hl 1 rfl) ?_
  refine va_get (D := (dC, dI)) (ci := 5) (v := .ref fh) (C := RX5) (T := TX5) (N := 11) hx hb hts hin5 hown hK hP 0 rfl rfl 4 (by decide) hw3 (fun _ h9 => h9) rfl dX5_boundBySights_21 ?_
  refine lv_iload_n hx hb dX5_boundBySights_24 rfl (lv_at hl 0 rfl) ?_
  refine lv_sipush (v := 4000) hx hb dX5_boundBySights_25 (by decide) ?_
  refine va_iast hx hb hK hP hD hS 2 0 rfl rfl (vin (by decide) (by decide)) dX5_boundBySights_28 (fun H locs hP hD hS => ?_)
  replace hP : va_P (dC, dI) vwCl [(f, .inr (5, [.ref k, .ref d, .ref j, .ref fl, .ref fh, .ref ff, .ref fa, .ref fm, .int 0, .int 0, .int 0])), (fl, .inl (cI, 61, .inl (upd (fun _ => 0) 0 0))), (fh, .inl (cI, 61, .inl (upd (fun _ => 0) 0 4000))), (d, .inr (4, [.ref ds, .int 0, .ref dk, .ref dw, .int 0, .int (-6)])), (k, .inr (0, [.ref ks, .ref kw, .ref kc, .int (-6), .int 0, .int 0, .ref kq, .ref km, .ref kd, .int 0, .ref ka, .ref kk]))] H := hP
  replace hD : va_D A [(f, .inr (5, [.ref k, .ref d, .ref j, .ref fl, .ref fh, .ref ff, .ref fa, .ref fm, .int 0, .int 0, .int 0])), (fl, .inl (cI, 61, .inl (upd (fun _ => 0) 0 0))), (fh, .inl (cI, 61, .inl (upd (fun _ => 0) 0 4000))), (d, .inr (4, [.ref ds, .int 0, .ref dk, .ref dw, .int 0, .int (-6)])), (k, .inr (0, [.ref ks, .ref kw, .ref kc, .int (-6), .int 0, .int 0, .ref kq, .ref km, .ref kd, .int 0, .ref ka, .ref kk]))] := hD
  refine lv_iinc (v := 1) (lv' := [(1, .int 1), (0, .ref f)]) hx hb dX5_boundBySights_29 hl (k := 0) rfl (by decide) (by decide) rfl (fun ls hl => ?_)
  refine lv_goto (tgt := 2) hx hb dX5_boundBySights_32 (by decide) ?_
  refine lv_iload_n hx hb dX5_boundBySights_2 rfl (lv_at hl 0 rfl) ?_
  refine lv_aload_n hx hb dX5_boundBySights_3 rfl (lv_at hl 1 rfl) ?_
  refine va_get (D := (dC, dI)) (ci := 5) (v := .ref d) (C := RX5) (T := TX5) (N := 11) hx hb hts hin5 hown hK hP 0 rfl rfl 1 (by decide) hw0 (fun _ h9 => h9) rfl dX5_boundBySights_4 ?_
  refine va_get (D := (dC, dI)) (ci := 4) (v := .int 0) (C := RX4) (T := TX4) (N := 6) hx hb hts hin4 hown hK hP 3 rfl rfl 4 (by decide) hw1 (fun _ h9 => h9) rfl dX5_boundBySights_7 ?_
  refine lv_icmp_gt (tgt := 35) hx hb dX5_boundBySights_10 (by decide) (fun c2 => ?_) (fun c2 => absurd c2 (by decide))
  refine lv_iconst (v := 1) hx hb dX5_boundBySights_35 (by decide) ?_
  refine lv_istore_n (lv' := [(1, .int 1), (0, .ref f)]) hx hb dX5_boundBySights_36 rfl hl (by decide) rfl (fun ls hl => ?_)
  refine lv_iconst (v := 0) hx hb dX5_boundBySights_37 (by decide) ?_
  refine lv_istore_n (lv' := [(2, .int 0), (1, .int 1), (0, .ref f)]) hx hb dX5_boundBySights_38 rfl hl (by decide) rfl (fun ls hl => ?_)
  refine lv_iload_n hx hb dX5_boundBySights_39 rfl (lv_at hl 0 rfl) ?_
  refine lv_aload_n hx hb dX5_boundBySights_40 rfl (lv_at hl 2 rfl) ?_
  refine va_get (D := (dC, dI)) (ci := 5) (v := .ref k) (C := RX5) (T := TX5) (N := 11) hx hb hts hin5 hown hK hP 0 rfl rfl 0 (by decide) hw4 (fun _ h9 => h9) rfl dX5_boundBySights_41 ?_
  refine va_get (D := (dC, dI)) (ci := 0) (v := .int 0) (C := RX0) (T := TX0) (N := 12) hx hb hts hin0 hown hK hP 4 rfl rfl 9 (by decide) hw5 (fun _ h9 => h9) rfl dX5_boundBySights_44 ?_
  refine lv_icmp_ge (tgt := 144) hx hb dX5_boundBySights_47 (by decide) (fun c3 => ?_) (fun c3 => absurd c3 (by decide))
  refine lv_iload_n hx hb dX5_boundBySights_144 rfl (lv_at hl 1 rfl) ?_
  have hP9 := mx_subP (wc := [(f, .inr (5, [.ref k, .ref d, .ref j, .ref fl, .ref fh, .ref ff, .ref fa, .ref fm, .int 0, .int 0, .int 0])), (fl, .inl (cI, 61, .inl (upd (fun _ => 0) 0 0))), (fh, .inl (cI, 61, .inl (upd (fun _ => 0) 0 4000))), (d, .inr (4, [.ref ds, .int 0, .ref dk, .ref dw, .int 0, .int (-6)])), (k, .inr (0, [.ref ks, .ref kw, .ref kc, .int (-6), .int 0, .int 0, .ref kq, .ref km, .ref kd, .int 0, .ref ka, .ref kk]))]) hP [0, 1, 2, 3, 4] rfl
  have hD9 := hD.sub (ws' := [(f, .inr (5, [.ref k, .ref d, .ref j, .ref fl, .ref fh, .ref ff, .ref fa, .ref fm, .int 0, .int 0, .int 0])), (fl, .inl (cI, 61, .inl (upd (fun _ => 0) 0 0))), (fh, .inl (cI, 61, .inl (upd (fun _ => 0) 0 4000))), (d, .inr (4, [.ref ds, .int 0, .ref dk, .ref dw, .int 0, .int (-6)])), (k, .inr (0, [.ref ks, .ref kw, .ref kc, .int (-6), .int 0, .int 0, .ref kq, .ref km, .ref kd, .int 0, .ref ka, .ref kk]))]) [0, 1, 2, 3, 4] (by decide) rfl
  exact W.zret (v := 1) hx hb hr rfl (fun t ht hW => ⟨⟨1, (), rfl, rfl, by rw [ht]; exact hP9, hD9⟩, hS.F ht⟩) hS.2.2 dX5_boundBySights_145
set_option maxHeartbeats 4000000 in
set_option maxRecDepth 100000 in
theorem c_X5_rightWithoutLeak (l : Launch) (dC : Nat → ClassId) (dI : Nat → Nat → Nat) (cI cZ cK : ClassId) (tS aK aV : Nat) (f : Nat) (j : Nat) (k : Nat) (d : Nat) (ds : Nat) (dk : Nat) (dw : Nat) (fl : Nat) (fh : Nat) (ff : Nat) (fa : Nat) (fm : Nat) (sz : Nat) : Ci l yX5_rightWithoutLeak (wq yX5_rightWithoutLeak cX5_rightWithoutLeak 2 (some .int)) ({ frames := 0, cells := 0, slots := 0, locals := 0 }) dC dI cI cZ cK tS aK aV [.ref f] sz [(f, .inr (5, [.ref k, .ref d, .ref j, .ref fl, .ref fh, .ref ff, .ref fa, .ref fm, .int 0, .int 0, .int 0])), (d, .inr (4, [.ref ds, .int 0, .ref dk, .ref dw, .int 0, .int (-6)]))] (fun (r : Int32) (_ : Unit) => r = 0) (fun _ => [(f, .inr (5, [.ref k, .ref d, .ref j, .ref fl, .ref fh, .ref ff, .ref fa, .ref fm, .int 0, .int 0, .int 0])), (d, .inr (4, [.ref ds, .int 0, .ref dk, .ref dw, .int 0, .int (-6)]))]) := by
  refine Met.ofW (cc := cX5_rightWithoutLeak) (maxL := 2) (ret := (some .int)) (by decide) rfl ?_
  intro p e s m args below meth c s₁ B hml hv
  obtain ⟨rfl, hsz, hP, hKx, hD0⟩ := hv
  have hx := B.exec
  have hb := B.bytes
  have hr := B.returns
  have hts := atoms_spec (ws := wq yX5_rightWithoutLeak cX5_rightWithoutLeak 2 (some .int)) B.pre
  have hown : s.vm.findClass RX5 = some m.cls := findClass_of_methodNamed B.named
  have hlocks := B.notSynchronized
  subst hsz
  have hD := hD0.self (sz := s.heap.size)
  generalize hAe : va_A [(f, .inr (5, [.ref k, .ref d, .ref j, .ref fl, .ref fh, .ref ff, .ref fa, .ref fm, .int 0, .int 0, .int 0])), (d, .inr (4, [.ref ds, .int 0, .ref dk, .ref dw, .int 0, .int (-6)]))] s.heap.size = A at hD hKx ⊢
  have hA : ∀ q : Nat, s.heap.size ≤ q → A q := fun q h => by rw [← hAe]; exact Or.inr h
  have hS : va_S A s.heap s.heap [] := va_S.rf
  have hP : va_P (dC, dI) vwCl [(f, .inr (5, [.ref k, .ref d, .ref j, .ref fl, .ref fh, .ref ff, .ref fa, .ref fm, .int 0, .int 0, .int 0])), (d, .inr (4, [.ref ds, .int 0, .ref dk, .ref dw, .int 0, .int (-6)]))] s.heap := hP
  have hl := lv_entry ([.ref f]) (n := 2) (Nat.le_of_ble_eq_true rfl)
  rw [lg_entry_eq]
  generalize (lg_sl ([.ref f]) ++ List.replicate (2 - (lg_sl ([.ref f])).length) Slot.unset).toArray = ls at hl ⊢
  have hl : lv_has ls 2 [(0, .ref f)] := hl
  have hK := hKx.1
  have hin5 := fun w9 h9 => List.mem_cons_of_mem (Cond.code yX5_rightWithoutLeak cX5_rightWithoutLeak 2 (some .int)) (inlX5 w9 h9)
  have hin4 := fun w9 h9 => List.mem_cons_of_mem (Cond.code yX5_rightWithoutLeak cX5_rightWithoutLeak 2 (some .int)) (inlX4 w9 h9)
  have hw0 := hts (.fieldLink RX5 31 "OneCan$Search" "pad" "LOneCan$Pad;") (List.mem_cons_of_mem _ wm_207)
  have hw1 := hts (.fieldLink RX5 54 "OneCan$Pad" "acts" "I") (List.mem_cons_of_mem _ wm_208)
  refine lv_iconst (v := 0) hx hb dX5_rightWithoutLeak_0 (by decide) ?_
  refine lv_istore_n (lv' := [(1, .int 0), (0, .ref f)]) hx hb dX5_rightWithoutLeak_1 rfl hl (by decide) rfl (fun ls hl => ?_)
  refine lv_iload_n hx hb dX5_rightWithoutLeak_2 rfl (lv_at hl 0 rfl) ?_
  refine lv_aload_n hx hb dX5_rightWithoutLeak_3 rfl (lv_at hl 1 rfl) ?_
  refine va_get (D := (dC, dI)) (ci := 5) (v := .ref d) (C := RX5) (T := TX5) (N := 11) hx hb hts hin5 hown hK hP 0 rfl rfl 1 (by decide) hw0 (fun _ h9 => h9) rfl dX5_rightWithoutLeak_4 ?_
  refine va_get (D := (dC, dI)) (ci := 4) (v := .int 0) (C := RX4) (T := TX4) (N := 6) hx hb hts hin4 hown hK hP 1 rfl rfl 4 (by decide) hw1 (fun _ h9 => h9) rfl dX5_rightWithoutLeak_7 ?_
  refine lv_icmp_ge (tgt := 50) hx hb dX5_rightWithoutLeak_10 (by decide) (fun c1 => ?_) (fun c1 => absurd c1 (by decide))
  refine lv_aload_n hx hb dX5_rightWithoutLeak_50 rfl (lv_at hl 1 rfl) ?_
  refine va_get (D := (dC, dI)) (ci := 5) (v := .ref d) (C := RX5) (T := TX5) (N := 11) hx hb hts hin5 hown hK hP 0 rfl rfl 1 (by decide) hw0 (fun _ h9 => h9) rfl dX5_rightWithoutLeak_51 ?_
  refine va_get (D := (dC, dI)) (ci := 4) (v := .int 0) (C := RX4) (T := TX4) (N := 6) hx hb hts hin4 hown hK hP 1 rfl rfl 4 (by decide) hw1 (fun _ h9 => h9) rfl dX5_rightWithoutLeak_54 ?_
  have hP9 := mx_subP (wc := [(f, .inr (5, [.ref k, .ref d, .ref j, .ref fl, .ref fh, .ref ff, .ref fa, .ref fm, .int 0, .int 0, .int 0])), (d, .inr (4, [.ref ds, .int 0, .ref dk, .ref dw, .int 0, .int (-6)]))]) hP [0, 1] rfl
  have hD9 := hD.sub (ws' := [(f, .inr (5, [.ref k, .ref d, .ref j, .ref fl, .ref fh, .ref ff, .ref fa, .ref fm, .int 0, .int 0, .int 0])), (d, .inr (4, [.ref ds, .int 0, .ref dk, .ref dw, .int 0, .int (-6)]))]) [0, 1] (by decide) rfl
  exact W.iret (v := 0) hx hb hr (fun t ht hW => ⟨⟨0, (), rfl, rfl, by rw [ht]; exact hP9, hD9⟩, hS.F ht⟩) hS.2.2 dX5_rightWithoutLeak_57
set_option maxHeartbeats 4000000 in
set_option maxRecDepth 100000 in
theorem c_X5_boundByActs (l : Launch) (dC : Nat → ClassId) (dI : Nat → Nat → Nat) (cI cZ cK : ClassId) (tS aK aV : Nat) (f : Nat) (j : Nat) (k : Nat) (d : Nat) (ds : Nat) (dk : Nat) (dw : Nat) (fl : Nat) (fh : Nat) (ff : Nat) (fa : Nat) (fm : Nat) (sz : Nat) : Cv l yX5_boundByActs (wq yX5_boundByActs cX5_boundByActs 5 none) ({ frames := 0, cells := 0, slots := 0, locals := 0 }) dC dI cI cZ cK tS aK aV [.ref f] sz [(f, .inr (5, [.ref k, .ref d, .ref j, .ref fl, .ref fh, .ref ff, .ref fa, .ref fm, .int 0, .int 0, .int 0])), (d, .inr (4, [.ref ds, .int 0, .ref dk, .ref dw, .int 0, .int (-6)]))] (fun (u : Unit) => True) (fun _ => [(f, .inr (5, [.ref k, .ref d, .ref j, .ref fl, .ref fh, .ref ff, .ref fa, .ref fm, .int 0, .int 0, .int 0])), (d, .inr (4, [.ref ds, .int 0, .ref dk, .ref dw, .int 0, .int (-6)]))]) := by
  refine Met.ofW (cc := cX5_boundByActs) (maxL := 5) (ret := none) (by decide) rfl ?_
  intro p e s m args below meth c s₁ B hml hv
  obtain ⟨rfl, hsz, hP, hKx, hD0⟩ := hv
  have hx := B.exec
  have hb := B.bytes
  have hr := B.returns
  have hts := atoms_spec (ws := wq yX5_boundByActs cX5_boundByActs 5 none) B.pre
  have hown : s.vm.findClass RX5 = some m.cls := findClass_of_methodNamed B.named
  have hlocks := B.notSynchronized
  subst hsz
  have hD := hD0.self (sz := s.heap.size)
  generalize hAe : va_A [(f, .inr (5, [.ref k, .ref d, .ref j, .ref fl, .ref fh, .ref ff, .ref fa, .ref fm, .int 0, .int 0, .int 0])), (d, .inr (4, [.ref ds, .int 0, .ref dk, .ref dw, .int 0, .int (-6)]))] s.heap.size = A at hD hKx ⊢
  have hA : ∀ q : Nat, s.heap.size ≤ q → A q := fun q h => by rw [← hAe]; exact Or.inr h
  have hS : va_S A s.heap s.heap [] := va_S.rf
  have hP : va_P (dC, dI) vwCl [(f, .inr (5, [.ref k, .ref d, .ref j, .ref fl, .ref fh, .ref ff, .ref fa, .ref fm, .int 0, .int 0, .int 0])), (d, .inr (4, [.ref ds, .int 0, .ref dk, .ref dw, .int 0, .int (-6)]))] s.heap := hP
  have hl := lv_entry ([.ref f]) (n := 5) (Nat.le_of_ble_eq_true rfl)
  rw [lg_entry_eq]
  generalize (lg_sl ([.ref f]) ++ List.replicate (5 - (lg_sl ([.ref f])).length) Slot.unset).toArray = ls at hl ⊢
  have hl : lv_has ls 5 [(0, .ref f)] := hl
  have hK := hKx.1
  have hin5 := fun w9 h9 => List.mem_cons_of_mem (Cond.code yX5_boundByActs cX5_boundByActs 5 none) (inlX5 w9 h9)
  have hin4 := fun w9 h9 => List.mem_cons_of_mem (Cond.code yX5_boundByActs cX5_boundByActs 5 none) (inlX4 w9 h9)
  have hw0 := hts (.fieldLink RX5 31 "OneCan$Search" "pad" "LOneCan$Pad;") (List.mem_cons_of_mem _ wm_207)
  have hw1 := hts (.fieldLink RX5 54 "OneCan$Pad" "acts" "I") (List.mem_cons_of_mem _ wm_208)
  refine lv_aload_n hx hb dX5_boundByActs_0 rfl (lv_at hl 0 rfl) ?_
  refine va_get (D := (dC, dI)) (ci := 5) (v := .ref d) (C := RX5) (T := TX5) (N := 11) hx hb hts hin5 hown hK hP 0 rfl rfl 1 (by decide) hw0 (fun _ h9 => h9) rfl dX5_boundByActs_1 ?_
  refine va_get (D := (dC, dI)) (ci := 4) (v := .int 0) (C := RX4) (T := TX4) (N := 6) hx hb hts hin4 hown hK hP 1 rfl rfl 4 (by decide) hw1 (fun _ h9 => h9) rfl dX5_boundByActs_4 ?_
  refine lv_iconst (v := 1) hx hb dX5_boundByActs_7 (by decide) ?_
  refine lv_isub hx hb dX5_boundByActs_8 ?_
  refine lv_topi (fun x1 e1 => ?_)
  obtain rfl : x1 = (-1) := e1.trans (by decide)
  refine lv_istore_n (lv' := [(1, .int (-1)), (0, .ref f)]) hx hb dX5_boundByActs_9 rfl hl (by decide) rfl (fun ls hl => ?_)
  refine lv_iload_n hx hb dX5_boundByActs_10 rfl (lv_at hl 0 rfl) ?_
  refine lv_if_lt (tgt := 152) hx hb dX5_boundByActs_11 (by decide) (fun c2 => ?_) (fun c2 => absurd c2 (by decide))
  have hP9 := mx_subP (wc := [(f, .inr (5, [.ref k, .ref d, .ref j, .ref fl, .ref fh, .ref ff, .ref fa, .ref fm, .int 0, .int 0, .int 0])), (d, .inr (4, [.ref ds, .int 0, .ref dk, .ref dw, .int 0, .int (-6)]))]) hP [0, 1] rfl
  have hD9 := hD.sub (ws' := [(f, .inr (5, [.ref k, .ref d, .ref j, .ref fl, .ref fh, .ref ff, .ref fa, .ref fm, .int 0, .int 0, .int 0])), (d, .inr (4, [.ref ds, .int 0, .ref dk, .ref dw, .int 0, .int (-6)]))]) [0, 1] (by decide) rfl
  exact W.vret hx hb hr (fun t ht hW => ⟨⟨(), rfl, trivial, by rw [ht]; exact hP9, hD9⟩, hS.F ht⟩) hS.2.2 dX5_boundByActs_152
set_option maxHeartbeats 4000000 in
set_option maxRecDepth 100000 in
theorem c_X5_find (l : Launch) (dC : Nat → ClassId) (dI : Nat → Nat → Nat) (cI cZ cK : ClassId) (tS aK aV : Nat) (f : Nat) (j : Nat) (k : Nat) (ks : Nat) (kw : Nat) (kc : Nat) (kq : Nat) (km : Nat) (kd : Nat) (ka : Nat) (kk : Nat) (d : Nat) (ds : Nat) (dk : Nat) (dw : Nat) (fl : Nat) (fh : Nat) (ff : Nat) (fa : Nat) (fm : Nat) (sz : Nat) : Cv l yX5_find (wq yX5_find cX5_find 5 none) ({ frames := 1, cells := 0, slots := 0, locals := 24 }) dC dI cI cZ cK tS aK aV [.ref f] sz [(f, .inr (5, [.ref k, .ref d, .ref j, .ref fl, .ref fh, .ref ff, .ref fa, .ref fm, .int 0, .int 0, .int 0])), (fl, .inl (cI, 61, .inl (fun _ => 0))), (fh, .inl (cI, 61, .inl (fun _ => 0))), (d, .inr (4, [.ref ds, .int 0, .ref dk, .ref dw, .int 0, .int (-6)])), (k, .inr (0, [.ref ks, .ref kw, .ref kc, .int (-6), .int 0, .int 0, .ref kq, .ref km, .ref kd, .int 0, .ref ka, .ref kk]))] (fun (u : Unit) => True) (fun _ => [(f, .inr (5, [.ref k, .ref d, .ref j, .ref fl, .ref fh, .ref ff, .ref fa, .ref fm, .int 0, .int 0, .int 0])), (fl, .inl (cI, 61, .inl (upd (fun _ => 0) 0 0))), (fh, .inl (cI, 61, .inl (upd (fun _ => 0) 0 4000))), (d, .inr (4, [.ref ds, .int 0, .ref dk, .ref dw, .int 0, .int (-6)])), (k, .inr (0, [.ref ks, .ref kw, .ref kc, .int (-6), .int 0, .int 0, .ref kq, .ref km, .ref kd, .int 0, .ref ka, .ref kk]))]) := by
  refine Met.ofW (cc := cX5_find) (maxL := 5) (ret := none) (by decide) rfl ?_
  intro p e s m args below meth c s₁ B hml hv
  obtain ⟨rfl, hsz, hP, hKx, hD0⟩ := hv
  have hx := B.exec
  have hb := B.bytes
  have hr := B.returns
  have hts := atoms_spec (ws := wq yX5_find cX5_find 5 none) B.pre
  have hown : s.vm.findClass RX5 = some m.cls := findClass_of_methodNamed B.named
  have hlocks := B.notSynchronized
  subst hsz
  have hD := hD0.self (sz := s.heap.size)
  generalize hAe : va_A [(f, .inr (5, [.ref k, .ref d, .ref j, .ref fl, .ref fh, .ref ff, .ref fa, .ref fm, .int 0, .int 0, .int 0])), (fl, .inl (cI, 61, .inl (fun _ => 0))), (fh, .inl (cI, 61, .inl (fun _ => 0))), (d, .inr (4, [.ref ds, .int 0, .ref dk, .ref dw, .int 0, .int (-6)])), (k, .inr (0, [.ref ks, .ref kw, .ref kc, .int (-6), .int 0, .int 0, .ref kq, .ref km, .ref kd, .int 0, .ref ka, .ref kk]))] s.heap.size = A at hD hKx ⊢
  have hA : ∀ q : Nat, s.heap.size ≤ q → A q := fun q h => by rw [← hAe]; exact Or.inr h
  have hS : va_S A s.heap s.heap [] := va_S.rf
  have hP : va_P (dC, dI) vwCl [(f, .inr (5, [.ref k, .ref d, .ref j, .ref fl, .ref fh, .ref ff, .ref fa, .ref fm, .int 0, .int 0, .int 0])), (fl, .inl (cI, 61, .inl (fun _ => 0))), (fh, .inl (cI, 61, .inl (fun _ => 0))), (d, .inr (4, [.ref ds, .int 0, .ref dk, .ref dw, .int 0, .int (-6)])), (k, .inr (0, [.ref ks, .ref kw, .ref kc, .int (-6), .int 0, .int 0, .ref kq, .ref km, .ref kd, .int 0, .ref ka, .ref kk]))] s.heap := hP
  have hl := lv_entry ([.ref f]) (n := 5) (Nat.le_of_ble_eq_true rfl)
  rw [lg_entry_eq]
  generalize (lg_sl ([.ref f]) ++ List.replicate (5 - (lg_sl ([.ref f])).length) Slot.unset).toArray = ls at hl ⊢
  have hl : lv_has ls 5 [(0, .ref f)] := hl
  have hK := hKx.1
  have hin5 := fun w9 h9 => List.mem_cons_of_mem (Cond.code yX5_find cX5_find 5 none) (inlX5 w9 h9)
  have hin4 := fun w9 h9 => List.mem_cons_of_mem (Cond.code yX5_find cX5_find 5 none) (inlX4 w9 h9)
  have hw0 := hts (.fieldLink RX5 50 "OneCan$Search" "count" "I") (List.mem_cons_of_mem _ wm_226)
  have hw1 := hts (.fieldLink RX5 31 "OneCan$Search" "pad" "LOneCan$Pad;") (List.mem_cons_of_mem _ wm_207)
  have hw2 := hts (.fieldLink RX5 54 "OneCan$Pad" "acts" "I") (List.mem_cons_of_mem _ wm_208)
  refine lv_aload_n hx hb dX5_find_0 rfl (lv_at hl 0 rfl) ?_
  refine mx_i (wr := []) (va_runV (As := []) (rest := []) ⟨hx, hb, hml, hown, hts⟩ (c_X5_boundBySights l dC dI cI cZ cK tS aK aV f j k ks kw kc kq km kd ka kk d ds dk dw fl fh ff fa fm s.heap.size) (cwV 0 hts (gw_v (fun _ h9 => List.mem_cons_of_mem _ h9) wm_213 wm_214 wm_215 wm_216 wm_217) rfl rfl rfl (by decide +kernel) ⟨Nat.le_of_ble_eq_true rfl, Nat.le_of_ble_eq_true rfl⟩) (mx_preV (C := RX5) (T := TX5) (N := 11) (ci := 5) hKx hP hD hS hA [0, 1, 2, 3, 4] (by decide) rfl rfl rfl) rfl rfl hl.1 rfl (lv_room (Nat.le_of_ble_eq_true rfl)) dX5_find_1 ⟨Nat.le_of_ble_eq_true rfl, Nat.le_of_ble_eq_true rfl⟩) hP hD hS hA [0, 1, 2, 3, 4] [] rfl rfl (by decide) (by decide) (fun r1 u1 H locs hq1 hP hD hS => ?_)
  replace hP : va_P (dC, dI) vwCl [(f, .inr (5, [.ref k, .ref d, .ref j, .ref fl, .ref fh, .ref ff, .ref fa, .ref fm, .int 0, .int 0, .int 0])), (fl, .inl (cI, 61, .inl (upd (fun _ => 0) 0 0))), (fh, .inl (cI, 61, .inl (upd (fun _ => 0) 0 4000))), (d, .inr (4, [.ref ds, .int 0, .ref dk, .ref dw, .int 0, .int (-6)])), (k, .inr (0, [.ref ks, .ref kw, .ref kc, .int (-6), .int 0, .int 0, .ref kq, .ref km, .ref kd, .int 0, .ref ka, .ref kk]))] H := hP
  replace hD : va_D A [(f, .inr (5, [.ref k, .ref d, .ref j, .ref fl, .ref fh, .ref ff, .ref fa, .ref fm, .int 0, .int 0, .int 0])), (fl, .inl (cI, 61, .inl (upd (fun _ => 0) 0 0))), (fh, .inl (cI, 61, .inl (upd (fun _ => 0) 0 4000))), (d, .inr (4, [.ref ds, .int 0, .ref dk, .ref dw, .int 0, .int (-6)])), (k, .inr (0, [.ref ks, .ref kw, .ref kc, .int (-6), .int 0, .int 0, .ref kq, .ref km, .ref kd, .int 0, .ref ka, .ref kk]))] := hD
  obtain rfl : r1 = 1 := hq1
  refine lv_istore_n (lv' := [(1, .int 1), (0, .ref f)]) hx hb dX5_find_4 rfl hl (by decide) rfl (fun ls hl => ?_)
  refine lv_iload_n hx hb dX5_find_5 rfl (lv_at hl 0 rfl) ?_
  refine lv_if_eq (tgt := 16) hx hb dX5_find_6 (by decide) (fun c2 => absurd c2 (by decide)) (fun c2 => ?_)
  refine lv_aload_n hx hb dX5_find_9 rfl (lv_at hl 1 rfl) ?_
  refine mx_i (wr := [(fl, .inl (cI, 61, .inl (upd (fun _ => 0) 0 0))), (fh, .inl (cI, 61, .inl (upd (fun _ => 0) 0 4000))), (k, .inr (0, [.ref ks, .ref kw, .ref kc, .int (-6), .int 0, .int 0, .ref kq, .ref km, .ref kd, .int 0, .ref ka, .ref kk]))]) (va_runV (As := []) (rest := []) ⟨hx, hb, hml, hown, hts⟩ (c_X5_rightWithoutLeak l dC dI cI cZ cK tS aK aV f j k d ds dk dw fl fh ff fa fm H.size) (cwV 0 hts (gw_v (fun _ h9 => List.mem_cons_of_mem _ h9) wm_218 wm_219 wm_220 wm_216 wm_221) rfl rfl rfl (by decide +kernel) ⟨Nat.le_of_ble_eq_true rfl, Nat.le_of_ble_eq_true rfl⟩) (mx_preV (C := RX5) (T := TX5) (N := 11) (ci := 5) hKx hP hD hS hA [0, 3] (by decide) rfl rfl rfl) rfl rfl hl.1 rfl (lv_room (Nat.le_of_ble_eq_true rfl)) dX5_find_10 ⟨Nat.le_of_ble_eq_true rfl, Nat.le_of_ble_eq_true rfl⟩) hP hD hS hA [0, 3] [1, 2, 4] rfl rfl (by decide) (by decide) (fun r3 u3 H locs hq3 hP hD hS => ?_)
  replace hP : va_P (dC, dI) vwCl [(fl, .inl (cI, 61, .inl (upd (fun _ => 0) 0 0))), (fh, .inl (cI, 61, .inl (upd (fun _ => 0) 0 4000))), (k, .inr (0, [.ref ks, .ref kw, .ref kc, .int (-6), .int 0, .int 0, .ref kq, .ref km, .ref kd, .int 0, .ref ka, .ref kk])), (f, .inr (5, [.ref k, .ref d, .ref j, .ref fl, .ref fh, .ref ff, .ref fa, .ref fm, .int 0, .int 0, .int 0])), (d, .inr (4, [.ref ds, .int 0, .ref dk, .ref dw, .int 0, .int (-6)]))] H := hP
  replace hD : va_D A [(fl, .inl (cI, 61, .inl (upd (fun _ => 0) 0 0))), (fh, .inl (cI, 61, .inl (upd (fun _ => 0) 0 4000))), (k, .inr (0, [.ref ks, .ref kw, .ref kc, .int (-6), .int 0, .int 0, .ref kq, .ref km, .ref kd, .int 0, .ref ka, .ref kk])), (f, .inr (5, [.ref k, .ref d, .ref j, .ref fl, .ref fh, .ref ff, .ref fa, .ref fm, .int 0, .int 0, .int 0])), (d, .inr (4, [.ref ds, .int 0, .ref dk, .ref dw, .int 0, .int (-6)]))] := hD
  obtain rfl : r3 = 0 := hq3
  refine lv_goto (tgt := 17) hx hb dX5_find_13 (by decide) ?_
  refine lv_istore_n (lv' := [(2, .int 0), (1, .int 1), (0, .ref f)]) hx hb dX5_find_17 rfl hl (by decide) rfl (fun ls hl => ?_)
  refine lv_aload_n hx hb dX5_find_18 rfl (lv_at hl 2 rfl) ?_
  refine mx_v (wr := [(fl, .inl (cI, 61, .inl (upd (fun _ => 0) 0 0))), (fh, .inl (cI, 61, .inl (upd (fun _ => 0) 0 4000))), (k, .inr (0, [.ref ks, .ref kw, .ref kc, .int (-6), .int 0, .int 0, .ref kq, .ref km, .ref kd, .int 0, .ref ka, .ref kk]))]) (va_runV (As := []) (rest := []) ⟨hx, hb, hml, hown, hts⟩ (c_X5_boundByActs l dC dI cI cZ cK tS aK aV f j k d ds dk dw fl fh ff fa fm H.size) (cwV 0 hts (gw_v (fun _ h9 => List.mem_cons_of_mem _ h9) wm_222 wm_223 wm_224 wm_216 wm_225) rfl rfl rfl (by decide +kernel) ⟨Nat.le_of_ble_eq_true rfl, Nat.le_of_ble_eq_true rfl⟩) (mx_preV (C := RX5) (T := TX5) (N := 11) (ci := 5) hKx hP hD hS hA [3, 4] (by decide) rfl rfl rfl) rfl rfl hl.1 rfl (lv_room (Nat.le_of_ble_eq_true rfl)) dX5_find_19 ⟨Nat.le_of_ble_eq_true rfl, Nat.le_of_ble_eq_true rfl⟩) hP hD hS hA [3, 4] [0, 1, 2] rfl rfl (by decide) (by decide) (fun u4 H locs hq4 hP hD hS => ?_)
  replace hP : va_P (dC, dI) vwCl [(fl, .inl (cI, 61, .inl (upd (fun _ => 0) 0 0))), (fh, .inl (cI, 61, .inl (upd (fun _ => 0) 0 4000))), (k, .inr (0, [.ref ks, .ref kw, .ref kc, .int (-6), .int 0, .int 0, .ref kq, .ref km, .ref kd, .int 0, .ref ka, .ref kk])), (f, .inr (5, [.ref k, .ref d, .ref j, .ref fl, .ref fh, .ref ff, .ref fa, .ref fm, .int 0, .int 0, .int 0])), (d, .inr (4, [.ref ds, .int 0, .ref dk, .ref dw, .int 0, .int (-6)]))] H := hP
  replace hD : va_D A [(fl, .inl (cI, 61, .inl (upd (fun _ => 0) 0 0))), (fh, .inl (cI, 61, .inl (upd (fun _ => 0) 0 4000))), (k, .inr (0, [.ref ks, .ref kw, .ref kc, .int (-6), .int 0, .int 0, .ref kq, .ref km, .ref kd, .int 0, .ref ka, .ref kk])), (f, .inr (5, [.ref k, .ref d, .ref j, .ref fl, .ref fh, .ref ff, .ref fa, .ref fm, .int 0, .int 0, .int 0])), (d, .inr (4, [.ref ds, .int 0, .ref dk, .ref dw, .int 0, .int (-6)]))] := hD
  refine lv_aload_n hx hb dX5_find_22 rfl (lv_at hl 2 rfl) ?_
  refine lv_iconst (v := 0) hx hb dX5_find_23 (by decide) ?_
  refine va_put (D := (dC, dI)) (ci := 5) (v := .int 0) (ty := .int) (C := RX5) (T := TX5) (N := 11) hx hb hts hin5 tyX5 tyX5_ok nmX5 hown hK hP hD hS 3 rfl rfl 8 (by decide) hw0 (fun _ h9 => h9) rfl (by decide +kernel) rfl rfl (Nat.le_of_ble_eq_true rfl) dX5_find_24 (fun H locs hP hD hS => ?_)
  replace hP : va_P (dC, dI) vwCl [(fl, .inl (cI, 61, .inl (upd (fun _ => 0) 0 0))), (fh, .inl (cI, 61, .inl (upd (fun _ => 0) 0 4000))), (k, .inr (0, [.ref ks, .ref kw, .ref kc, .int (-6), .int 0, .int 0, .ref kq, .ref km, .ref kd, .int 0, .ref ka, .ref kk])), (f, .inr (5, [.ref k, .ref d, .ref j, .ref fl, .ref fh, .ref ff, .ref fa, .ref fm, .int 0, .int 0, .int 0])), (d, .inr (4, [.ref ds, .int 0, .ref dk, .ref dw, .int 0, .int (-6)]))] H := hP
  replace hD : va_D A [(fl, .inl (cI, 61, .inl (upd (fun _ => 0) 0 0))), (fh, .inl (cI, 61, .inl (upd (fun _ => 0) 0 4000))), (k, .inr (0, [.ref ks, .ref kw, .ref kc, .int (-6), .int 0, .int 0, .ref kq, .ref km, .ref kd, .int 0, .ref ka, .ref kk])), (f, .inr (5, [.ref k, .ref d, .ref j, .ref fl, .ref fh, .ref ff, .ref fa, .ref fm, .int 0, .int 0, .int 0])), (d, .inr (4, [.ref ds, .int 0, .ref dk, .ref dw, .int 0, .int (-6)]))] := hD
  refine lv_iconst (v := 0) hx hb dX5_find_27 (by decide) ?_
  refine lv_istore_n (lv' := [(3, .int 0), (2, .int 0), (1, .int 1), (0, .ref f)]) hx hb dX5_find_28 rfl hl (by decide) rfl (fun ls hl => ?_)
  refine lv_iload_n hx hb dX5_find_29 rfl (lv_at hl 0 rfl) ?_
  refine lv_aload_n hx hb dX5_find_30 rfl (lv_at hl 3 rfl) ?_
  refine va_get (D := (dC, dI)) (ci := 5) (v := .ref d) (C := RX5) (T := TX5) (N := 11) hx hb hts hin5 hown hK hP 3 rfl rfl 1 (by decide) hw1 (fun _ h9 => h9) rfl dX5_find_31 ?_
  refine va_get (D := (dC, dI)) (ci := 4) (v := .int 0) (C := RX4) (T := TX4) (N := 6) hx hb hts hin4 hown hK hP 4 rfl rfl 4 (by decide) hw2 (fun _ h9 => h9) rfl dX5_find_34 ?_
  refine lv_icmp_ge (tgt := 144) hx hb dX5_find_37 (by decide) (fun c5 => ?_) (fun c5 => absurd c5 (by decide))
  have hP9 := mx_subP (wc := [(f, .inr (5, [.ref k, .ref d, .ref j, .ref fl, .ref fh, .ref ff, .ref fa, .ref fm, .int 0, .int 0, .int 0])), (fl, .inl (cI, 61, .inl (upd (fun _ => 0) 0 0))), (fh, .inl (cI, 61, .inl (upd (fun _ => 0) 0 4000))), (d, .inr (4, [.ref ds, .int 0, .ref dk, .ref dw, .int 0, .int (-6)])), (k, .inr (0, [.ref ks, .ref kw, .ref kc, .int (-6), .int 0, .int 0, .ref kq, .ref km, .ref kd, .int 0, .ref ka, .ref kk]))]) hP [3, 0, 1, 4, 2] rfl
  have hD9 := hD.sub (ws' := [(f, .inr (5, [.ref k, .ref d, .ref j, .ref fl, .ref fh, .ref ff, .ref fa, .ref fm, .int 0, .int 0, .int 0])), (fl, .inl (cI, 61, .inl (upd (fun _ => 0) 0 0))), (fh, .inl (cI, 61, .inl (upd (fun _ => 0) 0 4000))), (d, .inr (4, [.ref ds, .int 0, .ref dk, .ref dw, .int 0, .int (-6)])), (k, .inr (0, [.ref ks, .ref kw, .ref kc, .int (-6), .int 0, .int 0, .ref kq, .ref km, .ref kd, .int 0, .ref ka, .ref kk]))]) [3, 0, 1, 4, 2] (by decide) rfl
  exact W.vret hx hb hr (fun t ht hW => ⟨⟨(), rfl, trivial, by rw [ht]; exact hP9, hD9⟩, hS.F ht⟩) hS.2.2 dX5_find_144
set_option maxHeartbeats 4000000 in
set_option maxRecDepth 100000 in
theorem c_X5_nth (l : Launch) (dC : Nat → ClassId) (dI : Nat → Nat → Nat) (cI cZ cK : ClassId) (tS aK aV : Nat) (f : Nat) (j : Nat) (k : Nat) (d : Nat) (ds : Nat) (dk : Nat) (dw : Nat) (fl : Nat) (fh : Nat) (ff : Nat) (fa : Nat) (fm : Nat) (i0 : Int32) (sz : Nat) : Ci l yX5_nth (wq yX5_nth cX5_nth 4 (some .int)) ({ frames := 0, cells := 0, slots := 0, locals := 0 }) dC dI cI cZ cK tS aK aV [.ref f, .int i0] sz [(f, .inr (5, [.ref k, .ref d, .ref j, .ref fl, .ref fh, .ref ff, .ref fa, .ref fm, .int 0, .int 0, .int 0])), (d, .inr (4, [.ref ds, .int 0, .ref dk, .ref dw, .int 0, .int (-6)]))] (fun (r : Int32) (_ : Unit) => r = (-6)) (fun _ => [(f, .inr (5, [.ref k, .ref d, .ref j, .ref fl, .ref fh, .ref ff, .ref fa, .ref fm, .int 0, .int 0, .int 0])), (d, .inr (4, [.ref ds, .int 0, .ref dk, .ref dw, .int 0, .int (-6)]))]) := by
  refine Met.ofW (cc := cX5_nth) (maxL := 4) (ret := (some .int)) (by decide) rfl ?_
  intro p e s m args below meth c s₁ B hml hv
  obtain ⟨rfl, hsz, hP, hKx, hD0⟩ := hv
  have hx := B.exec
  have hb := B.bytes
  have hr := B.returns
  have hts := atoms_spec (ws := wq yX5_nth cX5_nth 4 (some .int)) B.pre
  have hown : s.vm.findClass RX5 = some m.cls := findClass_of_methodNamed B.named
  have hlocks := B.notSynchronized
  subst hsz
  have hD := hD0.self (sz := s.heap.size)
  generalize hAe : va_A [(f, .inr (5, [.ref k, .ref d, .ref j, .ref fl, .ref fh, .ref ff, .ref fa, .ref fm, .int 0, .int 0, .int 0])), (d, .inr (4, [.ref ds, .int 0, .ref dk, .ref dw, .int 0, .int (-6)]))] s.heap.size = A at hD hKx ⊢
  have hA : ∀ q : Nat, s.heap.size ≤ q → A q := fun q h => by rw [← hAe]; exact Or.inr h
  have hS : va_S A s.heap s.heap [] := va_S.rf
  have hP : va_P (dC, dI) vwCl [(f, .inr (5, [.ref k, .ref d, .ref j, .ref fl, .ref fh, .ref ff, .ref fa, .ref fm, .int 0, .int 0, .int 0])), (d, .inr (4, [.ref ds, .int 0, .ref dk, .ref dw, .int 0, .int (-6)]))] s.heap := hP
  have hl := lv_entry ([.ref f, .int i0]) (n := 4) (Nat.le_of_ble_eq_true rfl)
  rw [lg_entry_eq]
  generalize (lg_sl ([.ref f, .int i0]) ++ List.replicate (4 - (lg_sl ([.ref f, .int i0])).length) Slot.unset).toArray = ls at hl ⊢
  have hl : lv_has ls 4 [(0, .ref f), (1, .int i0)] := hl
  have hK := hKx.1
  have hin5 := fun w9 h9 => List.mem_cons_of_mem (Cond.code yX5_nth cX5_nth 4 (some .int)) (inlX5 w9 h9)
  have hin4 := fun w9 h9 => List.mem_cons_of_mem (Cond.code yX5_nth cX5_nth 4 (some .int)) (inlX4 w9 h9)
  have hw0 := hts (.fieldLink RX5 31 "OneCan$Search" "pad" "LOneCan$Pad;") (List.mem_cons_of_mem _ wm_207)
  have hw1 := hts (.fieldLink RX5 54 "OneCan$Pad" "acts" "I") (List.mem_cons_of_mem _ wm_208)
  refine lv_iload_n hx hb dX5_nth_0 rfl (lv_at hl 1 rfl) ?_
  refine lv_istore_n (lv' := [(2, .int i0), (0, .ref f), (1, .int i0)]) hx hb dX5_nth_1 rfl hl (by decide) rfl (fun ls hl => ?_)
  refine lv_iconst (v := 0) hx hb dX5_nth_2 (by decide) ?_
  refine lv_istore_n (lv' := [(3, .int 0), (2, .int i0), (0, .ref f), (1, .int i0)]) hx hb dX5_nth_3 rfl hl (by decide) rfl (fun ls hl => ?_)
  refine lv_iload_n hx hb dX5_nth_4 rfl (lv_at hl 0 rfl) ?_
  refine lv_aload_n hx hb dX5_nth_5 rfl (lv_at hl 2 rfl) ?_
  refine va_get (D := (dC, dI)) (ci := 5) (v := .ref d) (C := RX5) (T := TX5) (N := 11) hx hb hts hin5 hown hK hP 0 rfl rfl 1 (by decide) hw0 (fun _ h9 => h9) rfl dX5_nth_6 ?_
  refine va_get (D := (dC, dI)) (ci := 4) (v := .int 0) (C := RX4) (T := TX4) (N := 6) hx hb hts hin4 hown hK hP 1 rfl rfl 4 (by decide) hw1 (fun _ h9 => h9) rfl dX5_nth_9 ?_
  refine lv_icmp_ge (tgt := 57) hx hb dX5_nth_12 (by decide) (fun c1 => ?_) (fun c1 => absurd c1 (by decide))
  refine lv_bipush (v := (-6)) hx hb dX5_nth_57 (by decide) ?_
  have hP9 := mx_subP (wc := [(f, .inr (5, [.ref k, .ref d, .ref j, .ref fl, .ref fh, .ref ff, .ref fa, .ref fm, .int 0, .int 0, .int 0])), (d, .inr (4, [.ref ds, .int 0, .ref dk, .ref dw, .int 0, .int (-6)]))]) hP [0, 1] rfl
  have hD9 := hD.sub (ws' := [(f, .inr (5, [.ref k, .ref d, .ref j, .ref fl, .ref fh, .ref ff, .ref fa, .ref fm, .int 0, .int 0, .int 0])), (d, .inr (4, [.ref ds, .int 0, .ref dk, .ref dw, .int 0, .int (-6)]))]) [0, 1] (by decide) rfl
  exact W.iret (v := (-6)) hx hb hr (fun t ht hW => ⟨⟨(-6), (), rfl, rfl, by rw [ht]; exact hP9, hD9⟩, hS.F ht⟩) hS.2.2 dX5_nth_59
set_option maxHeartbeats 4000000 in
set_option maxRecDepth 100000 in
theorem c_X5_actsAsBits (l : Launch) (dC : Nat → ClassId) (dI : Nat → Nat → Nat) (cI cZ cK : ClassId) (tS aK aV : Nat) (f : Nat) (j : Nat) (k : Nat) (d : Nat) (ds : Nat) (dk : Nat) (dw : Nat) (fl : Nat) (fh : Nat) (ff : Nat) (fa : Nat) (fm : Nat) (sz : Nat) : Ci l yX5_actsAsBits (wq yX5_actsAsBits cX5_actsAsBits 3 (some .int)) ({ frames := 0, cells := 0, slots := 0, locals := 0 }) dC dI cI cZ cK tS aK aV [.ref f] sz [(f, .inr (5, [.ref k, .ref d, .ref j, .ref fl, .ref fh, .ref ff, .ref fa, .ref fm, .int 0, .int 0, .int 0])), (d, .inr (4, [.ref ds, .int 0, .ref dk, .ref dw, .int 0, .int (-6)]))] (fun (r : Int32) (_ : Unit) => r = 0) (fun _ => [(f, .inr (5, [.ref k, .ref d, .ref j, .ref fl, .ref fh, .ref ff, .ref fa, .ref fm, .int 0, .int 0, .int 0])), (d, .inr (4, [.ref ds, .int 0, .ref dk, .ref dw, .int 0, .int (-6)]))]) := by
  refine Met.ofW (cc := cX5_actsAsBits) (maxL := 3) (ret := (some .int)) (by decide) rfl ?_
  intro p e s m args below meth c s₁ B hml hv
  obtain ⟨rfl, hsz, hP, hKx, hD0⟩ := hv
  have hx := B.exec
  have hb := B.bytes
  have hr := B.returns
  have hts := atoms_spec (ws := wq yX5_actsAsBits cX5_actsAsBits 3 (some .int)) B.pre
  have hown : s.vm.findClass RX5 = some m.cls := findClass_of_methodNamed B.named
  have hlocks := B.notSynchronized
  subst hsz
  have hD := hD0.self (sz := s.heap.size)
  generalize hAe : va_A [(f, .inr (5, [.ref k, .ref d, .ref j, .ref fl, .ref fh, .ref ff, .ref fa, .ref fm, .int 0, .int 0, .int 0])), (d, .inr (4, [.ref ds, .int 0, .ref dk, .ref dw, .int 0, .int (-6)]))] s.heap.size = A at hD hKx ⊢
  have hA : ∀ q : Nat, s.heap.size ≤ q → A q := fun q h => by rw [← hAe]; exact Or.inr h
  have hS : va_S A s.heap s.heap [] := va_S.rf
  have hP : va_P (dC, dI) vwCl [(f, .inr (5, [.ref k, .ref d, .ref j, .ref fl, .ref fh, .ref ff, .ref fa, .ref fm, .int 0, .int 0, .int 0])), (d, .inr (4, [.ref ds, .int 0, .ref dk, .ref dw, .int 0, .int (-6)]))] s.heap := hP
  have hl := lv_entry ([.ref f]) (n := 3) (Nat.le_of_ble_eq_true rfl)
  rw [lg_entry_eq]
  generalize (lg_sl ([.ref f]) ++ List.replicate (3 - (lg_sl ([.ref f])).length) Slot.unset).toArray = ls at hl ⊢
  have hl : lv_has ls 3 [(0, .ref f)] := hl
  have hK := hKx.1
  have hin5 := fun w9 h9 => List.mem_cons_of_mem (Cond.code yX5_actsAsBits cX5_actsAsBits 3 (some .int)) (inlX5 w9 h9)
  have hin4 := fun w9 h9 => List.mem_cons_of_mem (Cond.code yX5_actsAsBits cX5_actsAsBits 3 (some .int)) (inlX4 w9 h9)
  have hw0 := hts (.fieldLink RX5 31 "OneCan$Search" "pad" "LOneCan$Pad;") (List.mem_cons_of_mem _ wm_207)
  have hw1 := hts (.fieldLink RX5 54 "OneCan$Pad" "acts" "I") (List.mem_cons_of_mem _ wm_208)
  refine lv_iconst (v := 0) hx hb dX5_actsAsBits_0 (by decide) ?_
  refine lv_istore_n (lv' := [(1, .int 0), (0, .ref f)]) hx hb dX5_actsAsBits_1 rfl hl (by decide) rfl (fun ls hl => ?_)
  refine lv_iconst (v := 0) hx hb dX5_actsAsBits_2 (by decide) ?_
  refine lv_istore_n (lv' := [(2, .int 0), (1, .int 0), (0, .ref f)]) hx hb dX5_actsAsBits_3 rfl hl (by decide) rfl (fun ls hl => ?_)
  refine lv_iload_n hx hb dX5_actsAsBits_4 rfl (lv_at hl 0 rfl) ?_
  refine lv_aload_n hx hb dX5_actsAsBits_5 rfl (lv_at hl 2 rfl) ?_
  refine va_get (D := (dC, dI)) (ci := 5) (v := .ref d) (C := RX5) (T := TX5) (N := 11) hx hb hts hin5 hown hK hP 0 rfl rfl 1 (by decide) hw0 (fun _ h9 => h9) rfl dX5_actsAsBits_6 ?_
  refine va_get (D := (dC, dI)) (ci := 4) (v := .int 0) (C := RX4) (T := TX4) (N := 6) hx hb hts hin4 hown hK hP 1 rfl rfl 4 (by decide) hw1 (fun _ h9 => h9) rfl dX5_actsAsBits_9 ?_
  refine lv_icmp_ge (tgt := 41) hx hb dX5_actsAsBits_12 (by decide) (fun c1 => ?_) (fun c1 => absurd c1 (by decide))
  refine lv_iload_n hx hb dX5_actsAsBits_41 rfl (lv_at hl 1 rfl) ?_
  have hP9 := mx_subP (wc := [(f, .inr (5, [.ref k, .ref d, .ref j, .ref fl, .ref fh, .ref ff, .ref fa, .ref fm, .int 0, .int 0, .int 0])), (d, .inr (4, [.ref ds, .int 0, .ref dk, .ref dw, .int 0, .int (-6)]))]) hP [0, 1] rfl
  have hD9 := hD.sub (ws' := [(f, .inr (5, [.ref k, .ref d, .ref j, .ref fl, .ref fh, .ref ff, .ref fa, .ref fm, .int 0, .int 0, .int 0])), (d, .inr (4, [.ref ds, .int 0, .ref dk, .ref dw, .int 0, .int (-6)]))]) [0, 1] (by decide) rfl
  exact W.iret (v := 0) hx hb hr (fun t ht hW => ⟨⟨0, (), rfl, rfl, by rw [ht]; exact hP9, hD9⟩, hS.F ht⟩) hS.2.2 dX5_actsAsBits_42
set_option maxHeartbeats 4000000 in
set_option maxRecDepth 100000 in
theorem c_X5_chooseReading (l : Launch) (dC : Nat → ClassId) (dI : Nat → Nat → Nat) (cI cZ cK : ClassId) (tS aK aV : Nat) (f : Nat) (j : Nat) (k : Nat) (d : Nat) (ds : Nat) (dk : Nat) (dw : Nat) (fl : Nat) (fh : Nat) (ff : Nat) (fa : Nat) (fm : Nat) (sz : Nat) : Cv l yX5_chooseReading (wq yX5_chooseReading cX5_chooseReading 3 none) ({ frames := 0, cells := 0, slots := 0, locals := 0 }) dC dI cI cZ cK tS aK aV [.ref f] sz [(f, .inr (5, [.ref k, .ref d, .ref j, .ref fl, .ref fh, .ref ff, .ref fa, .ref fm, .int 0, .int 0, .int 0])), (d, .inr (4, [.ref ds, .int 0, .ref dk, .ref dw, .int 0, .int (-6)]))] (fun (u : Unit) => True) (fun _ => [(f, .inr (5, [.ref k, .ref d, .ref j, .ref fl, .ref fh, .ref ff, .ref fa, .ref fm, .int 0, .int (-6), .int (-6)])), (d, .inr (4, [.ref ds, .int 0, .ref dk, .ref dw, .int 0, .int (-6)]))]) := by
  refine Met.ofW (cc := cX5_chooseReading) (maxL := 3) (ret := none) (by decide) rfl ?_
  intro p e s m args below meth c s₁ B hml hv
  obtain ⟨rfl, hsz, hP, hKx, hD0⟩ := hv
  have hx := B.exec
  have hb := B.bytes
  have hr := B.returns
  have hts := atoms_spec (ws := wq yX5_chooseReading cX5_chooseReading 3 none) B.pre
  have hown : s.vm.findClass RX5 = some m.cls := findClass_of_methodNamed B.named
  have hlocks := B.notSynchronized
  subst hsz
  have hD := hD0.self (sz := s.heap.size)
  generalize hAe : va_A [(f, .inr (5, [.ref k, .ref d, .ref j, .ref fl, .ref fh, .ref ff, .ref fa, .ref fm, .int 0, .int 0, .int 0])), (d, .inr (4, [.ref ds, .int 0, .ref dk, .ref dw, .int 0, .int (-6)]))] s.heap.size = A at hD hKx ⊢
  have hA : ∀ q : Nat, s.heap.size ≤ q → A q := fun q h => by rw [← hAe]; exact Or.inr h
  have hS : va_S A s.heap s.heap [] := va_S.rf
  have hP : va_P (dC, dI) vwCl [(f, .inr (5, [.ref k, .ref d, .ref j, .ref fl, .ref fh, .ref ff, .ref fa, .ref fm, .int 0, .int 0, .int 0])), (d, .inr (4, [.ref ds, .int 0, .ref dk, .ref dw, .int 0, .int (-6)]))] s.heap := hP
  have hl := lv_entry ([.ref f]) (n := 3) (Nat.le_of_ble_eq_true rfl)
  rw [lg_entry_eq]
  generalize (lg_sl ([.ref f]) ++ List.replicate (3 - (lg_sl ([.ref f])).length) Slot.unset).toArray = ls at hl ⊢
  have hl : lv_has ls 3 [(0, .ref f)] := hl
  have hK := hKx.1
  have hin5 := fun w9 h9 => List.mem_cons_of_mem (Cond.code yX5_chooseReading cX5_chooseReading 3 none) (inlX5 w9 h9)
  have hin4 := fun w9 h9 => List.mem_cons_of_mem (Cond.code yX5_chooseReading cX5_chooseReading 3 none) (inlX4 w9 h9)
  have hw0 := hts (.fieldLink RX5 80 "OneCan$Search" "readBehind" "I") (List.mem_cons_of_mem _ wm_227)
  have hw1 := hts (.fieldLink RX5 83 "OneCan$Search" "stillLeft" "I") (List.mem_cons_of_mem _ wm_228)
  have hw2 := hts (.fieldLink RX5 31 "OneCan$Search" "pad" "LOneCan$Pad;") (List.mem_cons_of_mem _ wm_207)
  have hw3 := hts (.fieldLink RX5 54 "OneCan$Pad" "acts" "I") (List.mem_cons_of_mem _ wm_208)
  refine lv_aload_n hx hb dX5_chooseReading_0 rfl (lv_at hl 0 rfl) ?_
  refine lv_bipush (v := (-6)) hx hb dX5_chooseReading_1 (by decide) ?_
  refine va_put (D := (dC, dI)) (ci := 5) (v := .int (-6)) (ty := .int) (C := RX5) (T := TX5) (N := 11) hx hb hts hin5 tyX5 tyX5_ok nmX5 hown hK hP hD hS 0 rfl rfl 9 (by decide) hw0 (fun _ h9 => h9) rfl (by decide +kernel) rfl rfl (Nat.le_of_ble_eq_true rfl) dX5_chooseReading_3 (fun H locs hP hD hS => ?_)
  replace hP : va_P (dC, dI) vwCl [(f, .inr (5, [.ref k, .ref d, .ref j, .ref fl, .ref fh, .ref ff, .ref fa, .ref fm, .int 0, .int (-6), .int 0])), (d, .inr (4, [.ref ds, .int 0, .ref dk, .ref dw, .int 0, .int (-6)]))] H := hP
  replace hD : va_D A [(f, .inr (5, [.ref k, .ref d, .ref j, .ref fl, .ref fh, .ref ff, .ref fa, .ref fm, .int 0, .int (-6), .int 0])), (d, .inr (4, [.ref ds, .int 0, .ref dk, .ref dw, .int 0, .int (-6)]))] := hD
  refine lv_aload_n hx hb dX5_chooseReading_6 rfl (lv_at hl 0 rfl) ?_
  refine lv_bipush (v := (-6)) hx hb dX5_chooseReading_7 (by decide) ?_
  refine va_put (D := (dC, dI)) (ci := 5) (v := .int (-6)) (ty := .int) (C := RX5) (T := TX5) (N := 11) hx hb hts hin5 tyX5 tyX5_ok nmX5 hown hK hP hD hS 0 rfl rfl 10 (by decide) hw1 (fun _ h9 => h9) rfl (by decide +kernel) rfl rfl (Nat.le_of_ble_eq_true rfl) dX5_chooseReading_9 (fun H locs hP hD hS => ?_)
  replace hP : va_P (dC, dI) vwCl [(f, .inr (5, [.ref k, .ref d, .ref j, .ref fl, .ref fh, .ref ff, .ref fa, .ref fm, .int 0, .int (-6), .int (-6)])), (d, .inr (4, [.ref ds, .int 0, .ref dk, .ref dw, .int 0, .int (-6)]))] H := hP
  replace hD : va_D A [(f, .inr (5, [.ref k, .ref d, .ref j, .ref fl, .ref fh, .ref ff, .ref fa, .ref fm, .int 0, .int (-6), .int (-6)])), (d, .inr (4, [.ref ds, .int 0, .ref dk, .ref dw, .int 0, .int (-6)]))] := hD
  refine lv_iconst (v := 0) hx hb dX5_chooseReading_12 (by decide) ?_
  refine lv_istore_n (lv' := [(1, .int 0), (0, .ref f)]) hx hb dX5_chooseReading_13 rfl hl (by decide) rfl (fun ls hl => ?_)
  refine lv_iload_n hx hb dX5_chooseReading_14 rfl (lv_at hl 0 rfl) ?_
  refine lv_aload_n hx hb dX5_chooseReading_15 rfl (lv_at hl 1 rfl) ?_
  refine va_get (D := (dC, dI)) (ci := 5) (v := .ref d) (C := RX5) (T := TX5) (N := 11) hx hb hts hin5 hown hK hP 0 rfl rfl 1 (by decide) hw2 (fun _ h9 => h9) rfl dX5_chooseReading_16 ?_
  refine va_get (D := (dC, dI)) (ci := 4) (v := .int 0) (C := RX4) (T := TX4) (N := 6) hx hb hts hin4 hown hK hP 1 rfl rfl 4 (by decide) hw3 (fun _ h9 => h9) rfl dX5_chooseReading_19 ?_
  refine lv_icmp_ge (tgt := 71) hx hb dX5_chooseReading_22 (by decide) (fun c1 => ?_) (fun c1 => absurd c1 (by decide))
  have hP9 := mx_subP (wc := [(f, .inr (5, [.ref k, .ref d, .ref j, .ref fl, .ref fh, .ref ff, .ref fa, .ref fm, .int 0, .int (-6), .int (-6)])), (d, .inr (4, [.ref ds, .int 0, .ref dk, .ref dw, .int 0, .int (-6)]))]) hP [0, 1] rfl
  have hD9 := hD.sub (ws' := [(f, .inr (5, [.ref k, .ref d, .ref j, .ref fl, .ref fh, .ref ff, .ref fa, .ref fm, .int 0, .int (-6), .int (-6)])), (d, .inr (4, [.ref ds, .int 0, .ref dk, .ref dw, .int 0, .int (-6)]))]) [0, 1] (by decide) rfl
  exact W.vret hx hb hr (fun t ht hW => ⟨⟨(), rfl, trivial, by rw [ht]; exact hP9, hD9⟩, hS.F ht⟩) hS.2.2 dX5_chooseReading_71
set_option maxHeartbeats 4000000 in
set_option maxRecDepth 100000 in
theorem c_X7_searchRefusal (l : Launch) (dC : Nat → ClassId) (dI : Nat → Nat → Nat) (cI cZ cK : ClassId) (tS aK aV : Nat) (h : Nat) (o : Nat) (f : Nat) (g : Nat) (wk : Nat) (im : Nat) (kt : Nat) (dl : Nat) (j : Nat) (jd : Nat) (jb : Nat) (jw : Nat) (jl : Nat) (k : Nat) (ks : Nat) (kw : Nat) (kc : Nat) (kq : Nat) (km : Nat) (kd : Nat) (ka : Nat) (kk : Nat) (d : Nat) (ds : Nat) (dk : Nat) (dw : Nat) (fl : Nat) (fh : Nat) (ff : Nat) (fa : Nat) (fm : Nat) (sz : Nat) : Ci l yX7_searchRefusal (wq yX7_searchRefusal cX7_searchRefusal 2 (some .int)) ({ frames := 4, cells := 0, slots := 0, locals := 85 }) dC dI cI cZ cK tS aK aV [.ref h] sz [(h, .inr (7, [.ref k, .ref d, .ref j, .ref o, .ref f, .ref g, .ref wk, .ref im, .ref kt, .ref dl])), (d, .inr (4, [.ref ds, .int 0, .ref dk, .ref dw, .int 0, .int 0])), (j, .inr (1, [.ref k, .ref d, .ref jd, .ref jb, .ref jw, .ref jl, .int 0, .int 0, .int 0, .int 0, .int 0, .int 0, .int 0, .int 0])), (jl, .inl (cI, 61, .inl (fun _ => 0))), (k, .inr (0, [.ref ks, .ref kw, .ref kc, .int (-6), .int 0, .int 0, .ref kq, .ref km, .ref kd, .int 0, .ref ka, .ref kk])), (ks, .inl (cI, 5, .inl (upd (fun _ => 0) 0 800))), (f, .inr (5, [.ref k, .ref d, .ref j, .ref fl, .ref fh, .ref ff, .ref fa, .ref fm, .int 0, .int 0, .int 0])), (fl, .inl (cI, 61, .inl (fun _ => 0))), (fh, .inl (cI, 61, .inl (fun _ => 0)))] (fun (r : Int32) (_ : Unit) => r = 0) (fun _ => [(h, .inr (7, [.ref k, .ref d, .ref j, .ref o, .ref f, .ref g, .ref wk, .ref im, .ref kt, .ref dl])), (d, .inr (4, [.ref ds, .int 0, .ref dk, .ref dw, .int 0, .int (-6)])), (j, .inr (1, [.ref k, .ref d, .ref jd, .ref jb, .ref jw, .ref jl, .int (-6), .int (-6), .int 800, .int 0, .int (-6), .int 0, .int 0, .int 0])), (jl, .inl (cI, 61, .inl (upd (fun _ => 0) 0 800))), (k, .inr (0, [.ref ks, .ref kw, .ref kc, .int (-6), .int 0, .int 0, .ref kq, .ref km, .ref kd, .int 0, .ref ka, .ref kk])), (ks, .inl (cI, 5, .inl (upd (fun _ => 0) 0 800))), (f, .inr (5, [.ref k, .ref d, .ref j, .ref fl, .ref fh, .ref ff, .ref fa, .ref fm, .int 0, .int 0, .int 0])), (fl, .inl (cI, 61, .inl (upd (fun _ => 0) 0 0))), (fh, .inl (cI, 61, .inl (upd (fun _ => 0) 0 4000)))]) := by
  refine Met.ofW (cc := cX7_searchRefusal) (maxL := 2) (ret := (some .int)) (by decide) rfl ?_
  intro p e s m args below meth c s₁ B hml hv
  obtain ⟨rfl, hsz, hP, hKx, hD0⟩ := hv
  have hx := B.exec
  have hb := B.bytes
  have hr := B.returns
  have hts := atoms_spec (ws := wq yX7_searchRefusal cX7_searchRefusal 2 (some .int)) B.pre
  have hown : s.vm.findClass RX7 = some m.cls := findClass_of_methodNamed B.named
  have hlocks := B.notSynchronized
  subst hsz
  have hD := hD0.self (sz := s.heap.size)
  generalize hAe : va_A [(h, .inr (7, [.ref k, .ref d, .ref j, .ref o, .ref f, .ref g, .ref wk, .ref im, .ref kt, .ref dl])), (d, .inr (4, [.ref ds, .int 0, .ref dk, .ref dw, .int 0, .int 0])), (j, .inr (1, [.ref k, .ref d, .ref jd, .ref jb, .ref jw, .ref jl, .int 0, .int 0, .int 0, .int 0, .int 0, .int 0, .int 0, .int 0])), (jl, .inl (cI, 61, .inl (fun _ => 0))), (k, .inr (0, [.ref ks, .ref kw, .ref kc, .int (-6), .int 0, .int 0, .ref kq, .ref km, .ref kd, .int 0, .ref ka, .ref kk])), (ks, .inl (cI, 5, .inl (upd (fun _ => 0) 0 800))), (f, .inr (5, [.ref k, .ref d, .ref j, .ref fl, .ref fh, .ref ff, .ref fa, .ref fm, .int 0, .int 0, .int 0])), (fl, .inl (cI, 61, .inl (fun _ => 0))), (fh, .inl (cI, 61, .inl (fun _ => 0)))] s.heap.size = A at hD hKx ⊢
  have hA : ∀ q : Nat, s.heap.size ≤ q → A q := fun q h => by rw [← hAe]; exact Or.inr h
  have hS : va_S A s.heap s.heap [] := va_S.rf
  have hP : va_P (dC, dI) vwCl [(h, .inr (7, [.ref k, .ref d, .ref j, .ref o, .ref f, .ref g, .ref wk, .ref im, .ref kt, .ref dl])), (d, .inr (4, [.ref ds, .int 0, .ref dk, .ref dw, .int 0, .int 0])), (j, .inr (1, [.ref k, .ref d, .ref jd, .ref jb, .ref jw, .ref jl, .int 0, .int 0, .int 0, .int 0, .int 0, .int 0, .int 0, .int 0])), (jl, .inl (cI, 61, .inl (fun _ => 0))), (k, .inr (0, [.ref ks, .ref kw, .ref kc, .int (-6), .int 0, .int 0, .ref kq, .ref km, .ref kd, .int 0, .ref ka, .ref kk])), (ks, .inl (cI, 5, .inl (upd (fun _ => 0) 0 800))), (f, .inr (5, [.ref k, .ref d, .ref j, .ref fl, .ref fh, .ref ff, .ref fa, .ref fm, .int 0, .int 0, .int 0])), (fl, .inl (cI, 61, .inl (fun _ => 0))), (fh, .inl (cI, 61, .inl (fun _ => 0)))] s.heap := hP
  have hl := lv_entry ([.ref h]) (n := 2) (Nat.le_of_ble_eq_true rfl)
  rw [lg_entry_eq]
  generalize (lg_sl ([.ref h]) ++ List.replicate (2 - (lg_sl ([.ref h])).length) Slot.unset).toArray = ls at hl ⊢
  have hl : lv_has ls 2 [(0, .ref h)] := hl
  have hK := hKx.1
  have hin7 := fun w9 h9 => List.mem_cons_of_mem (Cond.code yX7_searchRefusal cX7_searchRefusal 2 (some .int)) (inlX7 w9 h9)
  have hw0 := hts (.fieldLink RX7 46 "OneCan" "search" "LOneCan$Search;") (List.mem_cons_of_mem _ wm_229)
  refine lv_aload_n hx hb dX7_searchRefusal_0 rfl (lv_at hl 0 rfl) ?_
  refine lv_iconst (v := 0) hx hb dX7_searchRefusal_1 (by decide) ?_
  refine mx_i (wr := [(f, .inr (5, [.ref k, .ref d, .ref j, .ref fl, .ref fh, .ref ff, .ref fa, .ref fm, .int 0, .int 0, .int 0])), (fl, .inl (cI, 61, .inl (fun _ => 0))), (fh, .inl (cI, 61, .inl (fun _ => 0)))]) (va_runV (As := [.int 0]) (rest := []) ⟨hx, hb, hml, hown, hts⟩ (c_X7_planRefusal l dC dI cI cZ cK tS aK aV h o f g wk im kt dl j jd jb jw jl k ks kw kc kq km kd ka kk d ds dk dw 0 s.heap.size) (cwV 1 hts (gw_v (fun _ h9 => List.mem_cons_of_mem _ h9) wm_72 wm_73 wm_74 wm_2 wm_75) rfl rfl rfl (by decide +kernel) ⟨Nat.le_of_ble_eq_true rfl, Nat.le_of_ble_eq_true rfl⟩) (mx_preV (C := RX7) (T := TX7) (N := 10) (ci := 7) hKx hP hD hS hA [0, 1, 2, 3, 4, 5] (by decide) rfl rfl rfl) rfl rfl hl.1 rfl (lv_room (Nat.le_of_ble_eq_true rfl)) dX7_searchRefusal_2 ⟨Nat.le_of_ble_eq_true rfl, Nat.le_of_ble_eq_true rfl⟩) hP hD hS hA [0, 1, 2, 3, 4, 5] [6, 7, 8] rfl rfl (by decide) (by decide) (fun r1 u1 H locs hq1 hP hD hS => ?_)
  replace hP : va_P (dC, dI) vwCl [(f, .inr (5, [.ref k, .ref d, .ref j, .ref fl, .ref fh, .ref ff, .ref fa, .ref fm, .int 0, .int 0, .int 0])), (fl, .inl (cI, 61, .inl (fun _ => 0))), (fh, .inl (cI, 61, .inl (fun _ => 0))), (h, .inr (7, [.ref k, .ref d, .ref j, .ref o, .ref f, .ref g, .ref wk, .ref im, .ref kt, .ref dl])), (d, .inr (4, [.ref ds, .int 0, .ref dk, .ref dw, .int 0, .int (-6)])), (j, .inr (1, [.ref k, .ref d, .ref jd, .ref jb, .ref jw, .ref jl, .int (-6), .int (-6), .int 800, .int 0, .int (-6), .int 0, .int 0, .int 0])), (jl, .inl (cI, 61, .inl (upd (fun _ => 0) 0 800))), (k, .inr (0, [.ref ks, .ref kw, .ref kc, .int (-6), .int 0, .int 0, .ref kq, .ref km, .ref kd, .int 0, .ref ka, .ref kk])), (ks, .inl (cI, 5, .inl (upd (fun _ => 0) 0 800)))] H := hP
  replace hD : va_D A [(f, .inr (5, [.ref k, .ref d, .ref j, .ref fl, .ref fh, .ref ff, .ref fa, .ref fm, .int 0, .int 0, .int 0])), (fl, .inl (cI, 61, .inl (fun _ => 0))), (fh, .inl (cI, 61, .inl (fun _ => 0))), (h, .inr (7, [.ref k, .ref d, .ref j, .ref o, .ref f, .ref g, .ref wk, .ref im, .ref kt, .ref dl])), (d, .inr (4, [.ref ds, .int 0, .ref dk, .ref dw, .int 0, .int (-6)])), (j, .inr (1, [.ref k, .ref d, .ref jd, .ref jb, .ref jw, .ref jl, .int (-6), .int (-6), .int 800, .int 0, .int (-6), .int 0, .int 0, .int 0])), (jl, .inl (cI, 61, .inl (upd (fun _ => 0) 0 800))), (k, .inr (0, [.ref ks, .ref kw, .ref kc, .int (-6), .int 0, .int 0, .ref kq, .ref km, .ref kd, .int 0, .ref ka, .ref kk])), (ks, .inl (cI, 5, .inl (upd (fun _ => 0) 0 800)))] := hD
  obtain rfl : r1 = 0 := hq1
  refine lv_istore_n (lv' := [(1, .int 0), (0, .ref h)]) hx hb dX7_searchRefusal_5 rfl hl (by decide) rfl (fun ls hl => ?_)
  refine lv_iload_n hx hb dX7_searchRefusal_6 rfl (lv_at hl 0 rfl) ?_
  refine lv_if_ne (tgt := 17) hx hb dX7_searchRefusal_7 (by decide) (fun c2 => absurd c2 (by decide)) (fun c2 => ?_)
  refine lv_aload_n hx hb dX7_searchRefusal_10 rfl (lv_at hl 1 rfl) ?_
  refine va_get (D := (dC, dI)) (ci := 7) (v := .ref f) (C := RX7) (T := TX7) (N := 10) hx hb hts hin7 hown hK hP 3 rfl rfl 4 (by decide) hw0 (fun _ h9 => h9) rfl dX7_searchRefusal_11 ?_
  refine mx_v (wr := [(h, .inr (7, [.ref k, .ref d, .ref j, .ref o, .ref f, .ref g, .ref wk, .ref im, .ref kt, .ref dl])), (j, .inr (1, [.ref k, .ref d, .ref jd, .ref jb, .ref jw, .ref jl, .int (-6), .int (-6), .int 800, .int 0, .int (-6), .int 0, .int 0, .int 0])), (jl, .inl (cI, 61, .inl (upd (fun _ => 0) 0 800))), (ks, .inl (cI, 5, .inl (upd (fun _ => 0) 0 800)))]) (va_runV (As := []) (rest := []) ⟨hx, hb, hml, hown, hts⟩ (c_X5_find l dC dI cI cZ cK tS aK aV f j k ks kw kc kq km kd ka kk d ds dk dw fl fh ff fa fm H.size) (cwV 0 hts (gw_v (fun _ h9 => List.mem_cons_of_mem _ h9) wm_230 wm_231 wm_232 wm_216 wm_233) rfl rfl rfl (by decide +kernel) ⟨Nat.le_of_ble_eq_true rfl, Nat.le_of_ble_eq_true rfl⟩) (mx_preV (C := RX5) (T := TX5) (N := 11) (ci := 5) hKx hP hD hS hA [0, 1, 2, 4, 7] (by decide) rfl rfl rfl) rfl rfl hl.1 rfl (lv_room (Nat.le_of_ble_eq_true rfl)) dX7_searchRefusal_14 ⟨Nat.le_of_ble_eq_true rfl, Nat.le_of_ble_eq_true rfl⟩) hP hD hS hA [0, 1, 2, 4, 7] [3, 5, 6, 8] rfl rfl (by decide) (by decide) (fun u3 H locs hq3 hP hD hS => ?_)
  replace hP : va_P (dC, dI) vwCl [(h, .inr (7, [.ref k, .ref d, .ref j, .ref o, .ref f, .ref g, .ref wk, .ref im, .ref kt, .ref dl])), (j, .inr (1, [.ref k, .ref d, .ref jd, .ref jb, .ref jw, .ref jl, .int (-6), .int (-6), .int 800, .int 0, .int (-6), .int 0, .int 0, .int 0])), (jl, .inl (cI, 61, .inl (upd (fun _ => 0) 0 800))), (ks, .inl (cI, 5, .inl (upd (fun _ => 0) 0 800))), (f, .inr (5, [.ref k, .ref d, .ref j, .ref fl, .ref fh, .ref ff, .ref fa, .ref fm, .int 0, .int 0, .int 0])), (fl, .inl (cI, 61, .inl (upd (fun _ => 0) 0 0))), (fh, .inl (cI, 61, .inl (upd (fun _ => 0) 0 4000))), (d, .inr (4, [.ref ds, .int 0, .ref dk, .ref dw, .int 0, .int (-6)])), (k, .inr (0, [.ref ks, .ref kw, .ref kc, .int (-6), .int 0, .int 0, .ref kq, .ref km, .ref kd, .int 0, .ref ka, .ref kk]))] H := hP
  replace hD : va_D A [(h, .inr (7, [.ref k, .ref d, .ref j, .ref o, .ref f, .ref g, .ref wk, .ref im, .ref kt, .ref dl])), (j, .inr (1, [.ref k, .ref d, .ref jd, .ref jb, .ref jw, .ref jl, .int (-6), .int (-6), .int 800, .int 0, .int (-6), .int 0, .int 0, .int 0])), (jl, .inl (cI, 61, .inl (upd (fun _ => 0) 0 800))), (ks, .inl (cI, 5, .inl (upd (fun _ => 0) 0 800))), (f, .inr (5, [.ref k, .ref d, .ref j, .ref fl, .ref fh, .ref ff, .ref fa, .ref fm, .int 0, .int 0, .int 0])), (fl, .inl (cI, 61, .inl (upd (fun _ => 0) 0 0))), (fh, .inl (cI, 61, .inl (upd (fun _ => 0) 0 4000))), (d, .inr (4, [.ref ds, .int 0, .ref dk, .ref dw, .int 0, .int (-6)])), (k, .inr (0, [.ref ks, .ref kw, .ref kc, .int (-6), .int 0, .int 0, .ref kq, .ref km, .ref kd, .int 0, .ref ka, .ref kk]))] := hD
  refine lv_iload_n hx hb dX7_searchRefusal_17 rfl (lv_at hl 0 rfl) ?_
  have hP9 := mx_subP (wc := [(h, .inr (7, [.ref k, .ref d, .ref j, .ref o, .ref f, .ref g, .ref wk, .ref im, .ref kt, .ref dl])), (d, .inr (4, [.ref ds, .int 0, .ref dk, .ref dw, .int 0, .int (-6)])), (j, .inr (1, [.ref k, .ref d, .ref jd, .ref jb, .ref jw, .ref jl, .int (-6), .int (-6), .int 800, .int 0, .int (-6), .int 0, .int 0, .int 0])), (jl, .inl (cI, 61, .inl (upd (fun _ => 0) 0 800))), (k, .inr (0, [.ref ks, .ref kw, .ref kc, .int (-6), .int 0, .int 0, .ref kq, .ref km, .ref kd, .int 0, .ref ka, .ref kk])), (ks, .inl (cI, 5, .inl (upd (fun _ => 0) 0 800))), (f, .inr (5, [.ref k, .ref d, .ref j, .ref fl, .ref fh, .ref ff, .ref fa, .ref fm, .int 0, .int 0, .int 0])), (fl, .inl (cI, 61, .inl (upd (fun _ => 0) 0 0))), (fh, .inl (cI, 61, .inl (upd (fun _ => 0) 0 4000)))]) hP [0, 7, 1, 2, 8, 3, 4, 5, 6] rfl
  have hD9 := hD.sub (ws' := [(h, .inr (7, [.ref k, .ref d, .ref j, .ref o, .ref f, .ref g, .ref wk, .ref im, .ref kt, .ref dl])), (d, .inr (4, [.ref ds, .int 0, .ref dk, .ref dw, .int 0, .int (-6)])), (j, .inr (1, [.ref k, .ref d, .ref jd, .ref jb, .ref jw, .ref jl, .int (-6), .int (-6), .int 800, .int 0, .int (-6), .int 0, .int 0, .int 0])), (jl, .inl (cI, 61, .inl (upd (fun _ => 0) 0 800))), (k, .inr (0, [.ref ks, .ref kw, .ref kc, .int (-6), .int 0, .int 0, .ref kq, .ref km, .ref kd, .int 0, .ref ka, .ref kk])), (ks, .inl (cI, 5, .inl (upd (fun _ => 0) 0 800))), (f, .inr (5, [.ref k, .ref d, .ref j, .ref fl, .ref fh, .ref ff, .ref fa, .ref fm, .int 0, .int 0, .int 0])), (fl, .inl (cI, 61, .inl (upd (fun _ => 0) 0 0))), (fh, .inl (cI, 61, .inl (upd (fun _ => 0) 0 4000)))]) [0, 7, 1, 2, 8, 3, 4, 5, 6] (by decide) rfl
  exact W.iret (v := 0) hx hb hr (fun t ht hW => ⟨⟨0, (), rfl, rfl, by rw [ht]; exact hP9, hD9⟩, hS.F ht⟩) hS.2.2 dX7_searchRefusal_18
set_option maxHeartbeats 4000000 in
set_option maxRecDepth 100000 in
theorem c_X7_leaks (l : Launch) (dC : Nat → ClassId) (dI : Nat → Nat → Nat) (cI cZ cK : ClassId) (tS aK aV : Nat) (h : Nat) (o : Nat) (f : Nat) (g : Nat) (wk : Nat) (im : Nat) (kt : Nat) (dl : Nat) (j : Nat) (jd : Nat) (jb : Nat) (jw : Nat) (jl : Nat) (k : Nat) (ks : Nat) (kw : Nat) (kc : Nat) (kq : Nat) (km : Nat) (kd : Nat) (ka : Nat) (kk : Nat) (d : Nat) (ds : Nat) (dk : Nat) (dw : Nat) (fl : Nat) (fh : Nat) (ff : Nat) (fa : Nat) (fm : Nat) (i0 : Int32) (sz : Nat) : Ci l yX7_leaks (wq yX7_leaks cX7_leaks 3 (some .int)) ({ frames := 5, cells := 0, slots := 0, locals := 106 }) dC dI cI cZ cK tS aK aV [.ref h, .int i0] sz [(h, .inr (7, [.ref k, .ref d, .ref j, .ref o, .ref f, .ref g, .ref wk, .ref im, .ref kt, .ref dl])), (d, .inr (4, [.ref ds, .int 0, .ref dk, .ref dw, .int 0, .int 0])), (j, .inr (1, [.ref k, .ref d, .ref jd, .ref jb, .ref jw, .ref jl, .int 0, .int 0, .int 0, .int 0, .int 0, .int 0, .int 0, .int 0])), (jl, .inl (cI, 61, .inl (fun _ => 0))), (k, .inr (0, [.ref ks, .ref kw, .ref kc, .int (-6), .int 0, .int 0, .ref kq, .ref km, .ref kd, .int 0, .ref ka, .ref kk])), (ks, .inl (cI, 5, .inl (upd (fun _ => 0) 0 800))), (f, .inr (5, [.ref k, .ref d, .ref j, .ref fl, .ref fh, .ref ff, .ref fa, .ref fm, .int 0, .int 0, .int 0])), (fl, .inl (cI, 61, .inl (fun _ => 0))), (fh, .inl (cI, 61, .inl (fun _ => 0)))] (fun (r : Int32) (_ : Unit) => (r = 0 ∧ (i0.toInt = -1)) ∨ (r = (-6) ∧ (i0.toInt ≠ -1))) (fun _ => []) := by
  refine Met.ofW (cc := cX7_leaks) (maxL := 3) (ret := (some .int)) (by decide) rfl ?_
  intro p e s m args below meth c s₁ B hml hv
  obtain ⟨rfl, hsz, hP, hKx, hD0⟩ := hv
  have hx := B.exec
  have hb := B.bytes
  have hr := B.returns
  have hts := atoms_spec (ws := wq yX7_leaks cX7_leaks 3 (some .int)) B.pre
  have hown : s.vm.findClass RX7 = some m.cls := findClass_of_methodNamed B.named
  have hlocks := B.notSynchronized
  subst hsz
  have hD := hD0.self (sz := s.heap.size)
  generalize hAe : va_A [(h, .inr (7, [.ref k, .ref d, .ref j, .ref o, .ref f, .ref g, .ref wk, .ref im, .ref kt, .ref dl])), (d, .inr (4, [.ref ds, .int 0, .ref dk, .ref dw, .int 0, .int 0])), (j, .inr (1, [.ref k, .ref d, .ref jd, .ref jb, .ref jw, .ref jl, .int 0, .int 0, .int 0, .int 0, .int 0, .int 0, .int 0, .int 0])), (jl, .inl (cI, 61, .inl (fun _ => 0))), (k, .inr (0, [.ref ks, .ref kw, .ref kc, .int (-6), .int 0, .int 0, .ref kq, .ref km, .ref kd, .int 0, .ref ka, .ref kk])), (ks, .inl (cI, 5, .inl (upd (fun _ => 0) 0 800))), (f, .inr (5, [.ref k, .ref d, .ref j, .ref fl, .ref fh, .ref ff, .ref fa, .ref fm, .int 0, .int 0, .int 0])), (fl, .inl (cI, 61, .inl (fun _ => 0))), (fh, .inl (cI, 61, .inl (fun _ => 0)))] s.heap.size = A at hD hKx ⊢
  have hA : ∀ q : Nat, s.heap.size ≤ q → A q := fun q h => by rw [← hAe]; exact Or.inr h
  have hS : va_S A s.heap s.heap [] := va_S.rf
  have hP : va_P (dC, dI) vwCl [(h, .inr (7, [.ref k, .ref d, .ref j, .ref o, .ref f, .ref g, .ref wk, .ref im, .ref kt, .ref dl])), (d, .inr (4, [.ref ds, .int 0, .ref dk, .ref dw, .int 0, .int 0])), (j, .inr (1, [.ref k, .ref d, .ref jd, .ref jb, .ref jw, .ref jl, .int 0, .int 0, .int 0, .int 0, .int 0, .int 0, .int 0, .int 0])), (jl, .inl (cI, 61, .inl (fun _ => 0))), (k, .inr (0, [.ref ks, .ref kw, .ref kc, .int (-6), .int 0, .int 0, .ref kq, .ref km, .ref kd, .int 0, .ref ka, .ref kk])), (ks, .inl (cI, 5, .inl (upd (fun _ => 0) 0 800))), (f, .inr (5, [.ref k, .ref d, .ref j, .ref fl, .ref fh, .ref ff, .ref fa, .ref fm, .int 0, .int 0, .int 0])), (fl, .inl (cI, 61, .inl (fun _ => 0))), (fh, .inl (cI, 61, .inl (fun _ => 0)))] s.heap := hP
  have hl := lv_entry ([.ref h, .int i0]) (n := 3) (Nat.le_of_ble_eq_true rfl)
  rw [lg_entry_eq]
  generalize (lg_sl ([.ref h, .int i0]) ++ List.replicate (3 - (lg_sl ([.ref h, .int i0])).length) Slot.unset).toArray = ls at hl ⊢
  have hl : lv_has ls 3 [(0, .ref h), (1, .int i0)] := hl
  have hK := hKx.1
  have hin7 := fun w9 h9 => List.mem_cons_of_mem (Cond.code yX7_leaks cX7_leaks 3 (some .int)) (inlX7 w9 h9)
  have hin5 := fun w9 h9 => List.mem_cons_of_mem (Cond.code yX7_leaks cX7_leaks 3 (some .int)) (inlX5 w9 h9)
  have hw0 := hts (.fieldLink RX7 46 "OneCan" "search" "LOneCan$Search;") (List.mem_cons_of_mem _ wm_229)
  have hw1 := hts (.fieldLink RX7 219 "OneCan$Search" "count" "I") (List.mem_cons_of_mem _ wm_242)
  refine lv_aload_n hx hb dX7_leaks_0 rfl (lv_at hl 0 rfl) ?_
  refine mx_i (wr := []) (va_runV (As := []) (rest := []) ⟨hx, hb, hml, hown, hts⟩ (c_X7_searchRefusal l dC dI cI cZ cK tS aK aV h o f g wk im kt dl j jd jb jw jl k ks kw kc kq km kd ka kk d ds dk dw fl fh ff fa fm s.heap.size) (cwV 0 hts (gw_v (fun _ h9 => List.mem_cons_of_mem _ h9) wm_234 wm_235 wm_236 wm_2 wm_237) rfl rfl rfl (by decide +kernel) ⟨Nat.le_of_ble_eq_true rfl, Nat.le_of_ble_eq_true rfl⟩) (mx_preV (C := RX7) (T := TX7) (N := 10) (ci := 7) hKx hP hD hS hA [0, 1, 2, 3, 4, 5, 6, 7, 8] (by decide) rfl rfl rfl) rfl rfl hl.1 rfl (lv_room (Nat.le_of_ble_eq_true rfl)) dX7_leaks_1 ⟨Nat.le_of_ble_eq_true rfl, Nat.le_of_ble_eq_true rfl⟩) hP hD hS hA [0, 1, 2, 3, 4, 5, 6, 7, 8] [] rfl rfl (by decide) (by decide) (fun r1 u1 H locs hq1 hP hD hS => ?_)
  replace hP : va_P (dC, dI) vwCl [(h, .inr (7, [.ref k, .ref d, .ref j, .ref o, .ref f, .ref g, .ref wk, .ref im, .ref kt, .ref dl])), (d, .inr (4, [.ref ds, .int 0, .ref dk, .ref dw, .int 0, .int (-6)])), (j, .inr (1, [.ref k, .ref d, .ref jd, .ref jb, .ref jw, .ref jl, .int (-6), .int (-6), .int 800, .int 0, .int (-6), .int 0, .int 0, .int 0])), (jl, .inl (cI, 61, .inl (upd (fun _ => 0) 0 800))), (k, .inr (0, [.ref ks, .ref kw, .ref kc, .int (-6), .int 0, .int 0, .ref kq, .ref km, .ref kd, .int 0, .ref ka, .ref kk])), (ks, .inl (cI, 5, .inl (upd (fun _ => 0) 0 800))), (f, .inr (5, [.ref k, .ref d, .ref j, .ref fl, .ref fh, .ref ff, .ref fa, .ref fm, .int 0, .int 0, .int 0])), (fl, .inl (cI, 61, .inl (upd (fun _ => 0) 0 0))), (fh, .inl (cI, 61, .inl (upd (fun _ => 0) 0 4000)))] H := hP
  replace hD : va_D A [(h, .inr (7, [.ref k, .ref d, .ref j, .ref o, .ref f, .ref g, .ref wk, .ref im, .ref kt, .ref dl])), (d, .inr (4, [.ref ds, .int 0, .ref dk, .ref dw, .int 0, .int (-6)])), (j, .inr (1, [.ref k, .ref d, .ref jd, .ref jb, .ref jw, .ref jl, .int (-6), .int (-6), .int 800, .int 0, .int (-6), .int 0, .int 0, .int 0])), (jl, .inl (cI, 61, .inl (upd (fun _ => 0) 0 800))), (k, .inr (0, [.ref ks, .ref kw, .ref kc, .int (-6), .int 0, .int 0, .ref kq, .ref km, .ref kd, .int 0, .ref ka, .ref kk])), (ks, .inl (cI, 5, .inl (upd (fun _ => 0) 0 800))), (f, .inr (5, [.ref k, .ref d, .ref j, .ref fl, .ref fh, .ref ff, .ref fa, .ref fm, .int 0, .int 0, .int 0])), (fl, .inl (cI, 61, .inl (upd (fun _ => 0) 0 0))), (fh, .inl (cI, 61, .inl (upd (fun _ => 0) 0 4000)))] := hD
  obtain rfl : r1 = 0 := hq1
  refine lv_istore_n (lv' := [(2, .int 0), (0, .ref h), (1, .int i0)]) hx hb dX7_leaks_4 rfl hl (by decide) rfl (fun ls hl => ?_)
  refine lv_iload_n hx hb dX7_leaks_5 rfl (lv_at hl 0 rfl) ?_
  refine lv_if_eq (tgt := 11) hx hb dX7_leaks_6 (by decide) (fun c2 => ?_) (fun c2 => absurd c2 (by decide))
  refine lv_iload_n hx hb dX7_leaks_11 rfl (lv_at hl 2 rfl) ?_
  refine lv_iconst (v := (-1)) hx hb dX7_leaks_12 (by decide) ?_
  refine lv_icmp_ne (tgt := 26) hx hb dX7_leaks_13 (by decide) (fun c3 => ?_) (fun c3 => ?_)
  · have t3 : i0.toInt ≠ (-1 : Int) := (tne c3)
    refine lv_aload_n hx hb dX7_leaks_26 rfl (lv_at hl 1 rfl) ?_
    refine va_get (D := (dC, dI)) (ci := 7) (v := .ref f) (C := RX7) (T := TX7) (N := 10) hx hb hts hin7 hown hK hP 0 rfl rfl 4 (by decide) hw0 (fun _ h9 => h9) rfl dX7_leaks_27 ?_
    refine lv_iload_n hx hb dX7_leaks_30 rfl (lv_at hl 2 rfl) ?_
    refine mx_i (wr := [(h, .inr (7, [.ref k, .ref d, .ref j, .ref o, .ref f, .ref g, .ref wk, .ref im, .ref kt, .ref dl])), (j, .inr (1, [.ref k, .ref d, .ref jd, .ref jb, .ref jw, .ref jl, .int (-6), .int (-6), .int 800, .int 0, .int (-6), .int 0, .int 0, .int 0])), (jl, .inl (cI, 61, .inl (upd (fun _ => 0) 0 800))), (k, .inr (0, [.ref ks, .ref kw, .ref kc, .int (-6), .int 0, .int 0, .ref kq, .ref km, .ref kd, .int 0, .ref ka, .ref kk])), (ks, .inl (cI, 5, .inl (upd (fun _ => 0) 0 800))), (fl, .inl (cI, 61, .inl (upd (fun _ => 0) 0 0))), (fh, .inl (cI, 61, .inl (upd (fun _ => 0) 0 4000)))]) (va_runV (As := [.int i0]) (rest := []) ⟨hx, hb, hml, hown, hts⟩ (c_X5_nth l dC dI cI cZ cK tS aK aV f j k d ds dk dw fl fh ff fa fm i0 H.size) (cwV 1 hts (gw_v (fun _ h9 => List.mem_cons_of_mem _ h9) wm_238 wm_239 wm_240 wm_216 wm_241) rfl rfl rfl (by decide +kernel) ⟨Nat.le_of_ble_eq_true rfl, Nat.le_of_ble_eq_true rfl⟩) (mx_preV (C := RX5) (T := TX5) (N := 11) (ci := 5) hKx hP hD hS hA [6, 1] (by decide) rfl rfl rfl) rfl rfl hl.1 rfl (lv_room (Nat.le_of_ble_eq_true rfl)) dX7_leaks_31 ⟨Nat.le_of_ble_eq_true rfl, Nat.le_of_ble_eq_true rfl⟩) hP hD hS hA [6, 1] [0, 2, 3, 4, 5, 7, 8] rfl rfl (by decide) (by decide) (fun r4 u4 H locs hq4 hP hD hS => ?_)
    replace hP : va_P (dC, dI) vwCl [(h, .inr (7, [.ref k, .ref d, .ref j, .ref o, .ref f, .ref g, .ref wk, .ref im, .ref kt, .ref dl])), (j, .inr (1, [.ref k, .ref d, .ref jd, .ref jb, .ref jw, .ref jl, .int (-6), .int (-6), .int 800, .int 0, .int (-6), .int 0, .int 0, .int 0])), (jl, .inl (cI, 61, .inl (upd (fun _ => 0) 0 800))), (k, .inr (0, [.ref ks, .ref kw, .ref kc, .int (-6), .int 0, .int 0, .ref kq, .ref km, .ref kd, .int 0, .ref ka, .ref kk])), (ks, .inl (cI, 5, .inl (upd (fun _ => 0) 0 800))), (fl, .inl (cI, 61, .inl (upd (fun _ => 0) 0 0))), (fh, .inl (cI, 61, .inl (upd (fun _ => 0) 0 4000))), (f, .inr (5, [.ref k, .ref d, .ref j, .ref fl, .ref fh, .ref ff, .ref fa, .ref fm, .int 0, .int 0, .int 0])), (d, .inr (4, [.ref ds, .int 0, .ref dk, .ref dw, .int 0, .int (-6)]))] H := hP
    replace hD : va_D A [(h, .inr (7, [.ref k, .ref d, .ref j, .ref o, .ref f, .ref g, .ref wk, .ref im, .ref kt, .ref dl])), (j, .inr (1, [.ref k, .ref d, .ref jd, .ref jb, .ref jw, .ref jl, .int (-6), .int (-6), .int 800, .int 0, .int (-6), .int 0, .int 0, .int 0])), (jl, .inl (cI, 61, .inl (upd (fun _ => 0) 0 800))), (k, .inr (0, [.ref ks, .ref kw, .ref kc, .int (-6), .int 0, .int 0, .ref kq, .ref km, .ref kd, .int 0, .ref ka, .ref kk])), (ks, .inl (cI, 5, .inl (upd (fun _ => 0) 0 800))), (fl, .inl (cI, 61, .inl (upd (fun _ => 0) 0 0))), (fh, .inl (cI, 61, .inl (upd (fun _ => 0) 0 4000))), (f, .inr (5, [.ref k, .ref d, .ref j, .ref fl, .ref fh, .ref ff, .ref fa, .ref fm, .int 0, .int 0, .int 0])), (d, .inr (4, [.ref ds, .int 0, .ref dk, .ref dw, .int 0, .int (-6)]))] := hD
    obtain rfl : r4 = (-6) := hq4
    have hP9 := mx_subP (wc := []) hP [] rfl
    have hD9 := hD.sub (ws' := []) [] (by decide) rfl
    exact W.iret (v := (-6)) hx hb hr (fun t ht hW => ⟨⟨(-6), (), rfl, (by first | exact Or.inl (⟨rfl, by omega⟩) | exact Or.inr (⟨rfl, by omega⟩)), by rw [ht]; exact hP9, hD9⟩, hS.F ht⟩) hS.2.2 dX7_leaks_34
  · have t3 : i0.toInt = (-1 : Int) := (teq c3)
    refine lv_aload_n hx hb dX7_leaks_16 rfl (lv_at hl 1 rfl) ?_
    refine va_get (D := (dC, dI)) (ci := 7) (v := .ref f) (C := RX7) (T := TX7) (N := 10) hx hb hts hin7 hown hK hP 0 rfl rfl 4 (by decide) hw0 (fun _ h9 => h9) rfl dX7_leaks_17 ?_
    refine va_get (D := (dC, dI)) (ci := 5) (v := .int 0) (C := RX5) (T := TX5) (N := 11) hx hb hts hin5 hown hK hP 6 rfl rfl 8 (by decide) hw1 (fun _ h9 => h9) rfl dX7_leaks_20 ?_
    refine lv_goto (tgt := 34) hx hb dX7_leaks_23 (by decide) ?_
    have hP9 := mx_subP (wc := []) hP [] rfl
    have hD9 := hD.sub (ws' := []) [] (by decide) rfl
    exact W.iret (v := 0) hx hb hr (fun t ht hW => ⟨⟨0, (), rfl, (by first | exact Or.inl (⟨rfl, by omega⟩) | exact Or.inr (⟨rfl, by omega⟩)), by rw [ht]; exact hP9, hD9⟩, hS.F ht⟩) hS.2.2 dX7_leaks_34
set_option maxHeartbeats 4000000 in
set_option maxRecDepth 100000 in
theorem c_X7_where (l : Launch) (dC : Nat → ClassId) (dI : Nat → Nat → Nat) (cI cZ cK : ClassId) (tS aK aV : Nat) (h : Nat) (o : Nat) (f : Nat) (g : Nat) (wk : Nat) (im : Nat) (kt : Nat) (dl : Nat) (j : Nat) (jd : Nat) (jb : Nat) (jw : Nat) (jl : Nat) (k : Nat) (ks : Nat) (kw : Nat) (kc : Nat) (kq : Nat) (km : Nat) (kd : Nat) (ka : Nat) (kk : Nat) (d : Nat) (ds : Nat) (dk : Nat) (dw : Nat) (fl : Nat) (fh : Nat) (ff : Nat) (fa : Nat) (fm : Nat) (sz : Nat) : Ci l yX7_where (wq yX7_where cX7_where 2 (some .int)) ({ frames := 5, cells := 0, slots := 0, locals := 106 }) dC dI cI cZ cK tS aK aV [.ref h] sz [(h, .inr (7, [.ref k, .ref d, .ref j, .ref o, .ref f, .ref g, .ref wk, .ref im, .ref kt, .ref dl])), (d, .inr (4, [.ref ds, .int 0, .ref dk, .ref dw, .int 0, .int 0])), (j, .inr (1, [.ref k, .ref d, .ref jd, .ref jb, .ref jw, .ref jl, .int 0, .int 0, .int 0, .int 0, .int 0, .int 0, .int 0, .int 0])), (jl, .inl (cI, 61, .inl (fun _ => 0))), (k, .inr (0, [.ref ks, .ref kw, .ref kc, .int (-6), .int 0, .int 0, .ref kq, .ref km, .ref kd, .int 0, .ref ka, .ref kk])), (ks, .inl (cI, 5, .inl (upd (fun _ => 0) 0 800))), (f, .inr (5, [.ref k, .ref d, .ref j, .ref fl, .ref fh, .ref ff, .ref fa, .ref fm, .int 0, .int 0, .int 0])), (fl, .inl (cI, 61, .inl (fun _ => 0))), (fh, .inl (cI, 61, .inl (fun _ => 0)))] (fun (r : Int32) (_ : Unit) => r = 0) (fun _ => []) := by
  refine Met.ofW (cc := cX7_where) (maxL := 2) (ret := (some .int)) (by decide) rfl ?_
  intro p e s m args below meth c s₁ B hml hv
  obtain ⟨rfl, hsz, hP, hKx, hD0⟩ := hv
  have hx := B.exec
  have hb := B.bytes
  have hr := B.returns
  have hts := atoms_spec (ws := wq yX7_where cX7_where 2 (some .int)) B.pre
  have hown : s.vm.findClass RX7 = some m.cls := findClass_of_methodNamed B.named
  have hlocks := B.notSynchronized
  subst hsz
  have hD := hD0.self (sz := s.heap.size)
  generalize hAe : va_A [(h, .inr (7, [.ref k, .ref d, .ref j, .ref o, .ref f, .ref g, .ref wk, .ref im, .ref kt, .ref dl])), (d, .inr (4, [.ref ds, .int 0, .ref dk, .ref dw, .int 0, .int 0])), (j, .inr (1, [.ref k, .ref d, .ref jd, .ref jb, .ref jw, .ref jl, .int 0, .int 0, .int 0, .int 0, .int 0, .int 0, .int 0, .int 0])), (jl, .inl (cI, 61, .inl (fun _ => 0))), (k, .inr (0, [.ref ks, .ref kw, .ref kc, .int (-6), .int 0, .int 0, .ref kq, .ref km, .ref kd, .int 0, .ref ka, .ref kk])), (ks, .inl (cI, 5, .inl (upd (fun _ => 0) 0 800))), (f, .inr (5, [.ref k, .ref d, .ref j, .ref fl, .ref fh, .ref ff, .ref fa, .ref fm, .int 0, .int 0, .int 0])), (fl, .inl (cI, 61, .inl (fun _ => 0))), (fh, .inl (cI, 61, .inl (fun _ => 0)))] s.heap.size = A at hD hKx ⊢
  have hA : ∀ q : Nat, s.heap.size ≤ q → A q := fun q h => by rw [← hAe]; exact Or.inr h
  have hS : va_S A s.heap s.heap [] := va_S.rf
  have hP : va_P (dC, dI) vwCl [(h, .inr (7, [.ref k, .ref d, .ref j, .ref o, .ref f, .ref g, .ref wk, .ref im, .ref kt, .ref dl])), (d, .inr (4, [.ref ds, .int 0, .ref dk, .ref dw, .int 0, .int 0])), (j, .inr (1, [.ref k, .ref d, .ref jd, .ref jb, .ref jw, .ref jl, .int 0, .int 0, .int 0, .int 0, .int 0, .int 0, .int 0, .int 0])), (jl, .inl (cI, 61, .inl (fun _ => 0))), (k, .inr (0, [.ref ks, .ref kw, .ref kc, .int (-6), .int 0, .int 0, .ref kq, .ref km, .ref kd, .int 0, .ref ka, .ref kk])), (ks, .inl (cI, 5, .inl (upd (fun _ => 0) 0 800))), (f, .inr (5, [.ref k, .ref d, .ref j, .ref fl, .ref fh, .ref ff, .ref fa, .ref fm, .int 0, .int 0, .int 0])), (fl, .inl (cI, 61, .inl (fun _ => 0))), (fh, .inl (cI, 61, .inl (fun _ => 0)))] s.heap := hP
  have hl := lv_entry ([.ref h]) (n := 2) (Nat.le_of_ble_eq_true rfl)
  rw [lg_entry_eq]
  generalize (lg_sl ([.ref h]) ++ List.replicate (2 - (lg_sl ([.ref h])).length) Slot.unset).toArray = ls at hl ⊢
  have hl : lv_has ls 2 [(0, .ref h)] := hl
  have hK := hKx.1
  have hin7 := fun w9 h9 => List.mem_cons_of_mem (Cond.code yX7_where cX7_where 2 (some .int)) (inlX7 w9 h9)
  have hw0 := hts (.fieldLink RX7 46 "OneCan" "search" "LOneCan$Search;") (List.mem_cons_of_mem _ wm_229)
  refine lv_aload_n hx hb dX7_where_0 rfl (lv_at hl 0 rfl) ?_
  refine mx_i (wr := []) (va_runV (As := []) (rest := []) ⟨hx, hb, hml, hown, hts⟩ (c_X7_searchRefusal l dC dI cI cZ cK tS aK aV h o f g wk im kt dl j jd jb jw jl k ks kw kc kq km kd ka kk d ds dk dw fl fh ff fa fm s.heap.size) (cwV 0 hts (gw_v (fun _ h9 => List.mem_cons_of_mem _ h9) wm_234 wm_235 wm_236 wm_2 wm_237) rfl rfl rfl (by decide +kernel) ⟨Nat.le_of_ble_eq_true rfl, Nat.le_of_ble_eq_true rfl⟩) (mx_preV (C := RX7) (T := TX7) (N := 10) (ci := 7) hKx hP hD hS hA [0, 1, 2, 3, 4, 5, 6, 7, 8] (by decide) rfl rfl rfl) rfl rfl hl.1 rfl (lv_room (Nat.le_of_ble_eq_true rfl)) dX7_where_1 ⟨Nat.le_of_ble_eq_true rfl, Nat.le_of_ble_eq_true rfl⟩) hP hD hS hA [0, 1, 2, 3, 4, 5, 6, 7, 8] [] rfl rfl (by decide) (by decide) (fun r1 u1 H locs hq1 hP hD hS => ?_)
  replace hP : va_P (dC, dI) vwCl [(h, .inr (7, [.ref k, .ref d, .ref j, .ref o, .ref f, .ref g, .ref wk, .ref im, .ref kt, .ref dl])), (d, .inr (4, [.ref ds, .int 0, .ref dk, .ref dw, .int 0, .int (-6)])), (j, .inr (1, [.ref k, .ref d, .ref jd, .ref jb, .ref jw, .ref jl, .int (-6), .int (-6), .int 800, .int 0, .int (-6), .int 0, .int 0, .int 0])), (jl, .inl (cI, 61, .inl (upd (fun _ => 0) 0 800))), (k, .inr (0, [.ref ks, .ref kw, .ref kc, .int (-6), .int 0, .int 0, .ref kq, .ref km, .ref kd, .int 0, .ref ka, .ref kk])), (ks, .inl (cI, 5, .inl (upd (fun _ => 0) 0 800))), (f, .inr (5, [.ref k, .ref d, .ref j, .ref fl, .ref fh, .ref ff, .ref fa, .ref fm, .int 0, .int 0, .int 0])), (fl, .inl (cI, 61, .inl (upd (fun _ => 0) 0 0))), (fh, .inl (cI, 61, .inl (upd (fun _ => 0) 0 4000)))] H := hP
  replace hD : va_D A [(h, .inr (7, [.ref k, .ref d, .ref j, .ref o, .ref f, .ref g, .ref wk, .ref im, .ref kt, .ref dl])), (d, .inr (4, [.ref ds, .int 0, .ref dk, .ref dw, .int 0, .int (-6)])), (j, .inr (1, [.ref k, .ref d, .ref jd, .ref jb, .ref jw, .ref jl, .int (-6), .int (-6), .int 800, .int 0, .int (-6), .int 0, .int 0, .int 0])), (jl, .inl (cI, 61, .inl (upd (fun _ => 0) 0 800))), (k, .inr (0, [.ref ks, .ref kw, .ref kc, .int (-6), .int 0, .int 0, .ref kq, .ref km, .ref kd, .int 0, .ref ka, .ref kk])), (ks, .inl (cI, 5, .inl (upd (fun _ => 0) 0 800))), (f, .inr (5, [.ref k, .ref d, .ref j, .ref fl, .ref fh, .ref ff, .ref fa, .ref fm, .int 0, .int 0, .int 0])), (fl, .inl (cI, 61, .inl (upd (fun _ => 0) 0 0))), (fh, .inl (cI, 61, .inl (upd (fun _ => 0) 0 4000)))] := hD
  obtain rfl : r1 = 0 := hq1
  refine lv_istore_n (lv' := [(1, .int 0), (0, .ref h)]) hx hb dX7_where_4 rfl hl (by decide) rfl (fun ls hl => ?_)
  refine lv_iload_n hx hb dX7_where_5 rfl (lv_at hl 0 rfl) ?_
  refine lv_if_eq (tgt := 13) hx hb dX7_where_6 (by decide) (fun c2 => ?_) (fun c2 => absurd c2 (by decide))
  refine lv_aload_n hx hb dX7_where_13 rfl (lv_at hl 1 rfl) ?_
  refine va_get (D := (dC, dI)) (ci := 7) (v := .ref f) (C := RX7) (T := TX7) (N := 10) hx hb hts hin7 hown hK hP 0 rfl rfl 4 (by decide) hw0 (fun _ h9 => h9) rfl dX7_where_14 ?_
  refine mx_i (wr := [(h, .inr (7, [.ref k, .ref d, .ref j, .ref o, .ref f, .ref g, .ref wk, .ref im, .ref kt, .ref dl])), (j, .inr (1, [.ref k, .ref d, .ref jd, .ref jb, .ref jw, .ref jl, .int (-6), .int (-6), .int 800, .int 0, .int (-6), .int 0, .int 0, .int 0])), (jl, .inl (cI, 61, .inl (upd (fun _ => 0) 0 800))), (k, .inr (0, [.ref ks, .ref kw, .ref kc, .int (-6), .int 0, .int 0, .ref kq, .ref km, .ref kd, .int 0, .ref ka, .ref kk])), (ks, .inl (cI, 5, .inl (upd (fun _ => 0) 0 800))), (fl, .inl (cI, 61, .inl (upd (fun _ => 0) 0 0))), (fh, .inl (cI, 61, .inl (upd (fun _ => 0) 0 4000)))]) (va_runV (As := []) (rest := []) ⟨hx, hb, hml, hown, hts⟩ (c_X5_actsAsBits l dC dI cI cZ cK tS aK aV f j k d ds dk dw fl fh ff fa fm H.size) (cwV 0 hts (gw_v (fun _ h9 => List.mem_cons_of_mem _ h9) wm_243 wm_244 wm_245 wm_216 wm_246) rfl rfl rfl (by decide +kernel) ⟨Nat.le_of_ble_eq_true rfl, Nat.le_of_ble_eq_true rfl⟩) (mx_preV (C := RX5) (T := TX5) (N := 11) (ci := 5) hKx hP hD hS hA [6, 1] (by decide) rfl rfl rfl) rfl rfl hl.1 rfl (lv_room (Nat.le_of_ble_eq_true rfl)) dX7_where_17 ⟨Nat.le_of_ble_eq_true rfl, Nat.le_of_ble_eq_true rfl⟩) hP hD hS hA [6, 1] [0, 2, 3, 4, 5, 7, 8] rfl rfl (by decide) (by decide) (fun r3 u3 H locs hq3 hP hD hS => ?_)
  replace hP : va_P (dC, dI) vwCl [(h, .inr (7, [.ref k, .ref d, .ref j, .ref o, .ref f, .ref g, .ref wk, .ref im, .ref kt, .ref dl])), (j, .inr (1, [.ref k, .ref d, .ref jd, .ref jb, .ref jw, .ref jl, .int (-6), .int (-6), .int 800, .int 0, .int (-6), .int 0, .int 0, .int 0])), (jl, .inl (cI, 61, .inl (upd (fun _ => 0) 0 800))), (k, .inr (0, [.ref ks, .ref kw, .ref kc, .int (-6), .int 0, .int 0, .ref kq, .ref km, .ref kd, .int 0, .ref ka, .ref kk])), (ks, .inl (cI, 5, .inl (upd (fun _ => 0) 0 800))), (fl, .inl (cI, 61, .inl (upd (fun _ => 0) 0 0))), (fh, .inl (cI, 61, .inl (upd (fun _ => 0) 0 4000))), (f, .inr (5, [.ref k, .ref d, .ref j, .ref fl, .ref fh, .ref ff, .ref fa, .ref fm, .int 0, .int 0, .int 0])), (d, .inr (4, [.ref ds, .int 0, .ref dk, .ref dw, .int 0, .int (-6)]))] H := hP
  replace hD : va_D A [(h, .inr (7, [.ref k, .ref d, .ref j, .ref o, .ref f, .ref g, .ref wk, .ref im, .ref kt, .ref dl])), (j, .inr (1, [.ref k, .ref d, .ref jd, .ref jb, .ref jw, .ref jl, .int (-6), .int (-6), .int 800, .int 0, .int (-6), .int 0, .int 0, .int 0])), (jl, .inl (cI, 61, .inl (upd (fun _ => 0) 0 800))), (k, .inr (0, [.ref ks, .ref kw, .ref kc, .int (-6), .int 0, .int 0, .ref kq, .ref km, .ref kd, .int 0, .ref ka, .ref kk])), (ks, .inl (cI, 5, .inl (upd (fun _ => 0) 0 800))), (fl, .inl (cI, 61, .inl (upd (fun _ => 0) 0 0))), (fh, .inl (cI, 61, .inl (upd (fun _ => 0) 0 4000))), (f, .inr (5, [.ref k, .ref d, .ref j, .ref fl, .ref fh, .ref ff, .ref fa, .ref fm, .int 0, .int 0, .int 0])), (d, .inr (4, [.ref ds, .int 0, .ref dk, .ref dw, .int 0, .int (-6)]))] := hD
  obtain rfl : r3 = 0 := hq3
  have hP9 := mx_subP (wc := []) hP [] rfl
  have hD9 := hD.sub (ws' := []) [] (by decide) rfl
  exact W.iret (v := 0) hx hb hr (fun t ht hW => ⟨⟨0, (), rfl, rfl, by rw [ht]; exact hP9, hD9⟩, hS.F ht⟩) hS.2.2 dX7_where_20
set_option maxHeartbeats 4000000 in
set_option maxRecDepth 100000 in
theorem c_X7_weigh (l : Launch) (dC : Nat → ClassId) (dI : Nat → Nat → Nat) (cI cZ cK : ClassId) (tS aK aV : Nat) (h : Nat) (o : Nat) (f : Nat) (g : Nat) (wk : Nat) (im : Nat) (kt : Nat) (dl : Nat) (j : Nat) (jd : Nat) (jb : Nat) (jw : Nat) (jl : Nat) (k : Nat) (ks : Nat) (kw : Nat) (kc : Nat) (kq : Nat) (km : Nat) (kd : Nat) (ka : Nat) (kk : Nat) (d : Nat) (ds : Nat) (dk : Nat) (dw : Nat) (fl : Nat) (fh : Nat) (ff : Nat) (fa : Nat) (fm : Nat) (i0 : Int32) (sz : Nat) : Ci l yX7_weigh (wq yX7_weigh cX7_weigh 3 (some .int)) ({ frames := 5, cells := 0, slots := 0, locals := 106 }) dC dI cI cZ cK tS aK aV [.ref h, .int i0] sz [(h, .inr (7, [.ref k, .ref d, .ref j, .ref o, .ref f, .ref g, .ref wk, .ref im, .ref kt, .ref dl])), (d, .inr (4, [.ref ds, .int 0, .ref dk, .ref dw, .int 0, .int 0])), (j, .inr (1, [.ref k, .ref d, .ref jd, .ref jb, .ref jw, .ref jl, .int 0, .int 0, .int 0, .int 0, .int 0, .int 0, .int 0, .int 0])), (jl, .inl (cI, 61, .inl (fun _ => 0))), (k, .inr (0, [.ref ks, .ref kw, .ref kc, .int (-6), .int 0, .int 0, .ref kq, .ref km, .ref kd, .int 0, .ref ka, .ref kk])), (ks, .inl (cI, 5, .inl (upd (fun _ => 0) 0 800))), (f, .inr (5, [.ref k, .ref d, .ref j, .ref fl, .ref fh, .ref ff, .ref fa, .ref fm, .int 0, .int 0, .int 0])), (fl, .inl (cI, 61, .inl (fun _ => 0))), (fh, .inl (cI, 61, .inl (fun _ => 0)))] (fun (r : Int32) (_ : Unit) => (r = (-6) ∧ (0 ≤ i0.toInt ∧ i0.toInt ≤ 1)) ∨ (r = (-2) ∧ (i0.toInt < 0 ∨ 1 < i0.toInt))) (fun _ => []) := by
  refine Met.ofW (cc := cX7_weigh) (maxL := 3) (ret := (some .int)) (by decide) rfl ?_
  intro p e s m args below meth c s₁ B hml hv
  obtain ⟨rfl, hsz, hP, hKx, hD0⟩ := hv
  have hx := B.exec
  have hb := B.bytes
  have hr := B.returns
  have hts := atoms_spec (ws := wq yX7_weigh cX7_weigh 3 (some .int)) B.pre
  have hown : s.vm.findClass RX7 = some m.cls := findClass_of_methodNamed B.named
  have hlocks := B.notSynchronized
  subst hsz
  have hD := hD0.self (sz := s.heap.size)
  generalize hAe : va_A [(h, .inr (7, [.ref k, .ref d, .ref j, .ref o, .ref f, .ref g, .ref wk, .ref im, .ref kt, .ref dl])), (d, .inr (4, [.ref ds, .int 0, .ref dk, .ref dw, .int 0, .int 0])), (j, .inr (1, [.ref k, .ref d, .ref jd, .ref jb, .ref jw, .ref jl, .int 0, .int 0, .int 0, .int 0, .int 0, .int 0, .int 0, .int 0])), (jl, .inl (cI, 61, .inl (fun _ => 0))), (k, .inr (0, [.ref ks, .ref kw, .ref kc, .int (-6), .int 0, .int 0, .ref kq, .ref km, .ref kd, .int 0, .ref ka, .ref kk])), (ks, .inl (cI, 5, .inl (upd (fun _ => 0) 0 800))), (f, .inr (5, [.ref k, .ref d, .ref j, .ref fl, .ref fh, .ref ff, .ref fa, .ref fm, .int 0, .int 0, .int 0])), (fl, .inl (cI, 61, .inl (fun _ => 0))), (fh, .inl (cI, 61, .inl (fun _ => 0)))] s.heap.size = A at hD hKx ⊢
  have hA : ∀ q : Nat, s.heap.size ≤ q → A q := fun q h => by rw [← hAe]; exact Or.inr h
  have hS : va_S A s.heap s.heap [] := va_S.rf
  have hP : va_P (dC, dI) vwCl [(h, .inr (7, [.ref k, .ref d, .ref j, .ref o, .ref f, .ref g, .ref wk, .ref im, .ref kt, .ref dl])), (d, .inr (4, [.ref ds, .int 0, .ref dk, .ref dw, .int 0, .int 0])), (j, .inr (1, [.ref k, .ref d, .ref jd, .ref jb, .ref jw, .ref jl, .int 0, .int 0, .int 0, .int 0, .int 0, .int 0, .int 0, .int 0])), (jl, .inl (cI, 61, .inl (fun _ => 0))), (k, .inr (0, [.ref ks, .ref kw, .ref kc, .int (-6), .int 0, .int 0, .ref kq, .ref km, .ref kd, .int 0, .ref ka, .ref kk])), (ks, .inl (cI, 5, .inl (upd (fun _ => 0) 0 800))), (f, .inr (5, [.ref k, .ref d, .ref j, .ref fl, .ref fh, .ref ff, .ref fa, .ref fm, .int 0, .int 0, .int 0])), (fl, .inl (cI, 61, .inl (fun _ => 0))), (fh, .inl (cI, 61, .inl (fun _ => 0)))] s.heap := hP
  have hl := lv_entry ([.ref h, .int i0]) (n := 3) (Nat.le_of_ble_eq_true rfl)
  rw [lg_entry_eq]
  generalize (lg_sl ([.ref h, .int i0]) ++ List.replicate (3 - (lg_sl ([.ref h, .int i0])).length) Slot.unset).toArray = ls at hl ⊢
  have hl : lv_has ls 3 [(0, .ref h), (1, .int i0)] := hl
  have hK := hKx.1
  have hin7 := fun w9 h9 => List.mem_cons_of_mem (Cond.code yX7_weigh cX7_weigh 3 (some .int)) (inlX7 w9 h9)
  have hin5 := fun w9 h9 => List.mem_cons_of_mem (Cond.code yX7_weigh cX7_weigh 3 (some .int)) (inlX5 w9 h9)
  have hw0 := hts (.fieldLink RX7 46 "OneCan" "search" "LOneCan$Search;") (List.mem_cons_of_mem _ wm_229)
  have hw1 := hts (.fieldLink RX7 234 "OneCan$Search" "stillLeft" "I") (List.mem_cons_of_mem _ wm_251)
  have hw2 := hts (.fieldLink RX7 231 "OneCan$Search" "readBehind" "I") (List.mem_cons_of_mem _ wm_252)
  refine lv_iload_n hx hb dX7_weigh_0 rfl (lv_at hl 1 rfl) ?_
  refine lv_iconst (v := 0) hx hb dX7_weigh_1 (by decide) ?_
  refine lv_iconst (v := 1) hx hb dX7_weigh_2 (by decide) ?_
  refine mx_i (wr := [(h, .inr (7, [.ref k, .ref d, .ref j, .ref o, .ref f, .ref g, .ref wk, .ref im, .ref kt, .ref dl])), (d, .inr (4, [.ref ds, .int 0, .ref dk, .ref dw, .int 0, .int 0])), (j, .inr (1, [.ref k, .ref d, .ref jd, .ref jb, .ref jw, .ref jl, .int 0, .int 0, .int 0, .int 0, .int 0, .int 0, .int 0, .int 0])), (jl, .inl (cI, 61, .inl (fun _ => 0))), (k, .inr (0, [.ref ks, .ref kw, .ref kc, .int (-6), .int 0, .int 0, .ref kq, .ref km, .ref kd, .int 0, .ref ka, .ref kk])), (ks, .inl (cI, 5, .inl (upd (fun _ => 0) 0 800))), (f, .inr (5, [.ref k, .ref d, .ref j, .ref fl, .ref fh, .ref ff, .ref fa, .ref fm, .int 0, .int 0, .int 0])), (fl, .inl (cI, 61, .inl (fun _ => 0))), (fh, .inl (cI, 61, .inl (fun _ => 0)))]) (va_runS (As := [.int i0, .int 0, .int 1]) (rest := []) ⟨hx, hb, hml, hown, hts⟩ (c_X7_isIn l dC dI cI cZ cK tS aK aV i0 0 1 s.heap.size) (va_cwS 3 hts (gw_s (fun _ h9 => List.mem_cons_of_mem _ h9) wm_0 wm_1 wm_2 wm_3) rfl rfl rfl (by decide +kernel) ⟨Nat.le_of_ble_eq_true rfl, Nat.le_of_ble_eq_true rfl⟩) (mx_preS hKx hP hD hS hA [] (by decide) rfl) rfl rfl hl.1 rfl (lv_room (Nat.le_of_ble_eq_true rfl)) dX7_weigh_3 ⟨Nat.le_of_ble_eq_true rfl, Nat.le_of_ble_eq_true rfl⟩) hP hD hS hA [] [0, 1, 2, 3, 4, 5, 6, 7, 8] rfl rfl (by decide) (by decide) (fun r1 u1 H locs hq1 hP hD hS => ?_)
  replace hP : va_P (dC, dI) vwCl [(h, .inr (7, [.ref k, .ref d, .ref j, .ref o, .ref f, .ref g, .ref wk, .ref im, .ref kt, .ref dl])), (d, .inr (4, [.ref ds, .int 0, .ref dk, .ref dw, .int 0, .int 0])), (j, .inr (1, [.ref k, .ref d, .ref jd, .ref jb, .ref jw, .ref jl, .int 0, .int 0, .int 0, .int 0, .int 0, .int 0, .int 0, .int 0])), (jl, .inl (cI, 61, .inl (fun _ => 0))), (k, .inr (0, [.ref ks, .ref kw, .ref kc, .int (-6), .int 0, .int 0, .ref kq, .ref km, .ref kd, .int 0, .ref ka, .ref kk])), (ks, .inl (cI, 5, .inl (upd (fun _ => 0) 0 800))), (f, .inr (5, [.ref k, .ref d, .ref j, .ref fl, .ref fh, .ref ff, .ref fa, .ref fm, .int 0, .int 0, .int 0])), (fl, .inl (cI, 61, .inl (fun _ => 0))), (fh, .inl (cI, 61, .inl (fun _ => 0)))] H := hP
  replace hD : va_D A [(h, .inr (7, [.ref k, .ref d, .ref j, .ref o, .ref f, .ref g, .ref wk, .ref im, .ref kt, .ref dl])), (d, .inr (4, [.ref ds, .int 0, .ref dk, .ref dw, .int 0, .int 0])), (j, .inr (1, [.ref k, .ref d, .ref jd, .ref jb, .ref jw, .ref jl, .int 0, .int 0, .int 0, .int 0, .int 0, .int 0, .int 0, .int 0])), (jl, .inl (cI, 61, .inl (fun _ => 0))), (k, .inr (0, [.ref ks, .ref kw, .ref kc, .int (-6), .int 0, .int 0, .ref kq, .ref km, .ref kd, .int 0, .ref ka, .ref kk])), (ks, .inl (cI, 5, .inl (upd (fun _ => 0) 0 800))), (f, .inr (5, [.ref k, .ref d, .ref j, .ref fl, .ref fh, .ref ff, .ref fa, .ref fm, .int 0, .int 0, .int 0])), (fl, .inl (cI, 61, .inl (fun _ => 0))), (fh, .inl (cI, 61, .inl (fun _ => 0)))] := hD
  rcases hq1 with ⟨rfl, hf1⟩ | ⟨rfl, hf1⟩
  · have hf1 : (0 : Int) ≤ i0.toInt ∧ i0.toInt ≤ (1 : Int) := hf1
    refine lv_if_ne (tgt := 12) hx hb dX7_weigh_6 (by decide) (fun c2 => ?_) (fun c2 => absurd c2 (by decide))
    refine lv_aload_n hx hb dX7_weigh_12 rfl (lv_at hl 0 rfl) ?_
    refine mx_i (wr := []) (va_runV (As := []) (rest := []) ⟨hx, hb, hml, hown, hts⟩ (c_X7_searchRefusal l dC dI cI cZ cK tS aK aV h o f g wk im kt dl j jd jb jw jl k ks kw kc kq km kd ka kk d ds dk dw fl fh ff fa fm H.size) (cwV 0 hts (gw_v (fun _ h9 => List.mem_cons_of_mem _ h9) wm_234 wm_235 wm_236 wm_2 wm_237) rfl rfl rfl (by decide +kernel) ⟨Nat.le_of_ble_eq_true rfl, Nat.le_of_ble_eq_true rfl⟩) (mx_preV (C := RX7) (T := TX7) (N := 10) (ci := 7) hKx hP hD hS hA [0, 1, 2, 3, 4, 5, 6, 7, 8] (by decide) rfl rfl rfl) rfl rfl hl.1 rfl (lv_room (Nat.le_of_ble_eq_true rfl)) dX7_weigh_13 ⟨Nat.le_of_ble_eq_true rfl, Nat.le_of_ble_eq_true rfl⟩) hP hD hS hA [0, 1, 2, 3, 4, 5, 6, 7, 8] [] rfl rfl (by decide) (by decide) (fun r3 u3 H locs hq3 hP hD hS => ?_)
    replace hP : va_P (dC, dI) vwCl [(h, .inr (7, [.ref k, .ref d, .ref j, .ref o, .ref f, .ref g, .ref wk, .ref im, .ref kt, .ref dl])), (d, .inr (4, [.ref ds, .int 0, .ref dk, .ref dw, .int 0, .int (-6)])), (j, .inr (1, [.ref k, .ref d, .ref jd, .ref jb, .ref jw, .ref jl, .int (-6), .int (-6), .int 800, .int 0, .int (-6), .int 0, .int 0, .int 0])), (jl, .inl (cI, 61, .inl (upd (fun _ => 0) 0 800))), (k, .inr (0, [.ref ks, .ref kw, .ref kc, .int (-6), .int 0, .int 0, .ref kq, .ref km, .ref kd, .int 0, .ref ka, .ref kk])), (ks, .inl (cI, 5, .inl (upd (fun _ => 0) 0 800))), (f, .inr (5, [.ref k, .ref d, .ref j, .ref fl, .ref fh, .ref ff, .ref fa, .ref fm, .int 0, .int 0, .int 0])), (fl, .inl (cI, 61, .inl (upd (fun _ => 0) 0 0))), (fh, .inl (cI, 61, .inl (upd (fun _ => 0) 0 4000)))] H := hP
    replace hD : va_D A [(h, .inr (7, [.ref k, .ref d, .ref j, .ref o, .ref f, .ref g, .ref wk, .ref im, .ref kt, .ref dl])), (d, .inr (4, [.ref ds, .int 0, .ref dk, .ref dw, .int 0, .int (-6)])), (j, .inr (1, [.ref k, .ref d, .ref jd, .ref jb, .ref jw, .ref jl, .int (-6), .int (-6), .int 800, .int 0, .int (-6), .int 0, .int 0, .int 0])), (jl, .inl (cI, 61, .inl (upd (fun _ => 0) 0 800))), (k, .inr (0, [.ref ks, .ref kw, .ref kc, .int (-6), .int 0, .int 0, .ref kq, .ref km, .ref kd, .int 0, .ref ka, .ref kk])), (ks, .inl (cI, 5, .inl (upd (fun _ => 0) 0 800))), (f, .inr (5, [.ref k, .ref d, .ref j, .ref fl, .ref fh, .ref ff, .ref fa, .ref fm, .int 0, .int 0, .int 0])), (fl, .inl (cI, 61, .inl (upd (fun _ => 0) 0 0))), (fh, .inl (cI, 61, .inl (upd (fun _ => 0) 0 4000)))] := hD
    obtain rfl : r3 = 0 := hq3
    refine lv_istore_n (lv' := [(2, .int 0), (0, .ref h), (1, .int i0)]) hx hb dX7_weigh_16 rfl hl (by decide) rfl (fun ls hl => ?_)
    refine lv_iload_n hx hb dX7_weigh_17 rfl (lv_at hl 0 rfl) ?_
    refine lv_if_eq (tgt := 23) hx hb dX7_weigh_18 (by decide) (fun c4 => ?_) (fun c4 => absurd c4 (by decide))
    refine lv_aload_n hx hb dX7_weigh_23 rfl (lv_at hl 1 rfl) ?_
    refine va_get (D := (dC, dI)) (ci := 7) (v := .ref f) (C := RX7) (T := TX7) (N := 10) hx hb hts hin7 hown hK hP 0 rfl rfl 4 (by decide) hw0 (fun _ h9 => h9) rfl dX7_weigh_24 ?_
    refine mx_v (wr := [(h, .inr (7, [.ref k, .ref d, .ref j, .ref o, .ref f, .ref g, .ref wk, .ref im, .ref kt, .ref dl])), (j, .inr (1, [.ref k, .ref d, .ref jd, .ref jb, .ref jw, .ref jl, .int (-6), .int (-6), .int 800, .int 0, .int (-6), .int 0, .int 0, .int 0])), (jl, .inl (cI, 61, .inl (upd (fun _ => 0) 0 800))), (k, .inr (0, [.ref ks, .ref kw, .ref kc, .int (-6), .int 0, .int 0, .ref kq, .ref km, .ref kd, .int 0, .ref ka, .ref kk])), (ks, .inl (cI, 5, .inl (upd (fun _ => 0) 0 800))), (fl, .inl (cI, 61, .inl (upd (fun _ => 0) 0 0))), (fh, .inl (cI, 61, .inl (upd (fun _ => 0) 0 4000)))]) (va_runV (As := []) (rest := []) ⟨hx, hb, hml, hown, hts⟩ (c_X5_chooseReading l dC dI cI cZ cK tS aK aV f j k d ds dk dw fl fh ff fa fm H.size) (cwV 0 hts (gw_v (fun _ h9 => List.mem_cons_of_mem _ h9) wm_247 wm_248 wm_249 wm_216 wm_250) rfl rfl rfl (by decide +kernel) ⟨Nat.le_of_ble_eq_true rfl, Nat.le_of_ble_eq_true rfl⟩) (mx_preV (C := RX5) (T := TX5) (N := 11) (ci := 5) hKx hP hD hS hA [6, 1] (by decide) rfl rfl rfl) rfl rfl hl.1 rfl (lv_room (Nat.le_of_ble_eq_true rfl)) dX7_weigh_27 ⟨Nat.le_of_ble_eq_true rfl, Nat.le_of_ble_eq_true rfl⟩) hP hD hS hA [6, 1] [0, 2, 3, 4, 5, 7, 8] rfl rfl (by decide) (by decide) (fun u5 H locs hq5 hP hD hS => ?_)
    replace hP : va_P (dC, dI) vwCl [(h, .inr (7, [.ref k, .ref d, .ref j, .ref o, .ref f, .ref g, .ref wk, .ref im, .ref kt, .ref dl])), (j, .inr (1, [.ref k, .ref d, .ref jd, .ref jb, .ref jw, .ref jl, .int (-6), .int (-6), .int 800, .int 0, .int (-6), .int 0, .int 0, .int 0])), (jl, .inl (cI, 61, .inl (upd (fun _ => 0) 0 800))), (k, .inr (0, [.ref ks, .ref kw, .ref kc, .int (-6), .int 0, .int 0, .ref kq, .ref km, .ref kd, .int 0, .ref ka, .ref kk])), (ks, .inl (cI, 5, .inl (upd (fun _ => 0) 0 800))), (fl, .inl (cI, 61, .inl (upd (fun _ => 0) 0 0))), (fh, .inl (cI, 61, .inl (upd (fun _ => 0) 0 4000))), (f, .inr (5, [.ref k, .ref d, .ref j, .ref fl, .ref fh, .ref ff, .ref fa, .ref fm, .int 0, .int (-6), .int (-6)])), (d, .inr (4, [.ref ds, .int 0, .ref dk, .ref dw, .int 0, .int (-6)]))] H := hP
    replace hD : va_D A [(h, .inr (7, [.ref k, .ref d, .ref j, .ref o, .ref f, .ref g, .ref wk, .ref im, .ref kt, .ref dl])), (j, .inr (1, [.ref k, .ref d, .ref jd, .ref jb, .ref jw, .ref jl, .int (-6), .int (-6), .int 800, .int 0, .int (-6), .int 0, .int 0, .int 0])), (jl, .inl (cI, 61, .inl (upd (fun _ => 0) 0 800))), (k, .inr (0, [.ref ks, .ref kw, .ref kc, .int (-6), .int 0, .int 0, .ref kq, .ref km, .ref kd, .int 0, .ref ka, .ref kk])), (ks, .inl (cI, 5, .inl (upd (fun _ => 0) 0 800))), (fl, .inl (cI, 61, .inl (upd (fun _ => 0) 0 0))), (fh, .inl (cI, 61, .inl (upd (fun _ => 0) 0 4000))), (f, .inr (5, [.ref k, .ref d, .ref j, .ref fl, .ref fh, .ref ff, .ref fa, .ref fm, .int 0, .int (-6), .int (-6)])), (d, .inr (4, [.ref ds, .int 0, .ref dk, .ref dw, .int 0, .int (-6)]))] := hD
    refine lv_iload_n hx hb dX7_weigh_30 rfl (lv_at hl 2 rfl) ?_
    refine lv_if_ne (tgt := 44) hx hb dX7_weigh_31 (by decide) (fun c6 => ?_) (fun c6 => ?_)
    · have t6 : i0.toInt ≠ (0 : Int) := (tne c6)
      refine lv_aload_n hx hb dX7_weigh_44 rfl (lv_at hl 1 rfl) ?_
      refine va_get (D := (dC, dI)) (ci := 7) (v := .ref f) (C := RX7) (T := TX7) (N := 10) hx hb hts hin7 hown hK hP 0 rfl rfl 4 (by decide) hw0 (fun _ h9 => h9) rfl dX7_weigh_45 ?_
      refine va_get (D := (dC, dI)) (ci := 5) (v := .int (-6)) (C := RX5) (T := TX5) (N := 11) hx hb hts hin5 hown hK hP 7 rfl rfl 10 (by decide) hw1 (fun _ h9 => h9) rfl dX7_weigh_48 ?_
      have hP9 := mx_subP (wc := []) hP [] rfl
      have hD9 := hD.sub (ws' := []) [] (by decide) rfl
      exact W.iret (v := (-6)) hx hb hr (fun t ht hW => ⟨⟨(-6), (), rfl, (by first | exact Or.inl (⟨rfl, by omega⟩) | exact Or.inr (⟨rfl, by omega⟩)), by rw [ht]; exact hP9, hD9⟩, hS.F ht⟩) hS.2.2 dX7_weigh_51
    · have t6 : i0.toInt = (0 : Int) := (teq c6)
      refine lv_aload_n hx hb dX7_weigh_34 rfl (lv_at hl 1 rfl) ?_
      refine va_get (D := (dC, dI)) (ci := 7) (v := .ref f) (C := RX7) (T := TX7) (N := 10) hx hb hts hin7 hown hK hP 0 rfl rfl 4 (by decide) hw0 (fun _ h9 => h9) rfl dX7_weigh_35 ?_
      refine va_get (D := (dC, dI)) (ci := 5) (v := .int (-6)) (C := RX5) (T := TX5) (N := 11) hx hb hts hin5 hown hK hP 7 rfl rfl 9 (by decide) hw2 (fun _ h9 => h9) rfl dX7_weigh_38 ?_
      refine lv_goto (tgt := 51) hx hb dX7_weigh_41 (by decide) ?_
      have hP9 := mx_subP (wc := []) hP [] rfl
      have hD9 := hD.sub (ws' := []) [] (by decide) rfl
      exact W.iret (v := (-6)) hx hb hr (fun t ht hW => ⟨⟨(-6), (), rfl, (by first | exact Or.inl (⟨rfl, by omega⟩) | exact Or.inr (⟨rfl, by omega⟩)), by rw [ht]; exact hP9, hD9⟩, hS.F ht⟩) hS.2.2 dX7_weigh_51
  · have hf1 : i0.toInt < (0 : Int) ∨ (1 : Int) < i0.toInt := hf1
    refine lv_if_ne (tgt := 12) hx hb dX7_weigh_6 (by decide) (fun c7 => absurd c7 (by decide)) (fun c7 => ?_)
    refine lv_bipush (v := (-2)) hx hb dX7_weigh_9 (by decide) ?_
    have hP9 := mx_subP (wc := []) hP [] rfl
    have hD9 := hD.sub (ws' := []) [] (by decide) rfl
    exact W.iret (v := (-2)) hx hb hr (fun t ht hW => ⟨⟨(-2), (), rfl, (by first | exact Or.inl (⟨rfl, by omega⟩) | exact Or.inr (⟨rfl, by omega⟩)), by rw [ht]; exact hP9, hD9⟩, hS.F ht⟩) hS.2.2 dX7_weigh_11
set_option maxHeartbeats 4000000 in
set_option maxRecDepth 100000 in
theorem c_X2_days (l : Launch) (dC : Nat → ClassId) (dI : Nat → Nat → Nat) (cI cZ cK : ClassId) (tS aK aV : Nat) (g : Nat) (j : Nat) (jd : Nat) (jb : Nat) (jw : Nat) (jl : Nat) (k : Nat) (ks : Nat) (kw : Nat) (kc : Nat) (kq : Nat) (km : Nat) (kd : Nat) (ka : Nat) (kk : Nat) (d : Nat) (gg : Nat) (sz : Nat) : Ci l yX2_days (wq yX2_days cX2_days 1 (some .int)) ({ frames := 0, cells := 0, slots := 0, locals := 0 }) dC dI cI cZ cK tS aK aV [.ref g] sz [(g, .inr (2, [.ref k, .ref d, .ref j, .ref gg, .long 0, .long 0])), (j, .inr (1, [.ref k, .ref d, .ref jd, .ref jb, .ref jw, .ref jl, .int (-6), .int (-6), .int 800, .int 0, .int (-6), .int 0, .int 0, .int 0])), (k, .inr (0, [.ref ks, .ref kw, .ref kc, .int (-6), .int 0, .int 0, .ref kq, .ref km, .ref kd, .int 0, .ref ka, .ref kk])), (ks, .inl (cI, 5, .inl (upd (fun _ => 0) 0 800)))] (fun (r : Int32) (_ : Unit) => r = 1) (fun _ => [(g, .inr (2, [.ref k, .ref d, .ref j, .ref gg, .long 0, .long 0])), (j, .inr (1, [.ref k, .ref d, .ref jd, .ref jb, .ref jw, .ref jl, .int (-6), .int (-6), .int 800, .int 0, .int (-6), .int 0, .int 0, .int 0])), (k, .inr (0, [.ref ks, .ref kw, .ref kc, .int (-6), .int 0, .int 0, .ref kq, .ref km, .ref kd, .int 0, .ref ka, .ref kk])), (ks, .inl (cI, 5, .inl (upd (fun _ => 0) 0 800)))]) := by
  refine Met.ofW (cc := cX2_days) (maxL := 1) (ret := (some .int)) (by decide) rfl ?_
  intro p e s m args below meth c s₁ B hml hv
  obtain ⟨rfl, hsz, hP, hKx, hD0⟩ := hv
  have hx := B.exec
  have hb := B.bytes
  have hr := B.returns
  have hts := atoms_spec (ws := wq yX2_days cX2_days 1 (some .int)) B.pre
  have hown : s.vm.findClass RX2 = some m.cls := findClass_of_methodNamed B.named
  have hlocks := B.notSynchronized
  subst hsz
  have hD := hD0.self (sz := s.heap.size)
  generalize hAe : va_A [(g, .inr (2, [.ref k, .ref d, .ref j, .ref gg, .long 0, .long 0])), (j, .inr (1, [.ref k, .ref d, .ref jd, .ref jb, .ref jw, .ref jl, .int (-6), .int (-6), .int 800, .int 0, .int (-6), .int 0, .int 0, .int 0])), (k, .inr (0, [.ref ks, .ref kw, .ref kc, .int (-6), .int 0, .int 0, .ref kq, .ref km, .ref kd, .int 0, .ref ka, .ref kk])), (ks, .inl (cI, 5, .inl (upd (fun _ => 0) 0 800)))] s.heap.size = A at hD hKx ⊢
  have hA : ∀ q : Nat, s.heap.size ≤ q → A q := fun q h => by rw [← hAe]; exact Or.inr h
  have hS : va_S A s.heap s.heap [] := va_S.rf
  have hP : va_P (dC, dI) vwCl [(g, .inr (2, [.ref k, .ref d, .ref j, .ref gg, .long 0, .long 0])), (j, .inr (1, [.ref k, .ref d, .ref jd, .ref jb, .ref jw, .ref jl, .int (-6), .int (-6), .int 800, .int 0, .int (-6), .int 0, .int 0, .int 0])), (k, .inr (0, [.ref ks, .ref kw, .ref kc, .int (-6), .int 0, .int 0, .ref kq, .ref km, .ref kd, .int 0, .ref ka, .ref kk])), (ks, .inl (cI, 5, .inl (upd (fun _ => 0) 0 800)))] s.heap := hP
  have hl := lv_entry ([.ref g]) (n := 1) (Nat.le_of_ble_eq_true rfl)
  rw [lg_entry_eq]
  generalize (lg_sl ([.ref g]) ++ List.replicate (1 - (lg_sl ([.ref g])).length) Slot.unset).toArray = ls at hl ⊢
  have hl : lv_has ls 1 [(0, .ref g)] := hl
  have hK := hKx.1
  have hin2 := fun w9 h9 => List.mem_cons_of_mem (Cond.code yX2_days cX2_days 1 (some .int)) (inlX2 w9 h9)
  have hin1 := fun w9 h9 => List.mem_cons_of_mem (Cond.code yX2_days cX2_days 1 (some .int)) (inlX1 w9 h9)
  have hin0 := fun w9 h9 => List.mem_cons_of_mem (Cond.code yX2_days cX2_days 1 (some .int)) (inlX0 w9 h9)
  have hw0 := hts (.fieldLink RX2 23 "OneCan$Gusts" "course" "LOneCan$Course;") (List.mem_cons_of_mem _ wm_253)
  have hw1 := hts (.fieldLink RX2 27 "OneCan$Course" "day" "I") (List.mem_cons_of_mem _ wm_254)
  have hw2 := hts (.fieldLink RX2 15 "OneCan$Gusts" "camp" "LOneCan$Camp;") (List.mem_cons_of_mem _ wm_255)
  have hw3 := hts (.fieldLink RX2 33 "OneCan$Camp" "settings" "[I") (List.mem_cons_of_mem _ wm_256)
  refine lv_aload_n hx hb dX2_days_0 rfl (lv_at hl 0 rfl) ?_
  refine va_get (D := (dC, dI)) (ci := 2) (v := .ref j) (C := RX2) (T := TX2) (N := 6) hx hb hts hin2 hown hK hP 0 rfl rfl 2 (by decide) hw0 (fun _ h9 => h9) rfl dX2_days_1 ?_
  refine va_get (D := (dC, dI)) (ci := 1) (v := .int 0) (C := RX1) (T := TX1) (N := 14) hx hb hts hin1 hown hK hP 1 rfl rfl 9 (by decide) hw1 (fun _ h9 => h9) rfl dX2_days_4 ?_
  refine lv_aload_n hx hb dX2_days_7 rfl (lv_at hl 0 rfl) ?_
  refine va_get (D := (dC, dI)) (ci := 2) (v := .ref k) (C := RX2) (T := TX2) (N := 6) hx hb hts hin2 hown hK hP 0 rfl rfl 0 (by decide) hw2 (fun _ h9 => h9) rfl dX2_days_8 ?_
  refine va_get (D := (dC, dI)) (ci := 0) (v := .ref ks) (C := RX0) (T := TX0) (N := 12) hx hb hts hin0 hown hK hP 2 rfl rfl 0 (by decide) hw3 (fun _ h9 => h9) rfl dX2_days_11 ?_
  refine lv_iconst (v := 4) hx hb dX2_days_14 (by decide) ?_
  refine va_iald hx hb hK hP 3 0 rfl rfl (vin (by decide) (by decide)) dX2_days_15 ?_
  refine lv_topi (fun x1 e1 => ?_)
  obtain rfl : x1 = 0 := e1.trans (by first | rfl | decide)
  refine lv_isub hx hb dX2_days_16 ?_
  refine lv_topi (fun x2 e2 => ?_)
  obtain rfl : x2 = 0 := e2.trans (by decide)
  refine lv_iconst (v := 1) hx hb dX2_days_17 (by decide) ?_
  refine lv_iadd hx hb dX2_days_18 ?_
  refine lv_topi (fun x3 e3 => ?_)
  obtain rfl : x3 = 1 := e3.trans (by decide)
  have hP9 := mx_subP (wc := [(g, .inr (2, [.ref k, .ref d, .ref j, .ref gg, .long 0, .long 0])), (j, .inr (1, [.ref k, .ref d, .ref jd, .ref jb, .ref jw, .ref jl, .int (-6), .int (-6), .int 800, .int 0, .int (-6), .int 0, .int 0, .int 0])), (k, .inr (0, [.ref ks, .ref kw, .ref kc, .int (-6), .int 0, .int 0, .ref kq, .ref km, .ref kd, .int 0, .ref ka, .ref kk])), (ks, .inl (cI, 5, .inl (upd (fun _ => 0) 0 800)))]) hP [0, 1, 2, 3] rfl
  have hD9 := hD.sub (ws' := [(g, .inr (2, [.ref k, .ref d, .ref j, .ref gg, .long 0, .long 0])), (j, .inr (1, [.ref k, .ref d, .ref jd, .ref jb, .ref jw, .ref jl, .int (-6), .int (-6), .int 800, .int 0, .int (-6), .int 0, .int 0, .int 0])), (k, .inr (0, [.ref ks, .ref kw, .ref kc, .int (-6), .int 0, .int 0, .ref kq, .ref km, .ref kd, .int 0, .ref ka, .ref kk])), (ks, .inl (cI, 5, .inl (upd (fun _ => 0) 0 800)))]) [0, 1, 2, 3] (by decide) rfl
  exact W.iret (v := 1) hx hb hr (fun t ht hW => ⟨⟨1, (), rfl, rfl, by rw [ht]; exact hP9, hD9⟩, hS.F ht⟩) hS.2.2 dX2_days_19
set_option maxHeartbeats 4000000 in
set_option maxRecDepth 100000 in
theorem c_X2_ready (l : Launch) (dC : Nat → ClassId) (dI : Nat → Nat → Nat) (cI cZ cK : ClassId) (tS aK aV : Nat) (g : Nat) (j : Nat) (k : Nat) (d : Nat) (ds : Nat) (dk : Nat) (dw : Nat) (gg : Nat) (sz : Nat) : Cv l yX2_ready (wq yX2_ready cX2_ready 4 none) ({ frames := 0, cells := 0, slots := 0, locals := 0 }) dC dI cI cZ cK tS aK aV [.ref g] sz [(g, .inr (2, [.ref k, .ref d, .ref j, .ref gg, .long 0, .long 0])), (d, .inr (4, [.ref ds, .int 0, .ref dk, .ref dw, .int 0, .int (-6)]))] (fun (u : Unit) => True) (fun _ => [(g, .inr (2, [.ref k, .ref d, .ref j, .ref gg, .long 0, .long 0])), (d, .inr (4, [.ref ds, .int 0, .ref dk, .ref dw, .int 0, .int (-6)]))]) := by
  refine Met.ofW (cc := cX2_ready) (maxL := 4) (ret := none) (by decide) rfl ?_
  intro p e s m args below meth c s₁ B hml hv
  obtain ⟨rfl, hsz, hP, hKx, hD0⟩ := hv
  have hx := B.exec
  have hb := B.bytes
  have hr := B.returns
  have hts := atoms_spec (ws := wq yX2_ready cX2_ready 4 none) B.pre
  have hown : s.vm.findClass RX2 = some m.cls := findClass_of_methodNamed B.named
  have hlocks := B.notSynchronized
  subst hsz
  have hD := hD0.self (sz := s.heap.size)
  generalize hAe : va_A [(g, .inr (2, [.ref k, .ref d, .ref j, .ref gg, .long 0, .long 0])), (d, .inr (4, [.ref ds, .int 0, .ref dk, .ref dw, .int 0, .int (-6)]))] s.heap.size = A at hD hKx ⊢
  have hA : ∀ q : Nat, s.heap.size ≤ q → A q := fun q h => by rw [← hAe]; exact Or.inr h
  have hS : va_S A s.heap s.heap [] := va_S.rf
  have hP : va_P (dC, dI) vwCl [(g, .inr (2, [.ref k, .ref d, .ref j, .ref gg, .long 0, .long 0])), (d, .inr (4, [.ref ds, .int 0, .ref dk, .ref dw, .int 0, .int (-6)]))] s.heap := hP
  have hl := lv_entry ([.ref g]) (n := 4) (Nat.le_of_ble_eq_true rfl)
  rw [lg_entry_eq]
  generalize (lg_sl ([.ref g]) ++ List.replicate (4 - (lg_sl ([.ref g])).length) Slot.unset).toArray = ls at hl ⊢
  have hl : lv_has ls 4 [(0, .ref g)] := hl
  have hK := hKx.1
  have hin2 := fun w9 h9 => List.mem_cons_of_mem (Cond.code yX2_ready cX2_ready 4 none) (inlX2 w9 h9)
  have hin4 := fun w9 h9 => List.mem_cons_of_mem (Cond.code yX2_ready cX2_ready 4 none) (inlX4 w9 h9)
  have hw0 := hts (.fieldLink RX2 19 "OneCan$Gusts" "pad" "LOneCan$Pad;") (List.mem_cons_of_mem _ wm_257)
  have hw1 := hts (.fieldLink RX2 63 "OneCan$Pad" "acts" "I") (List.mem_cons_of_mem _ wm_258)
  refine lv_iconst (v := 0) hx hb dX2_ready_0 (by decide) ?_
  refine lv_istore_n (lv' := [(1, .int 0), (0, .ref g)]) hx hb dX2_ready_1 rfl hl (by decide) rfl (fun ls hl => ?_)
  refine lv_iload_n hx hb dX2_ready_2 rfl (lv_at hl 0 rfl) ?_
  refine lv_aload_n hx hb dX2_ready_3 rfl (lv_at hl 1 rfl) ?_
  refine va_get (D := (dC, dI)) (ci := 2) (v := .ref d) (C := RX2) (T := TX2) (N := 6) hx hb hts hin2 hown hK hP 0 rfl rfl 1 (by decide) hw0 (fun _ h9 => h9) rfl dX2_ready_4 ?_
  refine va_get (D := (dC, dI)) (ci := 4) (v := .int 0) (C := RX4) (T := TX4) (N := 6) hx hb hts hin4 hown hK hP 1 rfl rfl 4 (by decide) hw1 (fun _ h9 => h9) rfl dX2_ready_7 ?_
  refine lv_icmp_ge (tgt := 86) hx hb dX2_ready_10 (by decide) (fun c1 => ?_) (fun c1 => absurd c1 (by decide))
  have hP9 := mx_subP (wc := [(g, .inr (2, [.ref k, .ref d, .ref j, .ref gg, .long 0, .long 0])), (d, .inr (4, [.ref ds, .int 0, .ref dk, .ref dw, .int 0, .int (-6)]))]) hP [0, 1] rfl
  have hD9 := hD.sub (ws' := [(g, .inr (2, [.ref k, .ref d, .ref j, .ref gg, .long 0, .long 0])), (d, .inr (4, [.ref ds, .int 0, .ref dk, .ref dw, .int 0, .int (-6)]))]) [0, 1] (by decide) rfl
  exact W.vret hx hb hr (fun t ht hW => ⟨⟨(), rfl, trivial, by rw [ht]; exact hP9, hD9⟩, hS.F ht⟩) hS.2.2 dX2_ready_86
set_option maxHeartbeats 4000000 in
set_option maxRecDepth 100000 in
theorem c_X2_lasts (l : Launch) (dC : Nat → ClassId) (dI : Nat → Nat → Nat) (cI cZ cK : ClassId) (tS aK aV : Nat) (g : Nat) (j : Nat) (k : Nat) (ks : Nat) (kw : Nat) (kc : Nat) (kq : Nat) (km : Nat) (kd : Nat) (ka : Nat) (kk : Nat) (d : Nat) (ds : Nat) (dk : Nat) (dw : Nat) (gg : Nat) (i0 : Int32) (sz : Nat) : Ci l yX2_lasts (wq yX2_lasts cX2_lasts 5 (some .boolean)) ({ frames := 0, cells := 0, slots := 0, locals := 0 }) dC dI cI cZ cK tS aK aV [.ref g, .int i0] sz [(g, .inr (2, [.ref k, .ref d, .ref j, .ref gg, .long 0, .long 0])), (d, .inr (4, [.ref ds, .int 0, .ref dk, .ref dw, .int 0, .int (-6)])), (k, .inr (0, [.ref ks, .ref kw, .ref kc, .int (-6), .int 0, .int 0, .ref kq, .ref km, .ref kd, .int 0, .ref ka, .ref kk])), (ks, .inl (cI, 5, .inl (upd (fun _ => 0) 0 800)))] (fun (r : Int32) (_ : Unit) => r = 1) (fun _ => [(g, .inr (2, [.ref k, .ref d, .ref j, .ref gg, .long 0, .long 0])), (d, .inr (4, [.ref ds, .int 0, .ref dk, .ref dw, .int 0, .int (-6)])), (k, .inr (0, [.ref ks, .ref kw, .ref kc, .int (-6), .int 0, .int 0, .ref kq, .ref km, .ref kd, .int 0, .ref ka, .ref kk])), (ks, .inl (cI, 5, .inl (upd (fun _ => 0) 0 800)))]) := by
  refine Met.ofW (cc := cX2_lasts) (maxL := 5) (ret := (some .boolean)) (by decide) rfl ?_
  intro p e s m args below meth c s₁ B hml hv
  obtain ⟨rfl, hsz, hP, hKx, hD0⟩ := hv
  have hx := B.exec
  have hb := B.bytes
  have hr := B.returns
  have hts := atoms_spec (ws := wq yX2_lasts cX2_lasts 5 (some .boolean)) B.pre
  have hown : s.vm.findClass RX2 = some m.cls := findClass_of_methodNamed B.named
  have hlocks := B.notSynchronized
  subst hsz
  have hD := hD0.self (sz := s.heap.size)
  generalize hAe : va_A [(g, .inr (2, [.ref k, .ref d, .ref j, .ref gg, .long 0, .long 0])), (d, .inr (4, [.ref ds, .int 0, .ref dk, .ref dw, .int 0, .int (-6)])), (k, .inr (0, [.ref ks, .ref kw, .ref kc, .int (-6), .int 0, .int 0, .ref kq, .ref km, .ref kd, .int 0, .ref ka, .ref kk])), (ks, .inl (cI, 5, .inl (upd (fun _ => 0) 0 800)))] s.heap.size = A at hD hKx ⊢
  have hA : ∀ q : Nat, s.heap.size ≤ q → A q := fun q h => by rw [← hAe]; exact Or.inr h
  have hS : va_S A s.heap s.heap [] := va_S.rf
  have hP : va_P (dC, dI) vwCl [(g, .inr (2, [.ref k, .ref d, .ref j, .ref gg, .long 0, .long 0])), (d, .inr (4, [.ref ds, .int 0, .ref dk, .ref dw, .int 0, .int (-6)])), (k, .inr (0, [.ref ks, .ref kw, .ref kc, .int (-6), .int 0, .int 0, .ref kq, .ref km, .ref kd, .int 0, .ref ka, .ref kk])), (ks, .inl (cI, 5, .inl (upd (fun _ => 0) 0 800)))] s.heap := hP
  have hl := lv_entry ([.ref g, .int i0]) (n := 5) (Nat.le_of_ble_eq_true rfl)
  rw [lg_entry_eq]
  generalize (lg_sl ([.ref g, .int i0]) ++ List.replicate (5 - (lg_sl ([.ref g, .int i0])).length) Slot.unset).toArray = ls at hl ⊢
  have hl : lv_has ls 5 [(0, .ref g), (1, .int i0)] := hl
  have hK := hKx.1
  have hin2 := fun w9 h9 => List.mem_cons_of_mem (Cond.code yX2_lasts cX2_lasts 5 (some .boolean)) (inlX2 w9 h9)
  have hin0 := fun w9 h9 => List.mem_cons_of_mem (Cond.code yX2_lasts cX2_lasts 5 (some .boolean)) (inlX0 w9 h9)
  have hin4 := fun w9 h9 => List.mem_cons_of_mem (Cond.code yX2_lasts cX2_lasts 5 (some .boolean)) (inlX4 w9 h9)
  have hw0 := hts (.fieldLink RX2 15 "OneCan$Gusts" "camp" "LOneCan$Camp;") (List.mem_cons_of_mem _ wm_255)
  have hw1 := hts (.fieldLink RX2 33 "OneCan$Camp" "settings" "[I") (List.mem_cons_of_mem _ wm_256)
  have hw2 := hts (.fieldLink RX2 19 "OneCan$Gusts" "pad" "LOneCan$Pad;") (List.mem_cons_of_mem _ wm_257)
  have hw3 := hts (.fieldLink RX2 63 "OneCan$Pad" "acts" "I") (List.mem_cons_of_mem _ wm_258)
  refine lv_aload_n hx hb dX2_lasts_0 rfl (lv_at hl 0 rfl) ?_
  refine va_get (D := (dC, dI)) (ci := 2) (v := .ref k) (C := RX2) (T := TX2) (N := 6) hx hb hts hin2 hown hK hP 0 rfl rfl 0 (by decide) hw0 (fun _ h9 => h9) rfl dX2_lasts_1 ?_
  refine va_get (D := (dC, dI)) (ci := 0) (v := .ref ks) (C := RX0) (T := TX0) (N := 12) hx hb hts hin0 hown hK hP 2 rfl rfl 0 (by decide) hw1 (fun _ h9 => h9) rfl dX2_lasts_4 ?_
  refine lv_iconst (v := 0) hx hb dX2_lasts_7 (by decide) ?_
  refine va_iald hx hb hK hP 3 0 rfl rfl (vin (by decide) (by decide)) dX2_lasts_8 ?_
  refine lv_topi (fun x1 e1 => ?_)
  obtain rfl : x1 = 800 := e1.trans (by first | rfl | decide)
  refine lv_istore_n (lv' := [(2, .int 800), (0, .ref g), (1, .int i0)]) hx hb dX2_lasts_9 rfl hl (by decide) rfl (fun ls hl => ?_)
  refine lv_iconst (v := 0) hx hb dX2_lasts_10 (by decide) ?_
  refine lv_istore_n (lv' := [(3, .int 0), (2, .int 800), (0, .ref g), (1, .int i0)]) hx hb dX2_lasts_11 rfl hl (by decide) rfl (fun ls hl => ?_)
  refine lv_iload_n hx hb dX2_lasts_12 rfl (lv_at hl 0 rfl) ?_
  refine lv_aload_n hx hb dX2_lasts_13 rfl (lv_at hl 2 rfl) ?_
  refine va_get (D := (dC, dI)) (ci := 2) (v := .ref d) (C := RX2) (T := TX2) (N := 6) hx hb hts hin2 hown hK hP 0 rfl rfl 1 (by decide) hw2 (fun _ h9 => h9) rfl dX2_lasts_14 ?_
  refine va_get (D := (dC, dI)) (ci := 4) (v := .int 0) (C := RX4) (T := TX4) (N := 6) hx hb hts hin4 hown hK hP 1 rfl rfl 4 (by decide) hw3 (fun _ h9 => h9) rfl dX2_lasts_17 ?_
  refine lv_icmp_ge (tgt := 113) hx hb dX2_lasts_20 (by decide) (fun c2 => ?_) (fun c2 => absurd c2 (by decide))
  refine lv_iconst (v := 1) hx hb dX2_lasts_113 (by decide) ?_
  have hP9 := mx_subP (wc := [(g, .inr (2, [.ref k, .ref d, .ref j, .ref gg, .long 0, .long 0])), (d, .inr (4, [.ref ds, .int 0, .ref dk, .ref dw, .int 0, .int (-6)])), (k, .inr (0, [.ref ks, .ref kw, .ref kc, .int (-6), .int 0, .int 0, .ref kq, .ref km, .ref kd, .int 0, .ref ka, .ref kk])), (ks, .inl (cI, 5, .inl (upd (fun _ => 0) 0 800)))]) hP [0, 1, 2, 3] rfl
  have hD9 := hD.sub (ws' := [(g, .inr (2, [.ref k, .ref d, .ref j, .ref gg, .long 0, .long 0])), (d, .inr (4, [.ref ds, .int 0, .ref dk, .ref dw, .int 0, .int (-6)])), (k, .inr (0, [.ref ks, .ref kw, .ref kc, .int (-6), .int 0, .int 0, .ref kq, .ref km, .ref kd, .int 0, .ref ka, .ref kk])), (ks, .inl (cI, 5, .inl (upd (fun _ => 0) 0 800)))]) [0, 1, 2, 3] (by decide) rfl
  exact W.zret (v := 1) hx hb hr rfl (fun t ht hW => ⟨⟨1, (), rfl, rfl, by rw [ht]; exact hP9, hD9⟩, hS.F ht⟩) hS.2.2 dX2_lasts_114
set_option maxHeartbeats 4000000 in
set_option maxRecDepth 100000 in
theorem c_X2_power0 (l : Launch) (dC : Nat → ClassId) (dI : Nat → Nat → Nat) (cI cZ cK : ClassId) (tS aK aV : Nat) (b0 : Int64) (sz : Nat) : Cl l yX2_power (wq yX2_power cX2_power 6 (some .long)) ({ frames := 0, cells := 0, slots := 0, locals := 0 }) dC dI cI cZ cK tS aK aV [.long b0, .int 0] sz [] (fun (r : Int64) (_ : Unit) => r = 1) (fun _ => []) := by
  refine Met.ofW (cc := cX2_power) (maxL := 6) (ret := (some .long)) (by decide) rfl ?_
  intro p e s m args below meth c s₁ B hml hv
  obtain ⟨rfl, hsz, hP, hKx, hD0⟩ := hv
  have hx := B.exec
  have hb := B.bytes
  have hr := B.returns
  have hts := atoms_spec (ws := wq yX2_power cX2_power 6 (some .long)) B.pre
  have hown : s.vm.findClass RX2 = some m.cls := findClass_of_methodNamed B.named
  have hlocks := B.notSynchronized
  subst hsz
  have hD := hD0.self (sz := s.heap.size)
  generalize hAe : va_A [] s.heap.size = A at hD hKx ⊢
  have hA : ∀ q : Nat, s.heap.size ≤ q → A q := fun q h => by rw [← hAe]; exact Or.inr h
  have hS : va_S A s.heap s.heap [] := va_S.rf
  have hP : va_P (dC, dI) vwCl [] s.heap := hP
  have hl := lv_entry ([.long b0, .int 0]) (n := 6) (Nat.le_of_ble_eq_true rfl)
  rw [lg_entry_eq]
  generalize (lg_sl ([.long b0, .int 0]) ++ List.replicate (6 - (lg_sl ([.long b0, .int 0])).length) Slot.unset).toArray = ls at hl ⊢
  have hl : lv_has ls 6 [(0, .long b0), (2, .int 0)] := hl
  have hK := hKx.1
  refine lv_lconst (v := 1) hx hb dX2_power_0 (by decide) ?_
  refine lv_lstore_n (lv' := [(3, .long 1), (0, .long b0), (2, .int 0)]) hx hb dX2_power_1 rfl hl (by decide) rfl (fun ls hl => ?_)
  refine lv_iconst (v := 0) hx hb dX2_power_2 (by decide) ?_
  refine lv_istore (lv' := [(5, .int 0), (3, .long 1), (0, .long b0), (2, .int 0)]) hx hb dX2_power_3 hl (by decide) rfl (fun ls hl => ?_)
  refine lv_iload hx hb dX2_power_5 (lv_at hl 0 rfl) ?_
  refine lv_iload_n hx hb dX2_power_7 rfl (lv_at hl 3 rfl) ?_
  refine lv_icmp_ge (tgt := 21) hx hb dX2_power_8 (by decide) (fun c1 => ?_) (fun c1 => absurd c1 (by decide))
  refine lv_lload_n hx hb dX2_power_21 rfl (lv_at hl 1 rfl) ?_
  have hP9 := mx_subP (wc := []) hP [] rfl
  have hD9 := hD.sub (ws' := []) [] (by decide) rfl
  exact W.lret (v := 1) hx hb hr (fun t ht hW => ⟨⟨1, (), rfl, rfl, by rw [ht]; exact hP9, hD9⟩, hS.F ht⟩) hS.2.2 dX2_power_22
set_option maxHeartbeats 4000000 in
set_option maxRecDepth 100000 in
theorem c_X2_power1 (l : Launch) (dC : Nat → ClassId) (dI : Nat → Nat → Nat) (cI cZ cK : ClassId) (tS aK aV : Nat) (b0 : Int64) (sz : Nat) : Cl l yX2_power (wq yX2_power cX2_power 6 (some .long)) ({ frames := 0, cells := 0, slots := 0, locals := 0 }) dC dI cI cZ cK tS aK aV [.long b0, .int 1] sz [] (fun (r : Int64) (_ : Unit) => r = b0) (fun _ => []) := by
  refine Met.ofW (cc := cX2_power) (maxL := 6) (ret := (some .long)) (by decide) rfl ?_
  intro p e s m args below meth c s₁ B hml hv
  obtain ⟨rfl, hsz, hP, hKx, hD0⟩ := hv
  have hx := B.exec
  have hb := B.bytes
  have hr := B.returns
  have hts := atoms_spec (ws := wq yX2_power cX2_power 6 (some .long)) B.pre
  have hown : s.vm.findClass RX2 = some m.cls := findClass_of_methodNamed B.named
  have hlocks := B.notSynchronized
  subst hsz
  have hD := hD0.self (sz := s.heap.size)
  generalize hAe : va_A [] s.heap.size = A at hD hKx ⊢
  have hA : ∀ q : Nat, s.heap.size ≤ q → A q := fun q h => by rw [← hAe]; exact Or.inr h
  have hS : va_S A s.heap s.heap [] := va_S.rf
  have hP : va_P (dC, dI) vwCl [] s.heap := hP
  have hl := lv_entry ([.long b0, .int 1]) (n := 6) (Nat.le_of_ble_eq_true rfl)
  rw [lg_entry_eq]
  generalize (lg_sl ([.long b0, .int 1]) ++ List.replicate (6 - (lg_sl ([.long b0, .int 1])).length) Slot.unset).toArray = ls at hl ⊢
  have hl : lv_has ls 6 [(0, .long b0), (2, .int 1)] := hl
  have hK := hKx.1
  refine lv_lconst (v := 1) hx hb dX2_power_0 (by decide) ?_
  refine lv_lstore_n (lv' := [(3, .long 1), (0, .long b0), (2, .int 1)]) hx hb dX2_power_1 rfl hl (by decide) rfl (fun ls hl => ?_)
  refine lv_iconst (v := 0) hx hb dX2_power_2 (by decide) ?_
  refine lv_istore (lv' := [(5, .int 0), (3, .long 1), (0, .long b0), (2, .int 1)]) hx hb dX2_power_3 hl (by decide) rfl (fun ls hl => ?_)
  refine lv_iload hx hb dX2_power_5 (lv_at hl 0 rfl) ?_
  refine lv_iload_n hx hb dX2_power_7 rfl (lv_at hl 3 rfl) ?_
  refine lv_icmp_ge (tgt := 21) hx hb dX2_power_8 (by decide) (fun c1 => absurd c1 (by decide)) (fun c1 => ?_)
  refine lv_lload_n hx hb dX2_power_11 rfl (lv_at hl 1 rfl) ?_
  refine lv_lload_n hx hb dX2_power_12 rfl (lv_at hl 2 rfl) ?_
  refine lv_lmul hx hb dX2_power_13 ?_
  refine lv_topl (fun x2 e2 => ?_)
  refine lv_lstore_n (lv' := [(3, .long x2), (5, .int 0), (0, .long b0), (2, .int 1)]) hx hb dX2_power_14 rfl hl (by decide) rfl (fun ls hl => ?_)
  refine lv_iinc (v := 1) (lv' := [(5, .int 1), (3, .long x2), (0, .long b0), (2, .int 1)]) hx hb dX2_power_15 hl (k := 1) rfl (by decide) (by decide) rfl (fun ls hl => ?_)
  refine lv_goto (tgt := 5) hx hb dX2_power_18 (by decide) ?_
  refine lv_iload hx hb dX2_power_5 (lv_at hl 0 rfl) ?_
  refine lv_iload_n hx hb dX2_power_7 rfl (lv_at hl 3 rfl) ?_
  refine lv_icmp_ge (tgt := 21) hx hb dX2_power_8 (by decide) (fun c3 => ?_) (fun c3 => absurd c3 (by decide))
  refine lv_lload_n hx hb dX2_power_21 rfl (lv_at hl 1 rfl) ?_
  have hP9 := mx_subP (wc := []) hP [] rfl
  have hD9 := hD.sub (ws' := []) [] (by decide) rfl
  exact W.lret (v := x2) hx hb hr (fun t ht hW => ⟨⟨x2, (), rfl, (by simp_all), by rw [ht]; exact hP9, hD9⟩, hS.F ht⟩) hS.2.2 dX2_power_22
set_option maxHeartbeats 4000000 in
set_option maxRecDepth 100000 in
theorem c_X2_weight_0_0 (l : Launch) (dC : Nat → ClassId) (dI : Nat → Nat → Nat) (cI cZ cK : ClassId) (tS aK aV : Nat) (sz : Nat) : Cl l yX2_weight (wq yX2_weight cX2_weight 4 (some .long)) ({ frames := 1, cells := 0, slots := 0, locals := 25 }) dC dI cI cZ cK tS aK aV [.int 0, .int 1, .int 0] sz [] (fun (r : Int64) (_ : Unit) => r = 10) (fun _ => []) := by
  refine Met.ofW (cc := cX2_weight) (maxL := 4) (ret := (some .long)) (by decide) rfl ?_
  intro p e s m args below meth c s₁ B hml hv
  obtain ⟨rfl, hsz, hP, hKx, hD0⟩ := hv
  have hx := B.exec
  have hb := B.bytes
  have hr := B.returns
  have hts := atoms_spec (ws := wq yX2_weight cX2_weight 4 (some .long)) B.pre
  have hown : s.vm.findClass RX2 = some m.cls := findClass_of_methodNamed B.named
  have hlocks := B.notSynchronized
  subst hsz
  have hD := hD0.self (sz := s.heap.size)
  generalize hAe : va_A [] s.heap.size = A at hD hKx ⊢
  have hA : ∀ q : Nat, s.heap.size ≤ q → A q := fun q h => by rw [← hAe]; exact Or.inr h
  have hS : va_S A s.heap s.heap [] := va_S.rf
  have hP : va_P (dC, dI) vwCl [] s.heap := hP
  have hl := lv_entry ([.int 0, .int 1, .int 0]) (n := 4) (Nat.le_of_ble_eq_true rfl)
  rw [lg_entry_eq]
  generalize (lg_sl ([.int 0, .int 1, .int 0]) ++ List.replicate (4 - (lg_sl ([.int 0, .int 1, .int 0])).length) Slot.unset).toArray = ls at hl ⊢
  have hl : lv_has ls 4 [(0, .int 0), (1, .int 1), (2, .int 0)] := hl
  have hK := hKx.1
  refine lv_iload_n hx hb dX2_weight_0 rfl (lv_at hl 0 rfl) ?_
  refine mx_i (wr := []) (va_runS (As := [.int 0]) (rest := []) ⟨hx, hb, hml, hown, hts⟩ (c_J6_bitCount_0f7a4_0 l dC dI cI cZ cK tS aK aV  s.heap.size) (va_cwS 1 hts (gw_s (fun _ h9 => List.mem_cons_of_mem _ h9) wm_259 wm_115 wm_116 wm_117) rfl rfl rfl (by decide +kernel) ⟨Nat.le_of_ble_eq_true rfl, Nat.le_of_ble_eq_true rfl⟩) (mx_preS hKx hP hD hS hA [] (by decide) rfl) rfl rfl hl.1 rfl (lv_room (Nat.le_of_ble_eq_true rfl)) dX2_weight_1 ⟨Nat.le_of_ble_eq_true rfl, Nat.le_of_ble_eq_true rfl⟩) hP hD hS hA [] [] rfl rfl (by decide) (by decide) (fun r1 u1 H locs hq1 hP hD hS => ?_)
  replace hP : va_P (dC, dI) vwCl [] H := hP
  replace hD : va_D A [] := hD
  obtain rfl : r1 = 0 := hq1
  refine lv_istore_n (lv' := [(3, .int 0), (0, .int 0), (1, .int 1), (2, .int 0)]) hx hb dX2_weight_4 rfl hl (by decide) rfl (fun ls hl => ?_)
  refine lv_iload_n hx hb dX2_weight_5 rfl (lv_at hl 3 rfl) ?_
  refine lv_i2l (v := 0) hx hb dX2_weight_6 (by decide) ?_
  refine lv_iload_n hx hb dX2_weight_7 rfl (lv_at hl 0 rfl) ?_
  refine mx_l (wr := []) (va_runS (As := [.long 0, .int 0]) (rest := []) ⟨hx, hb, hml, hown, hts⟩ (c_X2_power0 l dC dI cI cZ cK tS aK aV 0 H.size) (va_cwS 2 hts (gw_s (fun _ h9 => List.mem_cons_of_mem _ h9) wm_260 wm_261 wm_262 wm_263) rfl rfl rfl (by decide +kernel) ⟨Nat.le_of_ble_eq_true rfl, Nat.le_of_ble_eq_true rfl⟩) (mx_preS hKx hP hD hS hA [] (by decide) rfl) rfl rfl hl.1 rfl (lv_room (Nat.le_of_ble_eq_true rfl)) dX2_weight_8 ⟨Nat.le_of_ble_eq_true rfl, Nat.le_of_ble_eq_true rfl⟩) hP hD hS hA [] [] rfl rfl (by decide) (by decide) (fun r2 u2 H locs hq2 hP hD hS => ?_)
  replace hP : va_P (dC, dI) vwCl [] H := hP
  replace hD : va_D A [] := hD
  obtain rfl : r2 = 1 := hq2
  refine lv_bipush (v := 10) hx hb dX2_weight_11 (by decide) ?_
  refine lv_iload_n hx hb dX2_weight_13 rfl (lv_at hl 3 rfl) ?_
  refine lv_isub hx hb dX2_weight_14 ?_
  refine lv_topi (fun x3 e3 => ?_)
  obtain rfl : x3 = 10 := e3.trans (by decide)
  refine lv_i2l (v := 10) hx hb dX2_weight_15 (by decide) ?_
  refine lv_iload_n hx hb dX2_weight_16 rfl (lv_at hl 2 rfl) ?_
  refine lv_iload_n hx hb dX2_weight_17 rfl (lv_at hl 0 rfl) ?_
  refine lv_isub hx hb dX2_weight_18 ?_
  refine lv_topi (fun x4 e4 => ?_)
  obtain rfl : x4 = 1 := e4.trans (by decide)
  refine mx_l (wr := []) (va_runS (As := [.long 10, .int 1]) (rest := [.long 1]) ⟨hx, hb, hml, hown, hts⟩ (c_X2_power1 l dC dI cI cZ cK tS aK aV 10 H.size) (va_cwS 2 hts (gw_s (fun _ h9 => List.mem_cons_of_mem _ h9) wm_260 wm_261 wm_262 wm_263) rfl rfl rfl (by decide +kernel) ⟨Nat.le_of_ble_eq_true rfl, Nat.le_of_ble_eq_true rfl⟩) (mx_preS hKx hP hD hS hA [] (by decide) rfl) rfl rfl hl.1 rfl (lv_room (Nat.le_of_ble_eq_true rfl)) dX2_weight_19 ⟨Nat.le_of_ble_eq_true rfl, Nat.le_of_ble_eq_true rfl⟩) hP hD hS hA [] [] rfl rfl (by decide) (by decide) (fun r5 u5 H locs hq5 hP hD hS => ?_)
  replace hP : va_P (dC, dI) vwCl [] H := hP
  replace hD : va_D A [] := hD
  obtain rfl : r5 = 10 := hq5
  refine lv_lmul hx hb dX2_weight_22 ?_
  refine lv_topl (fun x6 e6 => ?_)
  obtain rfl : x6 = 10 := e6.trans (by decide)
  have hP9 := mx_subP (wc := []) hP [] rfl
  have hD9 := hD.sub (ws' := []) [] (by decide) rfl
  exact W.lret (v := 10) hx hb hr (fun t ht hW => ⟨⟨10, (), rfl, rfl, by rw [ht]; exact hP9, hD9⟩, hS.F ht⟩) hS.2.2 dX2_weight_23
set_option maxHeartbeats 4000000 in
set_option maxRecDepth 100000 in
theorem c_X2_weight_1_0 (l : Launch) (dC : Nat → ClassId) (dI : Nat → Nat → Nat) (cI cZ cK : ClassId) (tS aK aV : Nat) (sz : Nat) : Cl l yX2_weight (wq yX2_weight cX2_weight 4 (some .long)) ({ frames := 1, cells := 0, slots := 0, locals := 25 }) dC dI cI cZ cK tS aK aV [.int 1, .int 1, .int 0] sz [] (fun (r : Int64) (_ : Unit) => r = 0) (fun _ => []) := by
  refine Met.ofW (cc := cX2_weight) (maxL := 4) (ret := (some .long)) (by decide) rfl ?_
  intro p e s m args below meth c s₁ B hml hv
  obtain ⟨rfl, hsz, hP, hKx, hD0⟩ := hv
  have hx := B.exec
  have hb := B.bytes
  have hr := B.returns
  have hts := atoms_spec (ws := wq yX2_weight cX2_weight 4 (some .long)) B.pre
  have hown : s.vm.findClass RX2 = some m.cls := findClass_of_methodNamed B.named
  have hlocks := B.notSynchronized
  subst hsz
  have hD := hD0.self (sz := s.heap.size)
  generalize hAe : va_A [] s.heap.size = A at hD hKx ⊢
  have hA : ∀ q : Nat, s.heap.size ≤ q → A q := fun q h => by rw [← hAe]; exact Or.inr h
  have hS : va_S A s.heap s.heap [] := va_S.rf
  have hP : va_P (dC, dI) vwCl [] s.heap := hP
  have hl := lv_entry ([.int 1, .int 1, .int 0]) (n := 4) (Nat.le_of_ble_eq_true rfl)
  rw [lg_entry_eq]
  generalize (lg_sl ([.int 1, .int 1, .int 0]) ++ List.replicate (4 - (lg_sl ([.int 1, .int 1, .int 0])).length) Slot.unset).toArray = ls at hl ⊢
  have hl : lv_has ls 4 [(0, .int 1), (1, .int 1), (2, .int 0)] := hl
  have hK := hKx.1
  refine lv_iload_n hx hb dX2_weight_0 rfl (lv_at hl 0 rfl) ?_
  refine mx_i (wr := []) (va_runS (As := [.int 1]) (rest := []) ⟨hx, hb, hml, hown, hts⟩ (c_J6_bitCount_0f7a4_1 l dC dI cI cZ cK tS aK aV  s.heap.size) (va_cwS 1 hts (gw_s (fun _ h9 => List.mem_cons_of_mem _ h9) wm_259 wm_115 wm_116 wm_117) rfl rfl rfl (by decide +kernel) ⟨Nat.le_of_ble_eq_true rfl, Nat.le_of_ble_eq_true rfl⟩) (mx_preS hKx hP hD hS hA [] (by decide) rfl) rfl rfl hl.1 rfl (lv_room (Nat.le_of_ble_eq_true rfl)) dX2_weight_1 ⟨Nat.le_of_ble_eq_true rfl, Nat.le_of_ble_eq_true rfl⟩) hP hD hS hA [] [] rfl rfl (by decide) (by decide) (fun r1 u1 H locs hq1 hP hD hS => ?_)
  replace hP : va_P (dC, dI) vwCl [] H := hP
  replace hD : va_D A [] := hD
  obtain rfl : r1 = 1 := hq1
  refine lv_istore_n (lv' := [(3, .int 1), (0, .int 1), (1, .int 1), (2, .int 0)]) hx hb dX2_weight_4 rfl hl (by decide) rfl (fun ls hl => ?_)
  refine lv_iload_n hx hb dX2_weight_5 rfl (lv_at hl 3 rfl) ?_
  refine lv_i2l (v := 0) hx hb dX2_weight_6 (by decide) ?_
  refine lv_iload_n hx hb dX2_weight_7 rfl (lv_at hl 0 rfl) ?_
  refine mx_l (wr := []) (va_runS (As := [.long 0, .int 1]) (rest := []) ⟨hx, hb, hml, hown, hts⟩ (c_X2_power1 l dC dI cI cZ cK tS aK aV 0 H.size) (va_cwS 2 hts (gw_s (fun _ h9 => List.mem_cons_of_mem _ h9) wm_260 wm_261 wm_262 wm_263) rfl rfl rfl (by decide +kernel) ⟨Nat.le_of_ble_eq_true rfl, Nat.le_of_ble_eq_true rfl⟩) (mx_preS hKx hP hD hS hA [] (by decide) rfl) rfl rfl hl.1 rfl (lv_room (Nat.le_of_ble_eq_true rfl)) dX2_weight_8 ⟨Nat.le_of_ble_eq_true rfl, Nat.le_of_ble_eq_true rfl⟩) hP hD hS hA [] [] rfl rfl (by decide) (by decide) (fun r2 u2 H locs hq2 hP hD hS => ?_)
  replace hP : va_P (dC, dI) vwCl [] H := hP
  replace hD : va_D A [] := hD
  obtain rfl : r2 = 0 := hq2
  refine lv_bipush (v := 10) hx hb dX2_weight_11 (by decide) ?_
  refine lv_iload_n hx hb dX2_weight_13 rfl (lv_at hl 3 rfl) ?_
  refine lv_isub hx hb dX2_weight_14 ?_
  refine lv_topi (fun x3 e3 => ?_)
  obtain rfl : x3 = 10 := e3.trans (by decide)
  refine lv_i2l (v := 10) hx hb dX2_weight_15 (by decide) ?_
  refine lv_iload_n hx hb dX2_weight_16 rfl (lv_at hl 2 rfl) ?_
  refine lv_iload_n hx hb dX2_weight_17 rfl (lv_at hl 0 rfl) ?_
  refine lv_isub hx hb dX2_weight_18 ?_
  refine lv_topi (fun x4 e4 => ?_)
  obtain rfl : x4 = 0 := e4.trans (by decide)
  refine mx_l (wr := []) (va_runS (As := [.long 10, .int 0]) (rest := [.long 0]) ⟨hx, hb, hml, hown, hts⟩ (c_X2_power0 l dC dI cI cZ cK tS aK aV 10 H.size) (va_cwS 2 hts (gw_s (fun _ h9 => List.mem_cons_of_mem _ h9) wm_260 wm_261 wm_262 wm_263) rfl rfl rfl (by decide +kernel) ⟨Nat.le_of_ble_eq_true rfl, Nat.le_of_ble_eq_true rfl⟩) (mx_preS hKx hP hD hS hA [] (by decide) rfl) rfl rfl hl.1 rfl (lv_room (Nat.le_of_ble_eq_true rfl)) dX2_weight_19 ⟨Nat.le_of_ble_eq_true rfl, Nat.le_of_ble_eq_true rfl⟩) hP hD hS hA [] [] rfl rfl (by decide) (by decide) (fun r5 u5 H locs hq5 hP hD hS => ?_)
  replace hP : va_P (dC, dI) vwCl [] H := hP
  replace hD : va_D A [] := hD
  obtain rfl : r5 = 1 := hq5
  refine lv_lmul hx hb dX2_weight_22 ?_
  refine lv_topl (fun x6 e6 => ?_)
  obtain rfl : x6 = 0 := e6.trans (by decide)
  have hP9 := mx_subP (wc := []) hP [] rfl
  have hD9 := hD.sub (ws' := []) [] (by decide) rfl
  exact W.lret (v := 0) hx hb hr (fun t ht hW => ⟨⟨0, (), rfl, rfl, by rw [ht]; exact hP9, hD9⟩, hS.F ht⟩) hS.2.2 dX2_weight_23
set_option maxHeartbeats 4000000 in
set_option maxRecDepth 100000 in
theorem c_X2_weight_0_1 (l : Launch) (dC : Nat → ClassId) (dI : Nat → Nat → Nat) (cI cZ cK : ClassId) (tS aK aV : Nat) (sz : Nat) : Cl l yX2_weight (wq yX2_weight cX2_weight 4 (some .long)) ({ frames := 1, cells := 0, slots := 0, locals := 25 }) dC dI cI cZ cK tS aK aV [.int 0, .int 1, .int 1] sz [] (fun (r : Int64) (_ : Unit) => r = 9) (fun _ => []) := by
  refine Met.ofW (cc := cX2_weight) (maxL := 4) (ret := (some .long)) (by decide) rfl ?_
  intro p e s m args below meth c s₁ B hml hv
  obtain ⟨rfl, hsz, hP, hKx, hD0⟩ := hv
  have hx := B.exec
  have hb := B.bytes
  have hr := B.returns
  have hts := atoms_spec (ws := wq yX2_weight cX2_weight 4 (some .long)) B.pre
  have hown : s.vm.findClass RX2 = some m.cls := findClass_of_methodNamed B.named
  have hlocks := B.notSynchronized
  subst hsz
  have hD := hD0.self (sz := s.heap.size)
  generalize hAe : va_A [] s.heap.size = A at hD hKx ⊢
  have hA : ∀ q : Nat, s.heap.size ≤ q → A q := fun q h => by rw [← hAe]; exact Or.inr h
  have hS : va_S A s.heap s.heap [] := va_S.rf
  have hP : va_P (dC, dI) vwCl [] s.heap := hP
  have hl := lv_entry ([.int 0, .int 1, .int 1]) (n := 4) (Nat.le_of_ble_eq_true rfl)
  rw [lg_entry_eq]
  generalize (lg_sl ([.int 0, .int 1, .int 1]) ++ List.replicate (4 - (lg_sl ([.int 0, .int 1, .int 1])).length) Slot.unset).toArray = ls at hl ⊢
  have hl : lv_has ls 4 [(0, .int 0), (1, .int 1), (2, .int 1)] := hl
  have hK := hKx.1
  refine lv_iload_n hx hb dX2_weight_0 rfl (lv_at hl 0 rfl) ?_
  refine mx_i (wr := []) (va_runS (As := [.int 0]) (rest := []) ⟨hx, hb, hml, hown, hts⟩ (c_J6_bitCount_0f7a4_0 l dC dI cI cZ cK tS aK aV  s.heap.size) (va_cwS 1 hts (gw_s (fun _ h9 => List.mem_cons_of_mem _ h9) wm_259 wm_115 wm_116 wm_117) rfl rfl rfl (by decide +kernel) ⟨Nat.le_of_ble_eq_true rfl, Nat.le_of_ble_eq_true rfl⟩) (mx_preS hKx hP hD hS hA [] (by decide) rfl) rfl rfl hl.1 rfl (lv_room (Nat.le_of_ble_eq_true rfl)) dX2_weight_1 ⟨Nat.le_of_ble_eq_true rfl, Nat.le_of_ble_eq_true rfl⟩) hP hD hS hA [] [] rfl rfl (by decide) (by decide) (fun r1 u1 H locs hq1 hP hD hS => ?_)
  replace hP : va_P (dC, dI) vwCl [] H := hP
  replace hD : va_D A [] := hD
  obtain rfl : r1 = 0 := hq1
  refine lv_istore_n (lv' := [(3, .int 0), (0, .int 0), (1, .int 1), (2, .int 1)]) hx hb dX2_weight_4 rfl hl (by decide) rfl (fun ls hl => ?_)
  refine lv_iload_n hx hb dX2_weight_5 rfl (lv_at hl 3 rfl) ?_
  refine lv_i2l (v := 1) hx hb dX2_weight_6 (by decide) ?_
  refine lv_iload_n hx hb dX2_weight_7 rfl (lv_at hl 0 rfl) ?_
  refine mx_l (wr := []) (va_runS (As := [.long 1, .int 0]) (rest := []) ⟨hx, hb, hml, hown, hts⟩ (c_X2_power0 l dC dI cI cZ cK tS aK aV 1 H.size) (va_cwS 2 hts (gw_s (fun _ h9 => List.mem_cons_of_mem _ h9) wm_260 wm_261 wm_262 wm_263) rfl rfl rfl (by decide +kernel) ⟨Nat.le_of_ble_eq_true rfl, Nat.le_of_ble_eq_true rfl⟩) (mx_preS hKx hP hD hS hA [] (by decide) rfl) rfl rfl hl.1 rfl (lv_room (Nat.le_of_ble_eq_true rfl)) dX2_weight_8 ⟨Nat.le_of_ble_eq_true rfl, Nat.le_of_ble_eq_true rfl⟩) hP hD hS hA [] [] rfl rfl (by decide) (by decide) (fun r2 u2 H locs hq2 hP hD hS => ?_)
  replace hP : va_P (dC, dI) vwCl [] H := hP
  replace hD : va_D A [] := hD
  obtain rfl : r2 = 1 := hq2
  refine lv_bipush (v := 10) hx hb dX2_weight_11 (by decide) ?_
  refine lv_iload_n hx hb dX2_weight_13 rfl (lv_at hl 3 rfl) ?_
  refine lv_isub hx hb dX2_weight_14 ?_
  refine lv_topi (fun x3 e3 => ?_)
  obtain rfl : x3 = 9 := e3.trans (by decide)
  refine lv_i2l (v := 9) hx hb dX2_weight_15 (by decide) ?_
  refine lv_iload_n hx hb dX2_weight_16 rfl (lv_at hl 2 rfl) ?_
  refine lv_iload_n hx hb dX2_weight_17 rfl (lv_at hl 0 rfl) ?_
  refine lv_isub hx hb dX2_weight_18 ?_
  refine lv_topi (fun x4 e4 => ?_)
  obtain rfl : x4 = 1 := e4.trans (by decide)
  refine mx_l (wr := []) (va_runS (As := [.long 9, .int 1]) (rest := [.long 1]) ⟨hx, hb, hml, hown, hts⟩ (c_X2_power1 l dC dI cI cZ cK tS aK aV 9 H.size) (va_cwS 2 hts (gw_s (fun _ h9 => List.mem_cons_of_mem _ h9) wm_260 wm_261 wm_262 wm_263) rfl rfl rfl (by decide +kernel) ⟨Nat.le_of_ble_eq_true rfl, Nat.le_of_ble_eq_true rfl⟩) (mx_preS hKx hP hD hS hA [] (by decide) rfl) rfl rfl hl.1 rfl (lv_room (Nat.le_of_ble_eq_true rfl)) dX2_weight_19 ⟨Nat.le_of_ble_eq_true rfl, Nat.le_of_ble_eq_true rfl⟩) hP hD hS hA [] [] rfl rfl (by decide) (by decide) (fun r5 u5 H locs hq5 hP hD hS => ?_)
  replace hP : va_P (dC, dI) vwCl [] H := hP
  replace hD : va_D A [] := hD
  obtain rfl : r5 = 9 := hq5
  refine lv_lmul hx hb dX2_weight_22 ?_
  refine lv_topl (fun x6 e6 => ?_)
  obtain rfl : x6 = 9 := e6.trans (by decide)
  have hP9 := mx_subP (wc := []) hP [] rfl
  have hD9 := hD.sub (ws' := []) [] (by decide) rfl
  exact W.lret (v := 9) hx hb hr (fun t ht hW => ⟨⟨9, (), rfl, rfl, by rw [ht]; exact hP9, hD9⟩, hS.F ht⟩) hS.2.2 dX2_weight_23
set_option maxHeartbeats 4000000 in
set_option maxRecDepth 100000 in
theorem c_X2_weight_1_1 (l : Launch) (dC : Nat → ClassId) (dI : Nat → Nat → Nat) (cI cZ cK : ClassId) (tS aK aV : Nat) (sz : Nat) : Cl l yX2_weight (wq yX2_weight cX2_weight 4 (some .long)) ({ frames := 1, cells := 0, slots := 0, locals := 25 }) dC dI cI cZ cK tS aK aV [.int 1, .int 1, .int 1] sz [] (fun (r : Int64) (_ : Unit) => r = 1) (fun _ => []) := by
  refine Met.ofW (cc := cX2_weight) (maxL := 4) (ret := (some .long)) (by decide) rfl ?_
  intro p e s m args below meth c s₁ B hml hv
  obtain ⟨rfl, hsz, hP, hKx, hD0⟩ := hv
  have hx := B.exec
  have hb := B.bytes
  have hr := B.returns
  have hts := atoms_spec (ws := wq yX2_weight cX2_weight 4 (some .long)) B.pre
  have hown : s.vm.findClass RX2 = some m.cls := findClass_of_methodNamed B.named
  have hlocks := B.notSynchronized
  subst hsz
  have hD := hD0.self (sz := s.heap.size)
  generalize hAe : va_A [] s.heap.size = A at hD hKx ⊢
  have hA : ∀ q : Nat, s.heap.size ≤ q → A q := fun q h => by rw [← hAe]; exact Or.inr h
  have hS : va_S A s.heap s.heap [] := va_S.rf
  have hP : va_P (dC, dI) vwCl [] s.heap := hP
  have hl := lv_entry ([.int 1, .int 1, .int 1]) (n := 4) (Nat.le_of_ble_eq_true rfl)
  rw [lg_entry_eq]
  generalize (lg_sl ([.int 1, .int 1, .int 1]) ++ List.replicate (4 - (lg_sl ([.int 1, .int 1, .int 1])).length) Slot.unset).toArray = ls at hl ⊢
  have hl : lv_has ls 4 [(0, .int 1), (1, .int 1), (2, .int 1)] := hl
  have hK := hKx.1
  refine lv_iload_n hx hb dX2_weight_0 rfl (lv_at hl 0 rfl) ?_
  refine mx_i (wr := []) (va_runS (As := [.int 1]) (rest := []) ⟨hx, hb, hml, hown, hts⟩ (c_J6_bitCount_0f7a4_1 l dC dI cI cZ cK tS aK aV  s.heap.size) (va_cwS 1 hts (gw_s (fun _ h9 => List.mem_cons_of_mem _ h9) wm_259 wm_115 wm_116 wm_117) rfl rfl rfl (by decide +kernel) ⟨Nat.le_of_ble_eq_true rfl, Nat.le_of_ble_eq_true rfl⟩) (mx_preS hKx hP hD hS hA [] (by decide) rfl) rfl rfl hl.1 rfl (lv_room (Nat.le_of_ble_eq_true rfl)) dX2_weight_1 ⟨Nat.le_of_ble_eq_true rfl, Nat.le_of_ble_eq_true rfl⟩) hP hD hS hA [] [] rfl rfl (by decide) (by decide) (fun r1 u1 H locs hq1 hP hD hS => ?_)
  replace hP : va_P (dC, dI) vwCl [] H := hP
  replace hD : va_D A [] := hD
  obtain rfl : r1 = 1 := hq1
  refine lv_istore_n (lv' := [(3, .int 1), (0, .int 1), (1, .int 1), (2, .int 1)]) hx hb dX2_weight_4 rfl hl (by decide) rfl (fun ls hl => ?_)
  refine lv_iload_n hx hb dX2_weight_5 rfl (lv_at hl 3 rfl) ?_
  refine lv_i2l (v := 1) hx hb dX2_weight_6 (by decide) ?_
  refine lv_iload_n hx hb dX2_weight_7 rfl (lv_at hl 0 rfl) ?_
  refine mx_l (wr := []) (va_runS (As := [.long 1, .int 1]) (rest := []) ⟨hx, hb, hml, hown, hts⟩ (c_X2_power1 l dC dI cI cZ cK tS aK aV 1 H.size) (va_cwS 2 hts (gw_s (fun _ h9 => List.mem_cons_of_mem _ h9) wm_260 wm_261 wm_262 wm_263) rfl rfl rfl (by decide +kernel) ⟨Nat.le_of_ble_eq_true rfl, Nat.le_of_ble_eq_true rfl⟩) (mx_preS hKx hP hD hS hA [] (by decide) rfl) rfl rfl hl.1 rfl (lv_room (Nat.le_of_ble_eq_true rfl)) dX2_weight_8 ⟨Nat.le_of_ble_eq_true rfl, Nat.le_of_ble_eq_true rfl⟩) hP hD hS hA [] [] rfl rfl (by decide) (by decide) (fun r2 u2 H locs hq2 hP hD hS => ?_)
  replace hP : va_P (dC, dI) vwCl [] H := hP
  replace hD : va_D A [] := hD
  obtain rfl : r2 = 1 := hq2
  refine lv_bipush (v := 10) hx hb dX2_weight_11 (by decide) ?_
  refine lv_iload_n hx hb dX2_weight_13 rfl (lv_at hl 3 rfl) ?_
  refine lv_isub hx hb dX2_weight_14 ?_
  refine lv_topi (fun x3 e3 => ?_)
  obtain rfl : x3 = 9 := e3.trans (by decide)
  refine lv_i2l (v := 9) hx hb dX2_weight_15 (by decide) ?_
  refine lv_iload_n hx hb dX2_weight_16 rfl (lv_at hl 2 rfl) ?_
  refine lv_iload_n hx hb dX2_weight_17 rfl (lv_at hl 0 rfl) ?_
  refine lv_isub hx hb dX2_weight_18 ?_
  refine lv_topi (fun x4 e4 => ?_)
  obtain rfl : x4 = 0 := e4.trans (by decide)
  refine mx_l (wr := []) (va_runS (As := [.long 9, .int 0]) (rest := [.long 1]) ⟨hx, hb, hml, hown, hts⟩ (c_X2_power0 l dC dI cI cZ cK tS aK aV 9 H.size) (va_cwS 2 hts (gw_s (fun _ h9 => List.mem_cons_of_mem _ h9) wm_260 wm_261 wm_262 wm_263) rfl rfl rfl (by decide +kernel) ⟨Nat.le_of_ble_eq_true rfl, Nat.le_of_ble_eq_true rfl⟩) (mx_preS hKx hP hD hS hA [] (by decide) rfl) rfl rfl hl.1 rfl (lv_room (Nat.le_of_ble_eq_true rfl)) dX2_weight_19 ⟨Nat.le_of_ble_eq_true rfl, Nat.le_of_ble_eq_true rfl⟩) hP hD hS hA [] [] rfl rfl (by decide) (by decide) (fun r5 u5 H locs hq5 hP hD hS => ?_)
  replace hP : va_P (dC, dI) vwCl [] H := hP
  replace hD : va_D A [] := hD
  obtain rfl : r5 = 1 := hq5
  refine lv_lmul hx hb dX2_weight_22 ?_
  refine lv_topl (fun x6 e6 => ?_)
  obtain rfl : x6 = 1 := e6.trans (by decide)
  have hP9 := mx_subP (wc := []) hP [] rfl
  have hD9 := hD.sub (ws' := []) [] (by decide) rfl
  exact W.lret (v := 1) hx hb hr (fun t ht hW => ⟨⟨1, (), rfl, rfl, by rw [ht]; exact hP9, hD9⟩, hS.F ht⟩) hS.2.2 dX2_weight_23
set_option maxHeartbeats 4000000 in
set_option maxRecDepth 100000 in
theorem c_X2_weight_0_2 (l : Launch) (dC : Nat → ClassId) (dI : Nat → Nat → Nat) (cI cZ cK : ClassId) (tS aK aV : Nat) (sz : Nat) : Cl l yX2_weight (wq yX2_weight cX2_weight 4 (some .long)) ({ frames := 1, cells := 0, slots := 0, locals := 25 }) dC dI cI cZ cK tS aK aV [.int 0, .int 1, .int 2] sz [] (fun (r : Int64) (_ : Unit) => r = 8) (fun _ => []) := by
  refine Met.ofW (cc := cX2_weight) (maxL := 4) (ret := (some .long)) (by decide) rfl ?_
  intro p e s m args below meth c s₁ B hml hv
  obtain ⟨rfl, hsz, hP, hKx, hD0⟩ := hv
  have hx := B.exec
  have hb := B.bytes
  have hr := B.returns
  have hts := atoms_spec (ws := wq yX2_weight cX2_weight 4 (some .long)) B.pre
  have hown : s.vm.findClass RX2 = some m.cls := findClass_of_methodNamed B.named
  have hlocks := B.notSynchronized
  subst hsz
  have hD := hD0.self (sz := s.heap.size)
  generalize hAe : va_A [] s.heap.size = A at hD hKx ⊢
  have hA : ∀ q : Nat, s.heap.size ≤ q → A q := fun q h => by rw [← hAe]; exact Or.inr h
  have hS : va_S A s.heap s.heap [] := va_S.rf
  have hP : va_P (dC, dI) vwCl [] s.heap := hP
  have hl := lv_entry ([.int 0, .int 1, .int 2]) (n := 4) (Nat.le_of_ble_eq_true rfl)
  rw [lg_entry_eq]
  generalize (lg_sl ([.int 0, .int 1, .int 2]) ++ List.replicate (4 - (lg_sl ([.int 0, .int 1, .int 2])).length) Slot.unset).toArray = ls at hl ⊢
  have hl : lv_has ls 4 [(0, .int 0), (1, .int 1), (2, .int 2)] := hl
  have hK := hKx.1
  refine lv_iload_n hx hb dX2_weight_0 rfl (lv_at hl 0 rfl) ?_
  refine mx_i (wr := []) (va_runS (As := [.int 0]) (rest := []) ⟨hx, hb, hml, hown, hts⟩ (c_J6_bitCount_0f7a4_0 l dC dI cI cZ cK tS aK aV  s.heap.size) (va_cwS 1 hts (gw_s (fun _ h9 => List.mem_cons_of_mem _ h9) wm_259 wm_115 wm_116 wm_117) rfl rfl rfl (by decide +kernel) ⟨Nat.le_of_ble_eq_true rfl, Nat.le_of_ble_eq_true rfl⟩) (mx_preS hKx hP hD hS hA [] (by decide) rfl) rfl rfl hl.1 rfl (lv_room (Nat.le_of_ble_eq_true rfl)) dX2_weight_1 ⟨Nat.le_of_ble_eq_true rfl, Nat.le_of_ble_eq_true rfl⟩) hP hD hS hA [] [] rfl rfl (by decide) (by decide) (fun r1 u1 H locs hq1 hP hD hS => ?_)
  replace hP : va_P (dC, dI) vwCl [] H := hP
  replace hD : va_D A [] := hD
  obtain rfl : r1 = 0 := hq1
  refine lv_istore_n (lv' := [(3, .int 0), (0, .int 0), (1, .int 1), (2, .int 2)]) hx hb dX2_weight_4 rfl hl (by decide) rfl (fun ls hl => ?_)
  refine lv_iload_n hx hb dX2_weight_5 rfl (lv_at hl 3 rfl) ?_
  refine lv_i2l (v := 2) hx hb dX2_weight_6 (by decide) ?_
  refine lv_iload_n hx hb dX2_weight_7 rfl (lv_at hl 0 rfl) ?_
  refine mx_l (wr := []) (va_runS (As := [.long 2, .int 0]) (rest := []) ⟨hx, hb, hml, hown, hts⟩ (c_X2_power0 l dC dI cI cZ cK tS aK aV 2 H.size) (va_cwS 2 hts (gw_s (fun _ h9 => List.mem_cons_of_mem _ h9) wm_260 wm_261 wm_262 wm_263) rfl rfl rfl (by decide +kernel) ⟨Nat.le_of_ble_eq_true rfl, Nat.le_of_ble_eq_true rfl⟩) (mx_preS hKx hP hD hS hA [] (by decide) rfl) rfl rfl hl.1 rfl (lv_room (Nat.le_of_ble_eq_true rfl)) dX2_weight_8 ⟨Nat.le_of_ble_eq_true rfl, Nat.le_of_ble_eq_true rfl⟩) hP hD hS hA [] [] rfl rfl (by decide) (by decide) (fun r2 u2 H locs hq2 hP hD hS => ?_)
  replace hP : va_P (dC, dI) vwCl [] H := hP
  replace hD : va_D A [] := hD
  obtain rfl : r2 = 1 := hq2
  refine lv_bipush (v := 10) hx hb dX2_weight_11 (by decide) ?_
  refine lv_iload_n hx hb dX2_weight_13 rfl (lv_at hl 3 rfl) ?_
  refine lv_isub hx hb dX2_weight_14 ?_
  refine lv_topi (fun x3 e3 => ?_)
  obtain rfl : x3 = 8 := e3.trans (by decide)
  refine lv_i2l (v := 8) hx hb dX2_weight_15 (by decide) ?_
  refine lv_iload_n hx hb dX2_weight_16 rfl (lv_at hl 2 rfl) ?_
  refine lv_iload_n hx hb dX2_weight_17 rfl (lv_at hl 0 rfl) ?_
  refine lv_isub hx hb dX2_weight_18 ?_
  refine lv_topi (fun x4 e4 => ?_)
  obtain rfl : x4 = 1 := e4.trans (by decide)
  refine mx_l (wr := []) (va_runS (As := [.long 8, .int 1]) (rest := [.long 1]) ⟨hx, hb, hml, hown, hts⟩ (c_X2_power1 l dC dI cI cZ cK tS aK aV 8 H.size) (va_cwS 2 hts (gw_s (fun _ h9 => List.mem_cons_of_mem _ h9) wm_260 wm_261 wm_262 wm_263) rfl rfl rfl (by decide +kernel) ⟨Nat.le_of_ble_eq_true rfl, Nat.le_of_ble_eq_true rfl⟩) (mx_preS hKx hP hD hS hA [] (by decide) rfl) rfl rfl hl.1 rfl (lv_room (Nat.le_of_ble_eq_true rfl)) dX2_weight_19 ⟨Nat.le_of_ble_eq_true rfl, Nat.le_of_ble_eq_true rfl⟩) hP hD hS hA [] [] rfl rfl (by decide) (by decide) (fun r5 u5 H locs hq5 hP hD hS => ?_)
  replace hP : va_P (dC, dI) vwCl [] H := hP
  replace hD : va_D A [] := hD
  obtain rfl : r5 = 8 := hq5
  refine lv_lmul hx hb dX2_weight_22 ?_
  refine lv_topl (fun x6 e6 => ?_)
  obtain rfl : x6 = 8 := e6.trans (by decide)
  have hP9 := mx_subP (wc := []) hP [] rfl
  have hD9 := hD.sub (ws' := []) [] (by decide) rfl
  exact W.lret (v := 8) hx hb hr (fun t ht hW => ⟨⟨8, (), rfl, rfl, by rw [ht]; exact hP9, hD9⟩, hS.F ht⟩) hS.2.2 dX2_weight_23
set_option maxHeartbeats 4000000 in
set_option maxRecDepth 100000 in
theorem c_X2_weight_1_2 (l : Launch) (dC : Nat → ClassId) (dI : Nat → Nat → Nat) (cI cZ cK : ClassId) (tS aK aV : Nat) (sz : Nat) : Cl l yX2_weight (wq yX2_weight cX2_weight 4 (some .long)) ({ frames := 1, cells := 0, slots := 0, locals := 25 }) dC dI cI cZ cK tS aK aV [.int 1, .int 1, .int 2] sz [] (fun (r : Int64) (_ : Unit) => r = 2) (fun _ => []) := by
  refine Met.ofW (cc := cX2_weight) (maxL := 4) (ret := (some .long)) (by decide) rfl ?_
  intro p e s m args below meth c s₁ B hml hv
  obtain ⟨rfl, hsz, hP, hKx, hD0⟩ := hv
  have hx := B.exec
  have hb := B.bytes
  have hr := B.returns
  have hts := atoms_spec (ws := wq yX2_weight cX2_weight 4 (some .long)) B.pre
  have hown : s.vm.findClass RX2 = some m.cls := findClass_of_methodNamed B.named
  have hlocks := B.notSynchronized
  subst hsz
  have hD := hD0.self (sz := s.heap.size)
  generalize hAe : va_A [] s.heap.size = A at hD hKx ⊢
  have hA : ∀ q : Nat, s.heap.size ≤ q → A q := fun q h => by rw [← hAe]; exact Or.inr h
  have hS : va_S A s.heap s.heap [] := va_S.rf
  have hP : va_P (dC, dI) vwCl [] s.heap := hP
  have hl := lv_entry ([.int 1, .int 1, .int 2]) (n := 4) (Nat.le_of_ble_eq_true rfl)
  rw [lg_entry_eq]
  generalize (lg_sl ([.int 1, .int 1, .int 2]) ++ List.replicate (4 - (lg_sl ([.int 1, .int 1, .int 2])).length) Slot.unset).toArray = ls at hl ⊢
  have hl : lv_has ls 4 [(0, .int 1), (1, .int 1), (2, .int 2)] := hl
  have hK := hKx.1
  refine lv_iload_n hx hb dX2_weight_0 rfl (lv_at hl 0 rfl) ?_
  refine mx_i (wr := []) (va_runS (As := [.int 1]) (rest := []) ⟨hx, hb, hml, hown, hts⟩ (c_J6_bitCount_0f7a4_1 l dC dI cI cZ cK tS aK aV  s.heap.size) (va_cwS 1 hts (gw_s (fun _ h9 => List.mem_cons_of_mem _ h9) wm_259 wm_115 wm_116 wm_117) rfl rfl rfl (by decide +kernel) ⟨Nat.le_of_ble_eq_true rfl, Nat.le_of_ble_eq_true rfl⟩) (mx_preS hKx hP hD hS hA [] (by decide) rfl) rfl rfl hl.1 rfl (lv_room (Nat.le_of_ble_eq_true rfl)) dX2_weight_1 ⟨Nat.le_of_ble_eq_true rfl, Nat.le_of_ble_eq_true rfl⟩) hP hD hS hA [] [] rfl rfl (by decide) (by decide) (fun r1 u1 H locs hq1 hP hD hS => ?_)
  replace hP : va_P (dC, dI) vwCl [] H := hP
  replace hD : va_D A [] := hD
  obtain rfl : r1 = 1 := hq1
  refine lv_istore_n (lv' := [(3, .int 1), (0, .int 1), (1, .int 1), (2, .int 2)]) hx hb dX2_weight_4 rfl hl (by decide) rfl (fun ls hl => ?_)
  refine lv_iload_n hx hb dX2_weight_5 rfl (lv_at hl 3 rfl) ?_
  refine lv_i2l (v := 2) hx hb dX2_weight_6 (by decide) ?_
  refine lv_iload_n hx hb dX2_weight_7 rfl (lv_at hl 0 rfl) ?_
  refine mx_l (wr := []) (va_runS (As := [.long 2, .int 1]) (rest := []) ⟨hx, hb, hml, hown, hts⟩ (c_X2_power1 l dC dI cI cZ cK tS aK aV 2 H.size) (va_cwS 2 hts (gw_s (fun _ h9 => List.mem_cons_of_mem _ h9) wm_260 wm_261 wm_262 wm_263) rfl rfl rfl (by decide +kernel) ⟨Nat.le_of_ble_eq_true rfl, Nat.le_of_ble_eq_true rfl⟩) (mx_preS hKx hP hD hS hA [] (by decide) rfl) rfl rfl hl.1 rfl (lv_room (Nat.le_of_ble_eq_true rfl)) dX2_weight_8 ⟨Nat.le_of_ble_eq_true rfl, Nat.le_of_ble_eq_true rfl⟩) hP hD hS hA [] [] rfl rfl (by decide) (by decide) (fun r2 u2 H locs hq2 hP hD hS => ?_)
  replace hP : va_P (dC, dI) vwCl [] H := hP
  replace hD : va_D A [] := hD
  obtain rfl : r2 = 2 := hq2
  refine lv_bipush (v := 10) hx hb dX2_weight_11 (by decide) ?_
  refine lv_iload_n hx hb dX2_weight_13 rfl (lv_at hl 3 rfl) ?_
  refine lv_isub hx hb dX2_weight_14 ?_
  refine lv_topi (fun x3 e3 => ?_)
  obtain rfl : x3 = 8 := e3.trans (by decide)
  refine lv_i2l (v := 8) hx hb dX2_weight_15 (by decide) ?_
  refine lv_iload_n hx hb dX2_weight_16 rfl (lv_at hl 2 rfl) ?_
  refine lv_iload_n hx hb dX2_weight_17 rfl (lv_at hl 0 rfl) ?_
  refine lv_isub hx hb dX2_weight_18 ?_
  refine lv_topi (fun x4 e4 => ?_)
  obtain rfl : x4 = 0 := e4.trans (by decide)
  refine mx_l (wr := []) (va_runS (As := [.long 8, .int 0]) (rest := [.long 2]) ⟨hx, hb, hml, hown, hts⟩ (c_X2_power0 l dC dI cI cZ cK tS aK aV 8 H.size) (va_cwS 2 hts (gw_s (fun _ h9 => List.mem_cons_of_mem _ h9) wm_260 wm_261 wm_262 wm_263) rfl rfl rfl (by decide +kernel) ⟨Nat.le_of_ble_eq_true rfl, Nat.le_of_ble_eq_true rfl⟩) (mx_preS hKx hP hD hS hA [] (by decide) rfl) rfl rfl hl.1 rfl (lv_room (Nat.le_of_ble_eq_true rfl)) dX2_weight_19 ⟨Nat.le_of_ble_eq_true rfl, Nat.le_of_ble_eq_true rfl⟩) hP hD hS hA [] [] rfl rfl (by decide) (by decide) (fun r5 u5 H locs hq5 hP hD hS => ?_)
  replace hP : va_P (dC, dI) vwCl [] H := hP
  replace hD : va_D A [] := hD
  obtain rfl : r5 = 1 := hq5
  refine lv_lmul hx hb dX2_weight_22 ?_
  refine lv_topl (fun x6 e6 => ?_)
  obtain rfl : x6 = 2 := e6.trans (by decide)
  have hP9 := mx_subP (wc := []) hP [] rfl
  have hD9 := hD.sub (ws' := []) [] (by decide) rfl
  exact W.lret (v := 2) hx hb hr (fun t ht hW => ⟨⟨2, (), rfl, rfl, by rw [ht]; exact hP9, hD9⟩, hS.F ht⟩) hS.2.2 dX2_weight_23
