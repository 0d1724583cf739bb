set_option maxHeartbeats 4000000 in
set_option maxRecDepth 100000 in
theorem c_X0_copyFrom (l : Launch) (dC : Nat → ClassId) (dI : Nat → Nat → Nat) (cI cZ cK : ClassId) (tS aK aV : Nat) (k : Nat) (ks : Nat) (kw : Nat) (kc : Nat) (kq : Nat) (km : Nat) (kd : Nat) (ka : Nat) (kk : Nat) (z : Nat) (zs : Nat) (zw : Nat) (zc : Nat) (zq : Nat) (zm : Nat) (zd : Nat) (za : Nat) (zk : Nat) (sz : Nat) : Cv l yX0_copyFrom (wq yX0_copyFrom cX0_copyFrom 3 none) ({ frames := 1, cells := 0, slots := 0, locals := 60 }) dC dI cI cZ cK tS aK aV [.ref z, .ref k] sz [(z, .inr (0, [.ref zs, .ref zw, .ref zc, .int (-6), .int 0, .int 0, .ref zq, .ref zm, .ref zd, .int 0, .ref za, .ref zk])), (zs, .inl (cI, 5, .inl (upd (fun _ => 0) 0 800))), (zw, .inl (cI, 14, .inl (fun _ => 0))), (zc, .inl (cZ, 14, .inl (fun _ => 0))), (zq, .inl (cI, 6, .inl (fun _ => 0))), (zm, .inl (cI, 6, .inl (fun _ => 0))), (zd, .inl (cI, 6, .inl (fun _ => 0))), (za, .inl (cI, 8, .inl (fun _ => 0))), (zk, .inl (cI, 8, .inl (fun _ => 0))), (k, .inr (0, [.ref ks, .ref kw, .ref kc, .int (-6), .int 0, .int 0, .ref kq, .ref km, .ref kd, .int 0, .ref ka, .ref kk])), (ks, .inl (cI, 5, .inl (upd (fun _ => 0) 0 800))), (kw, .inl (cI, 14, .inl (fun _ => 0))), (kc, .inl (cZ, 14, .inl (fun _ => 0))), (kq, .inl (cI, 6, .inl (fun _ => 0))), (km, .inl (cI, 6, .inl (fun _ => 0))), (kd, .inl (cI, 6, .inl (fun _ => 0))), (ka, .inl (cI, 8, .inl (fun _ => 0))), (kk, .inl (cI, 8, .inl (fun _ => 0)))] (fun (u : Unit) => True) (fun _ => []) := by
  refine Met.ofW (cc := cX0_copyFrom) (maxL := 3) (ret := none) (by decide) rfl ?_
  intro p e s m args below meth c s₁ B hml hv
  obtain ⟨rfl, hsz, hP, hKx, hD0⟩ := hv
  have hx := B.exec
  have hb := B.bytes
  have hr := B.returns
  have hts := atoms_spec (ws := wq yX0_copyFrom cX0_copyFrom 3 none) B.pre
  have hown : s.vm.findClass RX0 = some m.cls := findClass_of_methodNamed B.named
  have hlocks := B.notSynchronized
  subst hsz
  have hD := hD0.self (sz := s.heap.size)
  generalize hAe : va_A [(z, .inr (0, [.ref zs, .ref zw, .ref zc, .int (-6), .int 0, .int 0, .ref zq, .ref zm, .ref zd, .int 0, .ref za, .ref zk])), (zs, .inl (cI, 5, .inl (upd (fun _ => 0) 0 800))), (zw, .inl (cI, 14, .inl (fun _ => 0))), (zc, .inl (cZ, 14, .inl (fun _ => 0))), (zq, .inl (cI, 6, .inl (fun _ => 0))), (zm, .inl (cI, 6, .inl (fun _ => 0))), (zd, .inl (cI, 6, .inl (fun _ => 0))), (za, .inl (cI, 8, .inl (fun _ => 0))), (zk, .inl (cI, 8, .inl (fun _ => 0))), (k, .inr (0, [.ref ks, .ref kw, .ref kc, .int (-6), .int 0, .int 0, .ref kq, .ref km, .ref kd, .int 0, .ref ka, .ref kk])), (ks, .inl (cI, 5, .inl (upd (fun _ => 0) 0 800))), (kw, .inl (cI, 14, .inl (fun _ => 0))), (kc, .inl (cZ, 14, .inl (fun _ => 0))), (kq, .inl (cI, 6, .inl (fun _ => 0))), (km, .inl (cI, 6, .inl (fun _ => 0))), (kd, .inl (cI, 6, .inl (fun _ => 0))), (ka, .inl (cI, 8, .inl (fun _ => 0))), (kk, .inl (cI, 8, .inl (fun _ => 0)))] s.heap.size = A at hD hKx ⊢
  have hA : ∀ q : Nat, s.heap.size ≤ q → A q := fun q h => by rw [← hAe]; exact Or.inr h
  have hS : va_S A s.heap s.heap [] := va_S.rf
  have hP : va_P (dC, dI) vwCl [(z, .inr (0, [.ref zs, .ref zw, .ref zc, .int (-6), .int 0, .int 0, .ref zq, .ref zm, .ref zd, .int 0, .ref za, .ref zk])), (zs, .inl (cI, 5, .inl (upd (fun _ => 0) 0 800))), (zw, .inl (cI, 14, .inl (fun _ => 0))), (zc, .inl (cZ, 14, .inl (fun _ => 0))), (zq, .inl (cI, 6, .inl (fun _ => 0))), (zm, .inl (cI, 6, .inl (fun _ => 0))), (zd, .inl (cI, 6, .inl (fun _ => 0))), (za, .inl (cI, 8, .inl (fun _ => 0))), (zk, .inl (cI, 8, .inl (fun _ => 0))), (k, .inr (0, [.ref ks, .ref kw, .ref kc, .int (-6), .int 0, .int 0, .ref kq, .ref km, .ref kd, .int 0, .ref ka, .ref kk])), (ks, .inl (cI, 5, .inl (upd (fun _ => 0) 0 800))), (kw, .inl (cI, 14, .inl (fun _ => 0))), (kc, .inl (cZ, 14, .inl (fun _ => 0))), (kq, .inl (cI, 6, .inl (fun _ => 0))), (km, .inl (cI, 6, .inl (fun _ => 0))), (kd, .inl (cI, 6, .inl (fun _ => 0))), (ka, .inl (cI, 8, .inl (fun _ => 0))), (kk, .inl (cI, 8, .inl (fun _ => 0)))] s.heap := hP
  have hl := lv_entry ([.ref z, .ref k]) (n := 3) (Nat.le_of_ble_eq_true rfl)
  rw [lg_entry_eq]
  generalize (lg_sl ([.ref z, .ref k]) ++ List.replicate (3 - (lg_sl ([.ref z, .ref k])).length) Slot.unset).toArray = ls at hl ⊢
  have hl : lv_has ls 3 [(0, .ref z), (1, .ref k)] := hl
  have hK := hKx.1
  have hin0 := fun w9 h9 => List.mem_cons_of_mem (Cond.code yX0_copyFrom cX0_copyFrom 3 none) (inlX0 w9 h9)
  have hw0 := hts (.fieldLink RX0 9 "OneCan$Camp" "settings" "[I") (List.mem_cons_of_mem _ wm_5)
  have hw1 := hts (.methodLink RX0 41 arraycopyName) (List.mem_cons_of_mem _ wm_123)
  have hw2 := hts (.native arraycopyName) (List.mem_cons_of_mem _ wm_124)
  have hw3 := hts (.static arraycopyName) (List.mem_cons_of_mem _ wm_125)
  have hw4 := hts (.initialized "java/lang/System") (List.mem_cons_of_mem _ wm_126)
  have hw5 := hts (.fieldLink RX0 15 "OneCan$Camp" "winds" "[I") (List.mem_cons_of_mem _ wm_12)
  have hw6 := hts (.fieldLink RX0 18 "OneCan$Camp" "colds" "[Z") (List.mem_cons_of_mem _ wm_127)
  have hw7 := hts (.fieldLink RX0 22 "OneCan$Camp" "warmDay" "I") (List.mem_cons_of_mem _ wm_128)
  have hw8 := hts (.fieldLink RX0 47 "OneCan$Camp" "bagDays" "I") (List.mem_cons_of_mem _ wm_129)
  have hw9 := hts (.fieldLink RX0 50 "OneCan$Camp" "meals" "I") (List.mem_cons_of_mem _ wm_4)
  have hw10 := hts (.fieldLink RX0 26 "OneCan$Camp" "quarts" "[I") (List.mem_cons_of_mem _ wm_17)
  have hw11 := hts (.fieldLink RX0 29 "OneCan$Camp" "minutes" "[I") (List.mem_cons_of_mem _ wm_22)
  have hw12 := hts (.fieldLink RX0 32 "OneCan$Camp" "degrees" "[I") (List.mem_cons_of_mem _ wm_6)
  have hw13 := hts (.fieldLink RX0 53 "OneCan$Camp" "sights" "I") (List.mem_cons_of_mem _ wm_130)
  have hw14 := hts (.fieldLink RX0 35 "OneCan$Camp" "sightActs" "[I") (List.mem_cons_of_mem _ wm_131)
  have hw15 := hts (.fieldLink RX0 38 "OneCan$Camp" "sightMarks" "[I") (List.mem_cons_of_mem _ wm_132)
  refine lv_aload_n hx hb dX0_copyFrom_0 rfl (lv_at hl 1 rfl) ?_
  refine va_get (D := (dC, dI)) (ci := 0) (v := .ref ks) (C := RX0) (T := TX0) (N := 12) hx hb hts hin0 hown hK hP 9 rfl rfl 0 (by decide) hw0 (fun _ h9 => h9) rfl dX0_copyFrom_1 ?_
  refine lv_iconst (v := 0) hx hb dX0_copyFrom_4 (by decide) ?_
  refine lv_aload_n hx hb dX0_copyFrom_5 rfl (lv_at hl 0 rfl) ?_
  refine va_get (D := (dC, dI)) (ci := 0) (v := .ref zs) (C := RX0) (T := TX0) (N := 12) hx hb hts hin0 hown hK hP 0 rfl rfl 0 (by decide) hw0 (fun _ h9 => h9) rfl dX0_copyFrom_6 ?_
  refine lv_iconst (v := 0) hx hb dX0_copyFrom_9 (by decide) ?_
  refine lv_iconst (v := 5) hx hb dX0_copyFrom_10 (by decide) ?_
  refine va_copyi (ty := .int) hx hb (hml.trans hl.1.symm) hown hw1 hw2 hw3 hw4 hK hP hD hS 10 1 0 0 rfl rfl rfl rfl rfl (by decide) (by decide) (by decide) (by decide) (by decide) (fun _ _ => rfl) (Nat.le_of_ble_eq_true rfl) (Nat.le_of_ble_eq_true rfl) dX0_copyFrom_11 (fun H locs hP hD hS => ?_)
  replace hP : va_P (dC, dI) vwCl [(z, .inr (0, [.ref zs, .ref zw, .ref zc, .int (-6), .int 0, .int 0, .ref zq, .ref zm, .ref zd, .int 0, .ref za, .ref zk])), (zs, .inl (cI, 5, .inl (va_cpy (upd (fun _ => 0) 0 800) (upd (fun _ => 0) 0 800) 0 0 5))), (zw, .inl (cI, 14, .inl (fun _ => 0))), (zc, .inl (cZ, 14, .inl (fun _ => 0))), (zq, .inl (cI, 6, .inl (fun _ => 0))), (zm, .inl (cI, 6, .inl (fun _ => 0))), (zd, .inl (cI, 6, .inl (fun _ => 0))), (za, .inl (cI, 8, .inl (fun _ => 0))), (zk, .inl (cI, 8, .inl (fun _ => 0))), (k, .inr (0, [.ref ks, .ref kw, .ref kc, .int (-6), .int 0, .int 0, .ref kq, .ref km, .ref kd, .int 0, .ref ka, .ref kk])), (ks, .inl (cI, 5, .inl (upd (fun _ => 0) 0 800))), (kw, .inl (cI, 14, .inl (fun _ => 0))), (kc, .inl (cZ, 14, .inl (fun _ => 0))), (kq, .inl (cI, 6, .inl (fun _ => 0))), (km, .inl (cI, 6, .inl (fun _ => 0))), (kd, .inl (cI, 6, .inl (fun _ => 0))), (ka, .inl (cI, 8, .inl (fun _ => 0))), (kk, .inl (cI, 8, .inl (fun _ => 0)))] H := hP
  replace hD : va_D A [(z, .inr (0, [.ref zs, .ref zw, .ref zc, .int (-6), .int 0, .int 0, .ref zq, .ref zm, .ref zd, .int 0, .ref za, .ref zk])), (zs, .inl (cI, 5, .inl (va_cpy (upd (fun _ => 0) 0 800) (upd (fun _ => 0) 0 800) 0 0 5))), (zw, .inl (cI, 14, .inl (fun _ => 0))), (zc, .inl (cZ, 14, .inl (fun _ => 0))), (zq, .inl (cI, 6, .inl (fun _ => 0))), (zm, .inl (cI, 6, .inl (fun _ => 0))), (zd, .inl (cI, 6, .inl (fun _ => 0))), (za, .inl (cI, 8, .inl (fun _ => 0))), (zk, .inl (cI, 8, .inl (fun _ => 0))), (k, .inr (0, [.ref ks, .ref kw, .ref kc, .int (-6), .int 0, .int 0, .ref kq, .ref km, .ref kd, .int 0, .ref ka, .ref kk])), (ks, .inl (cI, 5, .inl (upd (fun _ => 0) 0 800))), (kw, .inl (cI, 14, .inl (fun _ => 0))), (kc, .inl (cZ, 14, .inl (fun _ => 0))), (kq, .inl (cI, 6, .inl (fun _ => 0))), (km, .inl (cI, 6, .inl (fun _ => 0))), (kd, .inl (cI, 6, .inl (fun _ => 0))), (ka, .inl (cI, 8, .inl (fun _ => 0))), (kk, .inl (cI, 8, .inl (fun _ => 0)))] := hD
  refine lv_aload_n hx hb dX0_copyFrom_14 rfl (lv_at hl 1 rfl) ?_
  refine va_get (D := (dC, dI)) (ci := 0) (v := .ref kw) (C := RX0) (T := TX0) (N := 12) hx hb hts hin0 hown hK hP 9 rfl rfl 1 (by decide) hw5 (fun _ h9 => h9) rfl dX0_copyFrom_15 ?_
  refine lv_iconst (v := 0) hx hb dX0_copyFrom_18 (by decide) ?_
  refine lv_aload_n hx hb dX0_copyFrom_19 rfl (lv_at hl 0 rfl) ?_
  refine va_get (D := (dC, dI)) (ci := 0) (v := .ref zw) (C := RX0) (T := TX0) (N := 12) hx hb hts hin0 hown hK hP 0 rfl rfl 1 (by decide) hw5 (fun _ h9 => h9) rfl dX0_copyFrom_20 ?_
  refine lv_iconst (v := 0) hx hb dX0_copyFrom_23 (by decide) ?_
  refine lv_bipush (v := 14) hx hb dX0_copyFrom_24 (by decide) ?_
  refine va_copyi (ty := .int) hx hb (hml.trans hl.1.symm) hown hw1 hw2 hw3 hw4 hK hP hD hS 11 2 0 0 rfl rfl rfl rfl rfl (by decide) (by decide) (by decide) (by decide) (by decide) (fun _ _ => rfl) (Nat.le_of_ble_eq_true rfl) (Nat.le_of_ble_eq_true rfl) dX0_copyFrom_26 (fun H locs hP hD hS => ?_)
  replace hP : va_P (dC, dI) vwCl [(z, .inr (0, [.ref zs, .ref zw, .ref zc, .int (-6), .int 0, .int 0, .ref zq, .ref zm, .ref zd, .int 0, .ref za, .ref zk])), (zs, .inl (cI, 5, .inl (va_cpy (upd (fun _ => 0) 0 800) (upd (fun _ => 0) 0 800) 0 0 5))), (zw, .inl (cI, 14, .inl (va_cpy (fun _ => 0) (fun _ => 0) 0 0 14))), (zc, .inl (cZ, 14, .inl (fun _ => 0))), (zq, .inl (cI, 6, .inl (fun _ => 0))), (zm, .inl (cI, 6, .inl (fun _ => 0))), (zd, .inl (cI, 6, .inl (fun _ => 0))), (za, .inl (cI, 8, .inl (fun _ => 0))), (zk, .inl (cI, 8, .inl (fun _ => 0))), (k, .inr (0, [.ref ks, .ref kw, .ref kc, .int (-6), .int 0, .int 0, .ref kq, .ref km, .ref kd, .int 0, .ref ka, .ref kk])), (ks, .inl (cI, 5, .inl (upd (fun _ => 0) 0 800))), (kw, .inl (cI, 14, .inl (fun _ => 0))), (kc, .inl (cZ, 14, .inl (fun _ => 0))), (kq, .inl (cI, 6, .inl (fun _ => 0))), (km, .inl (cI, 6, .inl (fun _ => 0))), (kd, .inl (cI, 6, .inl (fun _ => 0))), (ka, .inl (cI, 8, .inl (fun _ => 0))), (kk, .inl (cI, 8, .inl (fun _ => 0)))] H := hP
  replace hD : va_D A [(z, .inr (0, [.ref zs, .ref zw, .ref zc, .int (-6), .int 0, .int 0, .ref zq, .ref zm, .ref zd, .int 0, .ref za, .ref zk])), (zs, .inl (cI, 5, .inl (va_cpy (upd (fun _ => 0) 0 800) (upd (fun _ => 0) 0 800) 0 0 5))), (zw, .inl (cI, 14, .inl (va_cpy (fun _ => 0) (fun _ => 0) 0 0 14))), (zc, .inl (cZ, 14, .inl (fun _ => 0))), (zq, .inl (cI, 6, .inl (fun _ => 0))), (zm, .inl (cI, 6, .inl (fun _ => 0))), (zd, .inl (cI, 6, .inl (fun _ => 0))), (za, .inl (cI, 8, .inl (fun _ => 0))), (zk, .inl (cI, 8, .inl (fun _ => 0))), (k, .inr (0, [.ref ks, .ref kw, .ref kc, .int (-6), .int 0, .int 0, .ref kq, .ref km, .ref kd, .int 0, .ref ka, .ref kk])), (ks, .inl (cI, 5, .inl (upd (fun _ => 0) 0 800))), (kw, .inl (cI, 14, .inl (fun _ => 0))), (kc, .inl (cZ, 14, .inl (fun _ => 0))), (kq, .inl (cI, 6, .inl (fun _ => 0))), (km, .inl (cI, 6, .inl (fun _ => 0))), (kd, .inl (cI, 6, .inl (fun _ => 0))), (ka, .inl (cI, 8, .inl (fun _ => 0))), (kk, .inl (cI, 8, .inl (fun _ => 0)))] := hD
  refine lv_iconst (v := 0) hx hb dX0_copyFrom_29 (by decide) ?_
  refine lv_istore_n (lv' := [(2, .int 0), (0, .ref z), (1, .ref k)]) hx hb dX0_copyFrom_30 rfl hl (by decide) rfl (fun ls hl => ?_)
  refine lv_iload_n hx hb dX0_copyFrom_31 rfl (lv_at hl 0 rfl) ?_
  refine lv_bipush (v := 14) hx hb dX0_copyFrom_32 (by decide) ?_
  refine lv_icmp_ge (tgt := 55) hx hb dX0_copyFrom_34 (by decide) (fun c1 => absurd c1 (by decide)) (fun c1 => ?_)
  refine lv_aload_n hx hb dX0_copyFrom_37 rfl (lv_at hl 1 rfl) ?_
  refine va_get (D := (dC, dI)) (ci := 0) (v := .ref zc) (C := RX0) (T := TX0) (N := 12) hx hb hts hin0 hown hK hP 0 rfl rfl 2 (by decide) hw6 (fun _ h9 => h9) rfl dX0_copyFrom_38 ?_
  refine lv_iload_n hx hb dX0_copyFrom_41 rfl (lv_at hl 0 rfl) ?_
  refine lv_aload_n hx hb dX0_copyFrom_42 rfl (lv_at hl 2 rfl) ?_
  refine va_get (D := (dC, dI)) (ci := 0) (v := .ref kc) (C := RX0) (T := TX0) (N := 12) hx hb hts hin0 hown hK hP 9 rfl rfl 2 (by decide) hw6 (fun _ h9 => h9) rfl dX0_copyFrom_43 ?_
  refine lv_iload_n hx hb dX0_copyFrom_46 rfl (lv_at hl 0 rfl) ?_
  refine va_zald hx hb hK hP 12 1 rfl rfl (vin (by decide) (by decide)) dX0_copyFrom_47 ?_
  refine lv_topi (fun x2 e2 => ?_)
  obtain rfl : x2 = 0 := e2.trans (by first | rfl | decide)
  refine va_zast hx hb hK hP hD hS 3 1 rfl rfl (vin (by decide) (by decide)) dX0_copyFrom_48 (fun H locs hP hD hS => ?_)
  replace hP : va_P (dC, dI) vwCl [(z, .inr (0, [.ref zs, .ref zw, .ref zc, .int (-6), .int 0, .int 0, .ref zq, .ref zm, .ref zd, .int 0, .ref za, .ref zk])), (zs, .inl (cI, 5, .inl (va_cpy (upd (fun _ => 0) 0 800) (upd (fun _ => 0) 0 800) 0 0 5))), (zw, .inl (cI, 14, .inl (va_cpy (fun _ => 0) (fun _ => 0) 0 0 14))), (zc, .inl (cZ, 14, .inl (upd (fun _ => 0) 0 0))), (zq, .inl (cI, 6, .inl (fun _ => 0))), (zm, .inl (cI, 6, .inl (fun _ => 0))), (zd, .inl (cI, 6, .inl (fun _ => 0))), (za, .inl (cI, 8, .inl (fun _ => 0))), (zk, .inl (cI, 8, .inl (fun _ => 0))), (k, .inr (0, [.ref ks, .ref kw, .ref kc, .int (-6), .int 0, .int 0, .ref kq, .ref km, .ref kd, .int 0, .ref ka, .ref kk])), (ks, .inl (cI, 5, .inl (upd (fun _ => 0) 0 800))), (kw, .inl (cI, 14, .inl (fun _ => 0))), (kc, .inl (cZ, 14, .inl (fun _ => 0))), (kq, .inl (cI, 6, .inl (fun _ => 0))), (km, .inl (cI, 6, .inl (fun _ => 0))), (kd, .inl (cI, 6, .inl (fun _ => 0))), (ka, .inl (cI, 8, .inl (fun _ => 0))), (kk, .inl (cI, 8, .inl (fun _ => 0)))] H := hP
  replace hD : va_D A [(z, .inr (0, [.ref zs, .ref zw, .ref zc, .int (-6), .int 0, .int 0, .ref zq, .ref zm, .ref zd, .int 0, .ref za, .ref zk])), (zs, .inl (cI, 5, .inl (va_cpy (upd (fun _ => 0) 0 800) (upd (fun _ => 0) 0 800) 0 0 5))), (zw, .inl (cI, 14, .inl (va_cpy (fun _ => 0) (fun _ => 0) 0 0 14))), (zc, .inl (cZ, 14, .inl (upd (fun _ => 0) 0 0))), (zq, .inl (cI, 6, .inl (fun _ => 0))), (zm, .inl (cI, 6, .inl (fun _ => 0))), (zd, .inl (cI, 6, .inl (fun _ => 0))), (za, .inl (cI, 8, .inl (fun _ => 0))), (zk, .inl (cI, 8, .inl (fun _ => 0))), (k, .inr (0, [.ref ks, .ref kw, .ref kc, .int (-6), .int 0, .int 0, .ref kq, .ref km, .ref kd, .int 0, .ref ka, .ref kk])), (ks, .inl (cI, 5, .inl (upd (fun _ => 0) 0 800))), (kw, .inl (cI, 14, .inl (fun _ => 0))), (kc, .inl (cZ, 14, .inl (fun _ => 0))), (kq, .inl (cI, 6, .inl (fun _ => 0))), (km, .inl (cI, 6, .inl (fun _ => 0))), (kd, .inl (cI, 6, .inl (fun _ => 0))), (ka, .inl (cI, 8, .inl (fun _ => 0))), (kk, .inl (cI, 8, .inl (fun _ => 0)))] := hD
  refine lv_iinc (v := 1) (lv' := [(2, .int 1), (0, .ref z), (1, .ref k)]) hx hb dX0_copyFrom_49 hl (k := 0) rfl (by decide) (by decide) rfl (fun ls hl => ?_)
  refine lv_goto (tgt := 31) hx hb dX0_copyFrom_52 (by decide) ?_
  refine lv_iload_n hx hb dX0_copyFrom_31 rfl (lv_at hl 0 rfl) ?_
  refine lv_bipush (v := 14) hx hb dX0_copyFrom_32 (by decide) ?_
  refine lv_icmp_ge (tgt := 55) hx hb dX0_copyFrom_34 (by decide) (fun c3 => absurd c3 (by decide)) (fun c3 => ?_)
  refine lv_aload_n hx hb dX0_copyFrom_37 rfl (lv_at hl 1 rfl) ?_
  refine va_get (D := (dC, dI)) (ci := 0) (v := .ref zc) (C := RX0) (T := TX0) (N := 12) hx hb hts hin0 hown hK hP 0 rfl rfl 2 (by decide) hw6 (fun _ h9 => h9) rfl dX0_copyFrom_38 ?_
  refine lv_iload_n hx hb dX0_copyFrom_41 rfl (lv_at hl 0 rfl) ?_
  refine lv_aload_n hx hb dX0_copyFrom_42 rfl (lv_at hl 2 rfl) ?_
  refine va_get (D := (dC, dI)) (ci := 0) (v := .ref kc) (C := RX0) (T := TX0) (N := 12) hx hb hts hin0 hown hK hP 9 rfl rfl 2 (by decide) hw6 (fun _ h9 => h9) rfl dX0_copyFrom_43 ?_
  refine lv_iload_n hx hb dX0_copyFrom_46 rfl (lv_at hl 0 rfl) ?_
  refine va_zald hx hb hK hP 12 1 rfl rfl (vin (by decide) (by decide)) dX0_copyFrom_47 ?_
  refine lv_topi (fun x4 e4 => ?_)
  obtain rfl : x4 = 0 := e4.trans (by first | rfl | decide)
  refine va_zast hx hb hK hP hD hS 3 1 rfl rfl (vin (by decide) (by decide)) dX0_copyFrom_48 (fun H locs hP hD hS => ?_)
  replace hP : va_P (dC, dI) vwCl [(z, .inr (0, [.ref zs, .ref zw, .ref zc, .int (-6), .int 0, .int 0, .ref zq, .ref zm, .ref zd, .int 0, .ref za, .ref zk])), (zs, .inl (cI, 5, .inl (va_cpy (upd (fun _ => 0) 0 800) (upd (fun _ => 0) 0 800) 0 0 5))), (zw, .inl (cI, 14, .inl (va_cpy (fun _ => 0) (fun _ => 0) 0 0 14))), (zc, .inl (cZ, 14, .inl (upd (upd (fun _ => 0) 0 0) 1 0))), (zq, .inl (cI, 6, .inl (fun _ => 0))), (zm, .inl (cI, 6, .inl (fun _ => 0))), (zd, .inl (cI, 6, .inl (fun _ => 0))), (za, .inl (cI, 8, .inl (fun _ => 0))), (zk, .inl (cI, 8, .inl (fun _ => 0))), (k, .inr (0, [.ref ks, .ref kw, .ref kc, .int (-6), .int 0, .int 0, .ref kq, .ref km, .ref kd, .int 0, .ref ka, .ref kk])), (ks, .inl (cI, 5, .inl (upd (fun _ => 0) 0 800))), (kw, .inl (cI, 14, .inl (fun _ => 0))), (kc, .inl (cZ, 14, .inl (fun _ => 0))), (kq, .inl (cI, 6, .inl (fun _ => 0))), (km, .inl (cI, 6, .inl (fun _ => 0))), (kd, .inl (cI, 6, .inl (fun _ => 0))), (ka, .inl (cI, 8, .inl (fun _ => 0))), (kk, .inl (cI, 8, .inl (fun _ => 0)))] H := hP
  replace hD : va_D A [(z, .inr (0, [.ref zs, .ref zw, .ref zc, .int (-6), .int 0, .int 0, .ref zq, .ref zm, .ref zd, .int 0, .ref za, .ref zk])), (zs, .inl (cI, 5, .inl (va_cpy (upd (fun _ => 0) 0 800) (upd (fun _ => 0) 0 800) 0 0 5))), (zw, .inl (cI, 14, .inl (va_cpy (fun _ => 0) (fun _ => 0) 0 0 14))), (zc, .inl (cZ, 14, .inl (upd (upd (fun _ => 0) 0 0) 1 0))), (zq, .inl (cI, 6, .inl (fun _ => 0))), (zm, .inl (cI, 6, .inl (fun _ => 0))), (zd, .inl (cI, 6, .inl (fun _ => 0))), (za, .inl (cI, 8, .inl (fun _ => 0))), (zk, .inl (cI, 8, .inl (fun _ => 0))), (k, .inr (0, [.ref ks, .ref kw, .ref kc, .int (-6), .int 0, .int 0, .ref kq, .ref km, .ref kd, .int 0, .ref ka, .ref kk])), (ks, .inl (cI, 5, .inl (upd (fun _ => 0) 0 800))), (kw, .inl (cI, 14, .inl (fun _ => 0))), (kc, .inl (cZ, 14, .inl (fun _ => 0))), (kq, .inl (cI, 6, .inl (fun _ => 0))), (km, .inl (cI, 6, .inl (fun _ => 0))), (kd, .inl (cI, 6, .inl (fun _ => 0))), (ka, .inl (cI, 8, .inl (fun _ => 0))), (kk, .inl (cI, 8, .inl (fun _ => 0)))] := hD
  refine lv_iinc (v := 2) (lv' := [(2, .int 2), (0, .ref z), (1, .ref k)]) hx hb dX0_copyFrom_49 hl (k := 0) rfl (by decide) (by decide) rfl (fun ls hl => ?_)
  refine lv_goto (tgt := 31) hx hb dX0_copyFrom_52 (by decide) ?_
  refine lv_iload_n hx hb dX0_copyFrom_31 rfl (lv_at hl 0 rfl) ?_
  refine lv_bipush (v := 14) hx hb dX0_copyFrom_32 (by decide) ?_
  refine lv_icmp_ge (tgt := 55) hx hb dX0_copyFrom_34 (by decide) (fun c5 => absurd c5 (by decide)) (fun c5 => ?_)
  refine lv_aload_n hx hb dX0_copyFrom_37 rfl (lv_at hl 1 rfl) ?_
  refine va_get (D := (dC, dI)) (ci := 0) (v := .ref zc) (C := RX0) (T := TX0) (N := 12) hx hb hts hin0 hown hK hP 0 rfl rfl 2 (by decide) hw6 (fun _ h9 => h9) rfl dX0_copyFrom_38 ?_
  refine lv_iload_n hx hb dX0_copyFrom_41 rfl (lv_at hl 0 rfl) ?_
  refine lv_aload_n hx hb dX0_copyFrom_42 rfl (lv_at hl 2 rfl) ?_
  refine va_get (D := (dC, dI)) (ci := 0) (v := .ref kc) (C := RX0) (T := TX0) (N := 12) hx hb hts hin0 hown hK hP 9 rfl rfl 2 (by decide) hw6 (fun _ h9 => h9) rfl dX0_copyFrom_43 ?_
  refine lv_iload_n hx hb dX0_copyFrom_46 rfl (lv_at hl 0 rfl) ?_
  refine va_zald hx hb hK hP 12 1 rfl rfl (vin (by decide) (by decide)) dX0_copyFrom_47 ?_
  refine lv_topi (fun x6 e6 => ?_)
  obtain rfl : x6 = 0 := e6.trans (by first | rfl | decide)
  refine va_zast hx hb hK hP hD hS 3 1 rfl rfl (vin (by decide) (by decide)) dX0_copyFrom_48 (fun H locs hP hD hS => ?_)
  replace hP : va_P (dC, dI) vwCl [(z, .inr (0, [.ref zs, .ref zw, .ref zc, .int (-6), .int 0, .int 0, .ref zq, .ref zm, .ref zd, .int 0, .ref za, .ref zk])), (zs, .inl (cI, 5, .inl (va_cpy (upd (fun _ => 0) 0 800) (upd (fun _ => 0) 0 800) 0 0 5))), (zw, .inl (cI, 14, .inl (va_cpy (fun _ => 0) (fun _ => 0) 0 0 14))), (zc, .inl (cZ, 14, .inl (upd (upd (upd (fun _ => 0) 0 0) 1 0) 2 0))), (zq, .inl (cI, 6, .inl (fun _ => 0))), (zm, .inl (cI, 6, .inl (fun _ => 0))), (zd, .inl (cI, 6, .inl (fun _ => 0))), (za, .inl (cI, 8, .inl (fun _ => 0))), (zk, .inl (cI, 8, .inl (fun _ => 0))), (k, .inr (0, [.ref ks, .ref kw, .ref kc, .int (-6), .int 0, .int 0, .ref kq, .ref km, .ref kd, .int 0, .ref ka, .ref kk])), (ks, .inl (cI, 5, .inl (upd (fun _ => 0) 0 800))), (kw, .inl (cI, 14, .inl (fun _ => 0))), (kc, .inl (cZ, 14, .inl (fun _ => 0))), (kq, .inl (cI, 6, .inl (fun _ => 0))), (km, .inl (cI, 6, .inl (fun _ => 0))), (kd, .inl (cI, 6, .inl (fun _ => 0))), (ka, .inl (cI, 8, .inl (fun _ => 0))), (kk, .inl (cI, 8, .inl (fun _ => 0)))] H := hP
  replace hD : va_D A [(z, .inr (0, [.ref zs, .ref zw, .ref zc, .int (-6), .int 0, .int 0, .ref zq, .ref zm, .ref zd, .int 0, .ref za, .ref zk])), (zs, .inl (cI, 5, .inl (va_cpy (upd (fun _ => 0) 0 800) (upd (fun _ => 0) 0 800) 0 0 5))), (zw, .inl (cI, 14, .inl (va_cpy (fun _ => 0) (fun _ => 0) 0 0 14))), (zc, .inl (cZ, 14, .inl (upd (upd (upd (fun _ => 0) 0 0) 1 0) 2 0))), (zq, .inl (cI, 6, .inl (fun _ => 0))), (zm, .inl (cI, 6, .inl (fun _ => 0))), (zd, .inl (cI, 6, .inl (fun _ => 0))), (za, .inl (cI, 8, .inl (fun _ => 0))), (zk, .inl (cI, 8, .inl (fun _ => 0))), (k, .inr (0, [.ref ks, .ref kw, .ref kc, .int (-6), .int 0, .int 0, .ref kq, .ref km, .ref kd, .int 0, .ref ka, .ref kk])), (ks, .inl (cI, 5, .inl (upd (fun _ => 0) 0 800))), (kw, .inl (cI, 14, .inl (fun _ => 0))), (kc, .inl (cZ, 14, .inl (fun _ => 0))), (kq, .inl (cI, 6, .inl (fun _ => 0))), (km, .inl (cI, 6, .inl (fun _ => 0))), (kd, .inl (cI, 6, .inl (fun _ => 0))), (ka, .inl (cI, 8, .inl (fun _ => 0))), (kk, .inl (cI, 8, .inl (fun _ => 0)))] := hD
  refine lv_iinc (v := 3) (lv' := [(2, .int 3), (0, .ref z), (1, .ref k)]) hx hb dX0_copyFrom_49 hl (k := 0) rfl (by decide) (by decide) rfl (fun ls hl => ?_)
  refine lv_goto (tgt := 31) hx hb dX0_copyFrom_52 (by decide) ?_
  refine lv_iload_n hx hb dX0_copyFrom_31 rfl (lv_at hl 0 rfl) ?_
  refine lv_bipush (v := 14) hx hb dX0_copyFrom_32 (by decide) ?_
  refine lv_icmp_ge (tgt := 55) hx hb dX0_copyFrom_34 (by decide) (fun c7 => absurd c7 (by decide)) (fun c7 => ?_)
  refine lv_aload_n hx hb dX0_copyFrom_37 rfl (lv_at hl 1 rfl) ?_
  refine va_get (D := (dC, dI)) (ci := 0) (v := .ref zc) (C := RX0) (T := TX0) (N := 12) hx hb hts hin0 hown hK hP 0 rfl rfl 2 (by decide) hw6 (fun _ h9 => h9) rfl dX0_copyFrom_38 ?_
  refine lv_iload_n hx hb dX0_copyFrom_41 rfl (lv_at hl 0 rfl) ?_
  refine lv_aload_n hx hb dX0_copyFrom_42 rfl (lv_at hl 2 rfl) ?_
  refine va_get (D := (dC, dI)) (ci := 0) (v := .ref kc) (C := RX0) (T := TX0) (N := 12) hx hb hts hin0 hown hK hP 9 rfl rfl 2 (by decide) hw6 (fun _ h9 => h9) rfl dX0_copyFrom_43 ?_
  refine lv_iload_n hx hb dX0_copyFrom_46 rfl (lv_at hl 0 rfl) ?_
  refine va_zald hx hb hK hP 12 1 rfl rfl (vin (by decide) (by decide)) dX0_copyFrom_47 ?_
  refine lv_topi (fun x8 e8 => ?_)
  obtain rfl : x8 = 0 := e8.trans (by first | rfl | decide)
  refine va_zast hx hb hK hP hD hS 3 1 rfl rfl (vin (by decide) (by decide)) dX0_copyFrom_48 (fun H locs hP hD hS => ?_)
  replace hP : va_P (dC, dI) vwCl [(z, .inr (0, [.ref zs, .ref zw, .ref zc, .int (-6), .int 0, .int 0, .ref zq, .ref zm, .ref zd, .int 0, .ref za, .ref zk])), (zs, .inl (cI, 5, .inl (va_cpy (upd (fun _ => 0) 0 800) (upd (fun _ => 0) 0 800) 0 0 5))), (zw, .inl (cI, 14, .inl (va_cpy (fun _ => 0) (fun _ => 0) 0 0 14))), (zc, .inl (cZ, 14, .inl (upd (upd (upd (upd (fun _ => 0) 0 0) 1 0) 2 0) 3 0))), (zq, .inl (cI, 6, .inl (fun _ => 0))), (zm, .inl (cI, 6, .inl (fun _ => 0))), (zd, .inl (cI, 6, .inl (fun _ => 0))), (za, .inl (cI, 8, .inl (fun _ => 0))), (zk, .inl (cI, 8, .inl (fun _ => 0))), (k, .inr (0, [.ref ks, .ref kw, .ref kc, .int (-6), .int 0, .int 0, .ref kq, .ref km, .ref kd, .int 0, .ref ka, .ref kk])), (ks, .inl (cI, 5, .inl (upd (fun _ => 0) 0 800))), (kw, .inl (cI, 14, .inl (fun _ => 0))), (kc, .inl (cZ, 14, .inl (fun _ => 0))), (kq, .inl (cI, 6, .inl (fun _ => 0))), (km, .inl (cI, 6, .inl (fun _ => 0))), (kd, .inl (cI, 6, .inl (fun _ => 0))), (ka, .inl (cI, 8, .inl (fun _ => 0))), (kk, .inl (cI, 8, .inl (fun _ => 0)))] H := hP
  replace hD : va_D A [(z, .inr (0, [.ref zs, .ref zw, .ref zc, .int (-6), .int 0, .int 0, .ref zq, .ref zm, .ref zd, .int 0, .ref za, .ref zk])), (zs, .inl (cI, 5, .inl (va_cpy (upd (fun _ => 0) 0 800) (upd (fun _ => 0) 0 800) 0 0 5))), (zw, .inl (cI, 14, .inl (va_cpy (fun _ => 0) (fun _ => 0) 0 0 14))), (zc, .inl (cZ, 14, .inl (upd (upd (upd (upd (fun _ => 0) 0 0) 1 0) 2 0) 3 0))), (zq, .inl (cI, 6, .inl (fun _ => 0))), (zm, .inl (cI, 6, .inl (fun _ => 0))), (zd, .inl (cI, 6, .inl (fun _ => 0))), (za, .inl (cI, 8, .inl (fun _ => 0))), (zk, .inl (cI, 8, .inl (fun _ => 0))), (k, .inr (0, [.ref ks, .ref kw, .ref kc, .int (-6), .int 0, .int 0, .ref kq, .ref km, .ref kd, .int 0, .ref ka, .ref kk])), (ks, .inl (cI, 5, .inl (upd (fun _ => 0) 0 800))), (kw, .inl (cI, 14, .inl (fun _ => 0))), (kc, .inl (cZ, 14, .inl (fun _ => 0))), (kq, .inl (cI, 6, .inl (fun _ => 0))), (km, .inl (cI, 6, .inl (fun _ => 0))), (kd, .inl (cI, 6, .inl (fun _ => 0))), (ka, .inl (cI, 8, .inl (fun _ => 0))), (kk, .inl (cI, 8, .inl (fun _ => 0)))] := hD
  refine lv_iinc (v := 4) (lv' := [(2, .int 4), (0, .ref z), (1, .ref k)]) hx hb dX0_copyFrom_49 hl (k := 0) rfl (by decide) (by decide) rfl (fun ls hl => ?_)
  refine lv_goto (tgt := 31) hx hb dX0_copyFrom_52 (by decide) ?_
  refine lv_iload_n hx hb dX0_copyFrom_31 rfl (lv_at hl 0 rfl) ?_
  refine lv_bipush (v := 14) hx hb dX0_copyFrom_32 (by decide) ?_
  refine lv_icmp_ge (tgt := 55) hx hb dX0_copyFrom_34 (by decide) (fun c9 => absurd c9 (by decide)) (fun c9 => ?_)
  refine lv_aload_n hx hb dX0_copyFrom_37 rfl (lv_at hl 1 rfl) ?_
  refine va_get (D := (dC, dI)) (ci := 0) (v := .ref zc) (C := RX0) (T := TX0) (N := 12) hx hb hts hin0 hown hK hP 0 rfl rfl 2 (by decide) hw6 (fun _ h9 => h9) rfl dX0_copyFrom_38 ?_
  refine lv_iload_n hx hb dX0_copyFrom_41 rfl (lv_at hl 0 rfl) ?_
  refine lv_aload_n hx hb dX0_copyFrom_42 rfl (lv_at hl 2 rfl) ?_
  refine va_get (D := (dC, dI)) (ci := 0) (v := .ref kc) (C := RX0) (T := TX0) (N := 12) hx hb hts hin0 hown hK hP 9 rfl rfl 2 (by decide) hw6 (fun _ h9 => h9) rfl dX0_copyFrom_43 ?_
  refine lv_iload_n hx hb dX0_copyFrom_46 rfl (lv_at hl 0 rfl) ?_
  refine va_zald hx hb hK hP 12 1 rfl rfl (vin (by decide) (by decide)) dX0_copyFrom_47 ?_
  refine lv_topi (fun x10 e10 => ?_)
  obtain rfl : x10 = 0 := e10.trans (by first | rfl | decide)
  refine va_zast hx hb hK hP hD hS 3 1 rfl rfl (vin (by decide) (by decide)) dX0_copyFrom_48 (fun H locs hP hD hS => ?_)
  replace hP : va_P (dC, dI) vwCl [(z, .inr (0, [.ref zs, .ref zw, .ref zc, .int (-6), .int 0, .int 0, .ref zq, .ref zm, .ref zd, .int 0, .ref za, .ref zk])), (zs, .inl (cI, 5, .inl (va_cpy (upd (fun _ => 0) 0 800) (upd (fun _ => 0) 0 800) 0 0 5))), (zw, .inl (cI, 14, .inl (va_cpy (fun _ => 0) (fun _ => 0) 0 0 14))), (zc, .inl (cZ, 14, .inl (upd (upd (upd (upd (upd (fun _ => 0) 0 0) 1 0) 2 0) 3 0) 4 0))), (zq, .inl (cI, 6, .inl (fun _ => 0))), (zm, .inl (cI, 6, .inl (fun _ => 0))), (zd, .inl (cI, 6, .inl (fun _ => 0))), (za, .inl (cI, 8, .inl (fun _ => 0))), (zk, .inl (cI, 8, .inl (fun _ => 0))), (k, .inr (0, [.ref ks, .ref kw, .ref kc, .int (-6), .int 0, .int 0, .ref kq, .ref km, .ref kd, .int 0, .ref ka, .ref kk])), (ks, .inl (cI, 5, .inl (upd (fun _ => 0) 0 800))), (kw, .inl (cI, 14, .inl (fun _ => 0))), (kc, .inl (cZ, 14, .inl (fun _ => 0))), (kq, .inl (cI, 6, .inl (fun _ => 0))), (km, .inl (cI, 6, .inl (fun _ => 0))), (kd, .inl (cI, 6, .inl (fun _ => 0))), (ka, .inl (cI, 8, .inl (fun _ => 0))), (kk, .inl (cI, 8, .inl (fun _ => 0)))] H := hP
  replace hD : va_D A [(z, .inr (0, [.ref zs, .ref zw, .ref zc, .int (-6), .int 0, .int 0, .ref zq, .ref zm, .ref zd, .int 0, .ref za, .ref zk])), (zs, .inl (cI, 5, .inl (va_cpy (upd (fun _ => 0) 0 800) (upd (fun _ => 0) 0 800) 0 0 5))), (zw, .inl (cI, 14, .inl (va_cpy (fun _ => 0) (fun _ => 0) 0 0 14))), (zc, .inl (cZ, 14, .inl (upd (upd (upd (upd (upd (fun _ => 0) 0 0) 1 0) 2 0) 3 0) 4 0))), (zq, .inl (cI, 6, .inl (fun _ => 0))), (zm, .inl (cI, 6, .inl (fun _ => 0))), (zd, .inl (cI, 6, .inl (fun _ => 0))), (za, .inl (cI, 8, .inl (fun _ => 0))), (zk, .inl (cI, 8, .inl (fun _ => 0))), (k, .inr (0, [.ref ks, .ref kw, .ref kc, .int (-6), .int 0, .int 0, .ref kq, .ref km, .ref kd, .int 0, .ref ka, .ref kk])), (ks, .inl (cI, 5, .inl (upd (fun _ => 0) 0 800))), (kw, .inl (cI, 14, .inl (fun _ => 0))), (kc, .inl (cZ, 14, .inl (fun _ => 0))), (kq, .inl (cI, 6, .inl (fun _ => 0))), (km, .inl (cI, 6, .inl (fun _ => 0))), (kd, .inl (cI, 6, .inl (fun _ => 0))), (ka, .inl (cI, 8, .inl (fun _ => 0))), (kk, .inl (cI, 8, .inl (fun _ => 0)))] := hD
  refine lv_iinc (v := 5) (lv' := [(2, .int 5), (0, .ref z), (1, .ref k)]) hx hb dX0_copyFrom_49 hl (k := 0) rfl (by decide) (by decide) rfl (fun ls hl => ?_)
  refine lv_goto (tgt := 31) hx hb dX0_copyFrom_52 (by decide) ?_
  refine lv_iload_n hx hb dX0_copyFrom_31 rfl (lv_at hl 0 rfl) ?_
  refine lv_bipush (v := 14) hx hb dX0_copyFrom_32 (by decide) ?_
  refine lv_icmp_ge (tgt := 55) hx hb dX0_copyFrom_34 (by decide) (fun c11 => absurd c11 (by decide)) (fun c11 => ?_)
  refine lv_aload_n hx hb dX0_copyFrom_37 rfl (lv_at hl 1 rfl) ?_
  refine va_get (D := (dC, dI)) (ci := 0) (v := .ref zc) (C := RX0) (T := TX0) (N := 12) hx hb hts hin0 hown hK hP 0 rfl rfl 2 (by decide) hw6 (fun _ h9 => h9) rfl dX0_copyFrom_38 ?_
  refine lv_iload_n hx hb dX0_copyFrom_41 rfl (lv_at hl 0 rfl) ?_
  refine lv_aload_n hx hb dX0_copyFrom_42 rfl (lv_at hl 2 rfl) ?_
  refine va_get (D := (dC, dI)) (ci := 0) (v := .ref kc) (C := RX0) (T := TX0) (N := 12) hx hb hts hin0 hown hK hP 9 rfl rfl 2 (by decide) hw6 (fun _ h9 => h9) rfl dX0_copyFrom_43 ?_
  refine lv_iload_n hx hb dX0_copyFrom_46 rfl (lv_at hl 0 rfl) ?_
  refine va_zald hx hb hK hP 12 1 rfl rfl (vin (by decide) (by decide)) dX0_copyFrom_47 ?_
  refine lv_topi (fun x12 e12 => ?_)
  obtain rfl : x12 = 0 := e12.trans (by first | rfl | decide)
  refine va_zast hx hb hK hP hD hS 3 1 rfl rfl (vin (by decide) (by decide)) dX0_copyFrom_48 (fun H locs hP hD hS => ?_)
  replace hP : va_P (dC, dI) vwCl [(z, .inr (0, [.ref zs, .ref zw, .ref zc, .int (-6), .int 0, .int 0, .ref zq, .ref zm, .ref zd, .int 0, .ref za, .ref zk])), (zs, .inl (cI, 5, .inl (va_cpy (upd (fun _ => 0) 0 800) (upd (fun _ => 0) 0 800) 0 0 5))), (zw, .inl (cI, 14, .inl (va_cpy (fun _ => 0) (fun _ => 0) 0 0 14))), (zc, .inl (cZ, 14, .inl (upd (upd (upd (upd (upd (upd (fun _ => 0) 0 0) 1 0) 2 0) 3 0) 4 0) 5 0))), (zq, .inl (cI, 6, .inl (fun _ => 0))), (zm, .inl (cI, 6, .inl (fun _ => 0))), (zd, .inl (cI, 6, .inl (fun _ => 0))), (za, .inl (cI, 8, .inl (fun _ => 0))), (zk, .inl (cI, 8, .inl (fun _ => 0))), (k, .inr (0, [.ref ks, .ref kw, .ref kc, .int (-6), .int 0, .int 0, .ref kq, .ref km, .ref kd, .int 0, .ref ka, .ref kk])), (ks, .inl (cI, 5, .inl (upd (fun _ => 0) 0 800))), (kw, .inl (cI, 14, .inl (fun _ => 0))), (kc, .inl (cZ, 14, .inl (fun _ => 0))), (kq, .inl (cI, 6, .inl (fun _ => 0))), (km, .inl (cI, 6, .inl (fun _ => 0))), (kd, .inl (cI, 6, .inl (fun _ => 0))), (ka, .inl (cI, 8, .inl (fun _ => 0))), (kk, .inl (cI, 8, .inl (fun _ => 0)))] H := hP
  replace hD : va_D A [(z, .inr (0, [.ref zs, .ref zw, .ref zc, .int (-6), .int 0, .int 0, .ref zq, .ref zm, .ref zd, .int 0, .ref za, .ref zk])), (zs, .inl (cI, 5, .inl (va_cpy (upd (fun _ => 0) 0 800) (upd (fun _ => 0) 0 800) 0 0 5))), (zw, .inl (cI, 14, .inl (va_cpy (fun _ => 0) (fun _ => 0) 0 0 14))), (zc, .inl (cZ, 14, .inl (upd (upd (upd (upd (upd (upd (fun _ => 0) 0 0) 1 0) 2 0) 3 0) 4 0) 5 0))), (zq, .inl (cI, 6, .inl (fun _ => 0))), (zm, .inl (cI, 6, .inl (fun _ => 0))), (zd, .inl (cI, 6, .inl (fun _ => 0))), (za, .inl (cI, 8, .inl (fun _ => 0))), (zk, .inl (cI, 8, .inl (fun _ => 0))), (k, .inr (0, [.ref ks, .ref kw, .ref kc, .int (-6), .int 0, .int 0, .ref kq, .ref km, .ref kd, .int 0, .ref ka, .ref kk])), (ks, .inl (cI, 5, .inl (upd (fun _ => 0) 0 800))), (kw, .inl (cI, 14, .inl (fun _ => 0))), (kc, .inl (cZ, 14, .inl (fun _ => 0))), (kq, .inl (cI, 6, .inl (fun _ => 0))), (km, .inl (cI, 6, .inl (fun _ => 0))), (kd, .inl (cI, 6, .inl (fun _ => 0))), (ka, .inl (cI, 8, .inl (fun _ => 0))), (kk, .inl (cI, 8, .inl (fun _ => 0)))] := hD
  refine lv_iinc (v := 6) (lv' := [(2, .int 6), (0, .ref z), (1, .ref k)]) hx hb dX0_copyFrom_49 hl (k := 0) rfl (by decide) (by decide) rfl (fun ls hl => ?_)
  refine lv_goto (tgt := 31) hx hb dX0_copyFrom_52 (by decide) ?_
  refine lv_iload_n hx hb dX0_copyFrom_31 rfl (lv_at hl 0 rfl) ?_
  refine lv_bipush (v := 14) hx hb dX0_copyFrom_32 (by decide) ?_
  refine lv_icmp_ge (tgt := 55) hx hb dX0_copyFrom_34 (by decide) (fun c13 => absurd c13 (by decide)) (fun c13 => ?_)
  refine lv_aload_n hx hb dX0_copyFrom_37 rfl (lv_at hl 1 rfl) ?_
  refine va_get (D := (dC, dI)) (ci := 0) (v := .ref zc) (C := RX0) (T := TX0) (N := 12) hx hb hts hin0 hown hK hP 0 rfl rfl 2 (by decide) hw6 (fun _ h9 => h9) rfl dX0_copyFrom_38 ?_
  refine lv_iload_n hx hb dX0_copyFrom_41 rfl (lv_at hl 0 rfl) ?_
  refine lv_aload_n hx hb dX0_copyFrom_42 rfl (lv_at hl 2 rfl) ?_
  refine va_get (D := (dC, dI)) (ci := 0) (v := .ref kc) (C := RX0) (T := TX0) (N := 12) hx hb hts hin0 hown hK hP 9 rfl rfl 2 (by decide) hw6 (fun _ h9 => h9) rfl dX0_copyFrom_43 ?_
  refine lv_iload_n hx hb dX0_copyFrom_46 rfl (lv_at hl 0 rfl) ?_
  refine va_zald hx hb hK hP 12 1 rfl rfl (vin (by decide) (by decide)) dX0_copyFrom_47 ?_
  refine lv_topi (fun x14 e14 => ?_)
  obtain rfl : x14 = 0 := e14.trans (by first | rfl | decide)
  refine va_zast hx hb hK hP hD hS 3 1 rfl rfl (vin (by decide) (by decide)) dX0_copyFrom_48 (fun H locs hP hD hS => ?_)
  replace hP : va_P (dC, dI) vwCl [(z, .inr (0, [.ref zs, .ref zw, .ref zc, .int (-6), .int 0, .int 0, .ref zq, .ref zm, .ref zd, .int 0, .ref za, .ref zk])), (zs, .inl (cI, 5, .inl (va_cpy (upd (fun _ => 0) 0 800) (upd (fun _ => 0) 0 800) 0 0 5))), (zw, .inl (cI, 14, .inl (va_cpy (fun _ => 0) (fun _ => 0) 0 0 14))), (zc, .inl (cZ, 14, .inl (upd (upd (upd (upd (upd (upd (upd (fun _ => 0) 0 0) 1 0) 2 0) 3 0) 4 0) 5 0) 6 0))), (zq, .inl (cI, 6, .inl (fun _ => 0))), (zm, .inl (cI, 6, .inl (fun _ => 0))), (zd, .inl (cI, 6, .inl (fun _ => 0))), (za, .inl (cI, 8, .inl (fun _ => 0))), (zk, .inl (cI, 8, .inl (fun _ => 0))), (k, .inr (0, [.ref ks, .ref kw, .ref kc, .int (-6), .int 0, .int 0, .ref kq, .ref km, .ref kd, .int 0, .ref ka, .ref kk])), (ks, .inl (cI, 5, .inl (upd (fun _ => 0) 0 800))), (kw, .inl (cI, 14, .inl (fun _ => 0))), (kc, .inl (cZ, 14, .inl (fun _ => 0))), (kq, .inl (cI, 6, .inl (fun _ => 0))), (km, .inl (cI, 6, .inl (fun _ => 0))), (kd, .inl (cI, 6, .inl (fun _ => 0))), (ka, .inl (cI, 8, .inl (fun _ => 0))), (kk, .inl (cI, 8, .inl (fun _ => 0)))] H := hP
  replace hD : va_D A [(z, .inr (0, [.ref zs, .ref zw, .ref zc, .int (-6), .int 0, .int 0, .ref zq, .ref zm, .ref zd, .int 0, .ref za, .ref zk])), (zs, .inl (cI, 5, .inl (va_cpy (upd (fun _ => 0) 0 800) (upd (fun _ => 0) 0 800) 0 0 5))), (zw, .inl (cI, 14, .inl (va_cpy (fun _ => 0) (fun _ => 0) 0 0 14))), (zc, .inl (cZ, 14, .inl (upd (upd (upd (upd (upd (upd (upd (fun _ => 0) 0 0) 1 0) 2 0) 3 0) 4 0) 5 0) 6 0))), (zq, .inl (cI, 6, .inl (fun _ => 0))), (zm, .inl (cI, 6, .inl (fun _ => 0))), (zd, .inl (cI, 6, .inl (fun _ => 0))), (za, .inl (cI, 8, .inl (fun _ => 0))), (zk, .inl (cI, 8, .inl (fun _ => 0))), (k, .inr (0, [.ref ks, .ref kw, .ref kc, .int (-6), .int 0, .int 0, .ref kq, .ref km, .ref kd, .int 0, .ref ka, .ref kk])), (ks, .inl (cI, 5, .inl (upd (fun _ => 0) 0 800))), (kw, .inl (cI, 14, .inl (fun _ => 0))), (kc, .inl (cZ, 14, .inl (fun _ => 0))), (kq, .inl (cI, 6, .inl (fun _ => 0))), (km, .inl (cI, 6, .inl (fun _ => 0))), (kd, .inl (cI, 6, .inl (fun _ => 0))), (ka, .inl (cI, 8, .inl (fun _ => 0))), (kk, .inl (cI, 8, .inl (fun _ => 0)))] := hD
  refine lv_iinc (v := 7) (lv' := [(2, .int 7), (0, .ref z), (1, .ref k)]) hx hb dX0_copyFrom_49 hl (k := 0) rfl (by decide) (by decide) rfl (fun ls hl => ?_)
  refine lv_goto (tgt := 31) hx hb dX0_copyFrom_52 (by decide) ?_
  refine lv_iload_n hx hb dX0_copyFrom_31 rfl (lv_at hl 0 rfl) ?_
  refine lv_bipush (v := 14) hx hb dX0_copyFrom_32 (by decide) ?_
  refine lv_icmp_ge (tgt := 55) hx hb dX0_copyFrom_34 (by decide) (fun c15 => absurd c15 (by decide)) (fun c15 => ?_)
  refine lv_aload_n hx hb dX0_copyFrom_37 rfl (lv_at hl 1 rfl) ?_
  refine va_get (D := (dC, dI)) (ci := 0) (v := .ref zc) (C := RX0) (T := TX0) (N := 12) hx hb hts hin0 hown hK hP 0 rfl rfl 2 (by decide) hw6 (fun _ h9 => h9) rfl dX0_copyFrom_38 ?_
  refine lv_iload_n hx hb dX0_copyFrom_41 rfl (lv_at hl 0 rfl) ?_
  refine lv_aload_n hx hb dX0_copyFrom_42 rfl (lv_at hl 2 rfl) ?_
  refine va_get (D := (dC, dI)) (ci := 0) (v := .ref kc) (C := RX0) (T := TX0) (N := 12) hx hb hts hin0 hown hK hP 9 rfl rfl 2 (by decide) hw6 (fun _ h9 => h9) rfl dX0_copyFrom_43 ?_
  refine lv_iload_n hx hb dX0_copyFrom_46 rfl (lv_at hl 0 rfl) ?_
  refine va_zald hx hb hK hP 12 1 rfl rfl (vin (by decide) (by decide)) dX0_copyFrom_47 ?_
  refine lv_topi (fun x16 e16 => ?_)
  obtain rfl : x16 = 0 := e16.trans (by first | rfl | decide)
  refine va_zast hx hb hK hP hD hS 3 1 rfl rfl (vin (by decide) (by decide)) dX0_copyFrom_48 (fun H locs hP hD hS => ?_)
  replace hP : va_P (dC, dI) vwCl [(z, .inr (0, [.ref zs, .ref zw, .ref zc, .int (-6), .int 0, .int 0, .ref zq, .ref zm, .ref zd, .int 0, .ref za, .ref zk])), (zs, .inl (cI, 5, .inl (va_cpy (upd (fun _ => 0) 0 800) (upd (fun _ => 0) 0 800) 0 0 5))), (zw, .inl (cI, 14, .inl (va_cpy (fun _ => 0) (fun _ => 0) 0 0 14))), (zc, .inl (cZ, 14, .inl (upd (upd (upd (upd (upd (upd (upd (upd (fun _ => 0) 0 0) 1 0) 2 0) 3 0) 4 0) 5 0) 6 0) 7 0))), (zq, .inl (cI, 6, .inl (fun _ => 0))), (zm, .inl (cI, 6, .inl (fun _ => 0))), (zd, .inl (cI, 6, .inl (fun _ => 0))), (za, .inl (cI, 8, .inl (fun _ => 0))), (zk, .inl (cI, 8, .inl (fun _ => 0))), (k, .inr (0, [.ref ks, .ref kw, .ref kc, .int (-6), .int 0, .int 0, .ref kq, .ref km, .ref kd, .int 0, .ref ka, .ref kk])), (ks, .inl (cI, 5, .inl (upd (fun _ => 0) 0 800))), (kw, .inl (cI, 14, .inl (fun _ => 0))), (kc, .inl (cZ, 14, .inl (fun _ => 0))), (kq, .inl (cI, 6, .inl (fun _ => 0))), (km, .inl (cI, 6, .inl (fun _ => 0))), (kd, .inl (cI, 6, .inl (fun _ => 0))), (ka, .inl (cI, 8, .inl (fun _ => 0))), (kk, .inl (cI, 8, .inl (fun _ => 0)))] H := hP
  replace hD : va_D A [(z, .inr (0, [.ref zs, .ref zw, .ref zc, .int (-6), .int 0, .int 0, .ref zq, .ref zm, .ref zd, .int 0, .ref za, .ref zk])), (zs, .inl (cI, 5, .inl (va_cpy (upd (fun _ => 0) 0 800) (upd (fun _ => 0) 0 800) 0 0 5))), (zw, .inl (cI, 14, .inl (va_cpy (fun _ => 0) (fun _ => 0) 0 0 14))), (zc, .inl (cZ, 14, .inl (upd (upd (upd (upd (upd (upd (upd (upd (fun _ => 0) 0 0) 1 0) 2 0) 3 0) 4 0) 5 0) 6 0) 7 0))), (zq, .inl (cI, 6, .inl (fun _ => 0))), (zm, .inl (cI, 6, .inl (fun _ => 0))), (zd, .inl (cI, 6, .inl (fun _ => 0))), (za, .inl (cI, 8, .inl (fun _ => 0))), (zk, .inl (cI, 8, .inl (fun _ => 0))), (k, .inr (0, [.ref ks, .ref kw, .ref kc, .int (-6), .int 0, .int 0, .ref kq, .ref km, .ref kd, .int 0, .ref ka, .ref kk])), (ks, .inl (cI, 5, .inl (upd (fun _ => 0) 0 800))), (kw, .inl (cI, 14, .inl (fun _ => 0))), (kc, .inl (cZ, 14, .inl (fun _ => 0))), (kq, .inl (cI, 6, .inl (fun _ => 0))), (km, .inl (cI, 6, .inl (fun _ => 0))), (kd, .inl (cI, 6, .inl (fun _ => 0))), (ka, .inl (cI, 8, .inl (fun _ => 0))), (kk, .inl (cI, 8, .inl (fun _ => 0)))] := hD
  refine lv_iinc (v := 8) (lv' := [(2, .int 8), (0, .ref z), (1, .ref k)]) hx hb dX0_copyFrom_49 hl (k := 0) rfl (by decide) (by decide) rfl (fun ls hl => ?_)
  refine lv_goto (tgt := 31) hx hb dX0_copyFrom_52 (by decide) ?_
  refine lv_iload_n hx hb dX0_copyFrom_31 rfl (lv_at hl 0 rfl) ?_
  refine lv_bipush (v := 14) hx hb dX0_copyFrom_32 (by decide) ?_
  refine lv_icmp_ge (tgt := 55) hx hb dX0_copyFrom_34 (by decide) (fun c17 => absurd c17 (by decide)) (fun c17 => ?_)
  refine lv_aload_n hx hb dX0_copyFrom_37 rfl (lv_at hl 1 rfl) ?_
  refine va_get (D := (dC, dI)) (ci := 0) (v := .ref zc) (C := RX0) (T := TX0) (N := 12) hx hb hts hin0 hown hK hP 0 rfl rfl 2 (by decide) hw6 (fun _ h9 => h9) rfl dX0_copyFrom_38 ?_
  refine lv_iload_n hx hb dX0_copyFrom_41 rfl (lv_at hl 0 rfl) ?_
  refine lv_aload_n hx hb dX0_copyFrom_42 rfl (lv_at hl 2 rfl) ?_
  refine va_get (D := (dC, dI)) (ci := 0) (v := .ref kc) (C := RX0) (T := TX0) (N := 12) hx hb hts hin0 hown hK hP 9 rfl rfl 2 (by decide) hw6 (fun _ h9 => h9) rfl dX0_copyFrom_43 ?_
  refine lv_iload_n hx hb dX0_copyFrom_46 rfl (lv_at hl 0 rfl) ?_
  refine va_zald hx hb hK hP 12 1 rfl rfl (vin (by decide) (by decide)) dX0_copyFrom_47 ?_
  refine lv_topi (fun x18 e18 => ?_)
  obtain rfl : x18 = 0 := e18.trans (by first | rfl | decide)
  refine va_zast hx hb hK hP hD hS 3 1 rfl rfl (vin (by decide) (by decide)) dX0_copyFrom_48 (fun H locs hP hD hS => ?_)
  replace hP : va_P (dC, dI) vwCl [(z, .inr (0, [.ref zs, .ref zw, .ref zc, .int (-6), .int 0, .int 0, .ref zq, .ref zm, .ref zd, .int 0, .ref za, .ref zk])), (zs, .inl (cI, 5, .inl (va_cpy (upd (fun _ => 0) 0 800) (upd (fun _ => 0) 0 800) 0 0 5))), (zw, .inl (cI, 14, .inl (va_cpy (fun _ => 0) (fun _ => 0) 0 0 14))), (zc, .inl (cZ, 14, .inl (upd (upd (upd (upd (upd (upd (upd (upd (upd (fun _ => 0) 0 0) 1 0) 2 0) 3 0) 4 0) 5 0) 6 0) 7 0) 8 0))), (zq, .inl (cI, 6, .inl (fun _ => 0))), (zm, .inl (cI, 6, .inl (fun _ => 0))), (zd, .inl (cI, 6, .inl (fun _ => 0))), (za, .inl (cI, 8, .inl (fun _ => 0))), (zk, .inl (cI, 8, .inl (fun _ => 0))), (k, .inr (0, [.ref ks, .ref kw, .ref kc, .int (-6), .int 0, .int 0, .ref kq, .ref km, .ref kd, .int 0, .ref ka, .ref kk])), (ks, .inl (cI, 5, .inl (upd (fun _ => 0) 0 800))), (kw, .inl (cI, 14, .inl (fun _ => 0))), (kc, .inl (cZ, 14, .inl (fun _ => 0))), (kq, .inl (cI, 6, .inl (fun _ => 0))), (km, .inl (cI, 6, .inl (fun _ => 0))), (kd, .inl (cI, 6, .inl (fun _ => 0))), (ka, .inl (cI, 8, .inl (fun _ => 0))), (kk, .inl (cI, 8, .inl (fun _ => 0)))] H := hP
  replace hD : va_D A [(z, .inr (0, [.ref zs, .ref zw, .ref zc, .int (-6), .int 0, .int 0, .ref zq, .ref zm, .ref zd, .int 0, .ref za, .ref zk])), (zs, .inl (cI, 5, .inl (va_cpy (upd (fun _ => 0) 0 800) (upd (fun _ => 0) 0 800) 0 0 5))), (zw, .inl (cI, 14, .inl (va_cpy (fun _ => 0) (fun _ => 0) 0 0 14))), (zc, .inl (cZ, 14, .inl (upd (upd (upd (upd (upd (upd (upd (upd (upd (fun _ => 0) 0 0) 1 0) 2 0) 3 0) 4 0) 5 0) 6 0) 7 0) 8 0))), (zq, .inl (cI, 6, .inl (fun _ => 0))), (zm, .inl (cI, 6, .inl (fun _ => 0))), (zd, .inl (cI, 6, .inl (fun _ => 0))), (za, .inl (cI, 8, .inl (fun _ => 0))), (zk, .inl (cI, 8, .inl (fun _ => 0))), (k, .inr (0, [.ref ks, .ref kw, .ref kc, .int (-6), .int 0, .int 0, .ref kq, .ref km, .ref kd, .int 0, .ref ka, .ref kk])), (ks, .inl (cI, 5, .inl (upd (fun _ => 0) 0 800))), (kw, .inl (cI, 14, .inl (fun _ => 0))), (kc, .inl (cZ, 14, .inl (fun _ => 0))), (kq, .inl (cI, 6, .inl (fun _ => 0))), (km, .inl (cI, 6, .inl (fun _ => 0))), (kd, .inl (cI, 6, .inl (fun _ => 0))), (ka, .inl (cI, 8, .inl (fun _ => 0))), (kk, .inl (cI, 8, .inl (fun _ => 0)))] := hD
  refine lv_iinc (v := 9) (lv' := [(2, .int 9), (0, .ref z), (1, .ref k)]) hx hb dX0_copyFrom_49 hl (k := 0) rfl (by decide) (by decide) rfl (fun ls hl => ?_)
  refine lv_goto (tgt := 31) hx hb dX0_copyFrom_52 (by decide) ?_
  refine lv_iload_n hx hb dX0_copyFrom_31 rfl (lv_at hl 0 rfl) ?_
  refine lv_bipush (v := 14) hx hb dX0_copyFrom_32 (by decide) ?_
  refine lv_icmp_ge (tgt := 55) hx hb dX0_copyFrom_34 (by decide) (fun c19 => absurd c19 (by decide)) (fun c19 => ?_)
  refine lv_aload_n hx hb dX0_copyFrom_37 rfl (lv_at hl 1 rfl) ?_
  refine va_get (D := (dC, dI)) (ci := 0) (v := .ref zc) (C := RX0) (T := TX0) (N := 12) hx hb hts hin0 hown hK hP 0 rfl rfl 2 (by decide) hw6 (fun _ h9 => h9) rfl dX0_copyFrom_38 ?_
  refine lv_iload_n hx hb dX0_copyFrom_41 rfl (lv_at hl 0 rfl) ?_
  refine lv_aload_n hx hb dX0_copyFrom_42 rfl (lv_at hl 2 rfl) ?_
  refine va_get (D := (dC, dI)) (ci := 0) (v := .ref kc) (C := RX0) (T := TX0) (N := 12) hx hb hts hin0 hown hK hP 9 rfl rfl 2 (by decide) hw6 (fun _ h9 => h9) rfl dX0_copyFrom_43 ?_
  refine lv_iload_n hx hb dX0_copyFrom_46 rfl (lv_at hl 0 rfl) ?_
  refine va_zald hx hb hK hP 12 1 rfl rfl (vin (by decide) (by decide)) dX0_copyFrom_47 ?_
  refine lv_topi (fun x20 e20 => ?_)
  obtain rfl : x20 = 0 := e20.trans (by first | rfl | decide)
  refine va_zast hx hb hK hP hD hS 3 1 rfl rfl (vin (by decide) (by decide)) dX0_copyFrom_48 (fun H locs hP hD hS => ?_)
  replace hP : va_P (dC, dI) vwCl [(z, .inr (0, [.ref zs, .ref zw, .ref zc, .int (-6), .int 0, .int 0, .ref zq, .ref zm, .ref zd, .int 0, .ref za, .ref zk])), (zs, .inl (cI, 5, .inl (va_cpy (upd (fun _ => 0) 0 800) (upd (fun _ => 0) 0 800) 0 0 5))), (zw, .inl (cI, 14, .inl (va_cpy (fun _ => 0) (fun _ => 0) 0 0 14))), (zc, .inl (cZ, 14, .inl (upd (upd (upd (upd (upd (upd (upd (upd (upd (upd (fun _ => 0) 0 0) 1 0) 2 0) 3 0) 4 0) 5 0) 6 0) 7 0) 8 0) 9 0))), (zq, .inl (cI, 6, .inl (fun _ => 0))), (zm, .inl (cI, 6, .inl (fun _ => 0))), (zd, .inl (cI, 6, .inl (fun _ => 0))), (za, .inl (cI, 8, .inl (fun _ => 0))), (zk, .inl (cI, 8, .inl (fun _ => 0))), (k, .inr (0, [.ref ks, .ref kw, .ref kc, .int (-6), .int 0, .int 0, .ref kq, .ref km, .ref kd, .int 0, .ref ka, .ref kk])), (ks, .inl (cI, 5, .inl (upd (fun _ => 0) 0 800))), (kw, .inl (cI, 14, .inl (fun _ => 0))), (kc, .inl (cZ, 14, .inl (fun _ => 0))), (kq, .inl (cI, 6, .inl (fun _ => 0))), (km, .inl (cI, 6, .inl (fun _ => 0))), (kd, .inl (cI, 6, .inl (fun _ => 0))), (ka, .inl (cI, 8, .inl (fun _ => 0))), (kk, .inl (cI, 8, .inl (fun _ => 0)))] H := hP
  replace hD : va_D A [(z, .inr (0, [.ref zs, .ref zw, .ref zc, .int (-6), .int 0, .int 0, .ref zq, .ref zm, .ref zd, .int 0, .ref za, .ref zk])), (zs, .inl (cI, 5, .inl (va_cpy (upd (fun _ => 0) 0 800) (upd (fun _ => 0) 0 800) 0 0 5))), (zw, .inl (cI, 14, .inl (va_cpy (fun _ => 0) (fun _ => 0) 0 0 14))), (zc, .inl (cZ, 14, .inl (upd (upd (upd (upd (upd (upd (upd (upd (upd (upd (fun _ => 0) 0 0) 1 0) 2 0) 3 0) 4 0) 5 0) 6 0) 7 0) 8 0) 9 0))), (zq, .inl (cI, 6, .inl (fun _ => 0))), (zm, .inl (cI, 6, .inl (fun _ => 0))), (zd, .inl (cI, 6, .inl (fun _ => 0))), (za, .inl (cI, 8, .inl (fun _ => 0))), (zk, .inl (cI, 8, .inl (fun _ => 0))), (k, .inr (0, [.ref ks, .ref kw, .ref kc, .int (-6), .int 0, .int 0, .ref kq, .ref km, .ref kd, .int 0, .ref ka, .ref kk])), (ks, .inl (cI, 5, .inl (upd (fun _ => 0) 0 800))), (kw, .inl (cI, 14, .inl (fun _ => 0))), (kc, .inl (cZ, 14, .inl (fun _ => 0))), (kq, .inl (cI, 6, .inl (fun _ => 0))), (km, .inl (cI, 6, .inl (fun _ => 0))), (kd, .inl (cI, 6, .inl (fun _ => 0))), (ka, .inl (cI, 8, .inl (fun _ => 0))), (kk, .inl (cI, 8, .inl (fun _ => 0)))] := hD
  refine lv_iinc (v := 10) (lv' := [(2, .int 10), (0, .ref z), (1, .ref k)]) hx hb dX0_copyFrom_49 hl (k := 0) rfl (by decide) (by decide) rfl (fun ls hl => ?_)
  refine lv_goto (tgt := 31) hx hb dX0_copyFrom_52 (by decide) ?_
  refine lv_iload_n hx hb dX0_copyFrom_31 rfl (lv_at hl 0 rfl) ?_
  refine lv_bipush (v := 14) hx hb dX0_copyFrom_32 (by decide) ?_
  refine lv_icmp_ge (tgt := 55) hx hb dX0_copyFrom_34 (by decide) (fun c21 => absurd c21 (by decide)) (fun c21 => ?_)
  refine lv_aload_n hx hb dX0_copyFrom_37 rfl (lv_at hl 1 rfl) ?_
  refine va_get (D := (dC, dI)) (ci := 0) (v := .ref zc) (C := RX0) (T := TX0) (N := 12) hx hb hts hin0 hown hK hP 0 rfl rfl 2 (by decide) hw6 (fun _ h9 => h9) rfl dX0_copyFrom_38 ?_
  refine lv_iload_n hx hb dX0_copyFrom_41 rfl (lv_at hl 0 rfl) ?_
  refine lv_aload_n hx hb dX0_copyFrom_42 rfl (lv_at hl 2 rfl) ?_
  refine va_get (D := (dC, dI)) (ci := 0) (v := .ref kc) (C := RX0) (T := TX0) (N := 12) hx hb hts hin0 hown hK hP 9 rfl rfl 2 (by decide) hw6 (fun _ h9 => h9) rfl dX0_copyFrom_43 ?_
  refine lv_iload_n hx hb dX0_copyFrom_46 rfl (lv_at hl 0 rfl) ?_
  refine va_zald hx hb hK hP 12 1 rfl rfl (vin (by decide) (by decide)) dX0_copyFrom_47 ?_
  refine lv_topi (fun x22 e22 => ?_)
  obtain rfl : x22 = 0 := e22.trans (by first | rfl | decide)
  refine va_zast hx hb hK hP hD hS 3 1 rfl rfl (vin (by decide) (by decide)) dX0_copyFrom_48 (fun H locs hP hD hS => ?_)
  replace hP : va_P (dC, dI) vwCl [(z, .inr (0, [.ref zs, .ref zw, .ref zc, .int (-6), .int 0, .int 0, .ref zq, .ref zm, .ref zd, .int 0, .ref za, .ref zk])), (zs, .inl (cI, 5, .inl (va_cpy (upd (fun _ => 0) 0 800) (upd (fun _ => 0) 0 800) 0 0 5))), (zw, .inl (cI, 14, .inl (va_cpy (fun _ => 0) (fun _ => 0) 0 0 14))), (zc, .inl (cZ, 14, .inl (upd (upd (upd (upd (upd (upd (upd (upd (upd (upd (upd (fun _ => 0) 0 0) 1 0) 2 0) 3 0) 4 0) 5 0) 6 0) 7 0) 8 0) 9 0) 10 0))), (zq, .inl (cI, 6, .inl (fun _ => 0))), (zm, .inl (cI, 6, .inl (fun _ => 0))), (zd, .inl (cI, 6, .inl (fun _ => 0))), (za, .inl (cI, 8, .inl (fun _ => 0))), (zk, .inl (cI, 8, .inl (fun _ => 0))), (k, .inr (0, [.ref ks, .ref kw, .ref kc, .int (-6), .int 0, .int 0, .ref kq, .ref km, .ref kd, .int 0, .ref ka, .ref kk])), (ks, .inl (cI, 5, .inl (upd (fun _ => 0) 0 800))), (kw, .inl (cI, 14, .inl (fun _ => 0))), (kc, .inl (cZ, 14, .inl (fun _ => 0))), (kq, .inl (cI, 6, .inl (fun _ => 0))), (km, .inl (cI, 6, .inl (fun _ => 0))), (kd, .inl (cI, 6, .inl (fun _ => 0))), (ka, .inl (cI, 8, .inl (fun _ => 0))), (kk, .inl (cI, 8, .inl (fun _ => 0)))] H := hP
  replace hD : va_D A [(z, .inr (0, [.ref zs, .ref zw, .ref zc, .int (-6), .int 0, .int 0, .ref zq, .ref zm, .ref zd, .int 0, .ref za, .ref zk])), (zs, .inl (cI, 5, .inl (va_cpy (upd (fun _ => 0) 0 800) (upd (fun _ => 0) 0 800) 0 0 5))), (zw, .inl (cI, 14, .inl (va_cpy (fun _ => 0) (fun _ => 0) 0 0 14))), (zc, .inl (cZ, 14, .inl (upd (upd (upd (upd (upd (upd (upd (upd (upd (upd (upd (fun _ => 0) 0 0) 1 0) 2 0) 3 0) 4 0) 5 0) 6 0) 7 0) 8 0) 9 0) 10 0))), (zq, .inl (cI, 6, .inl (fun _ => 0))), (zm, .inl (cI, 6, .inl (fun _ => 0))), (zd, .inl (cI, 6, .inl (fun _ => 0))), (za, .inl (cI, 8, .inl (fun _ => 0))), (zk, .inl (cI, 8, .inl (fun _ => 0))), (k, .inr (0, [.ref ks, .ref kw, .ref kc, .int (-6), .int 0, .int 0, .ref kq, .ref km, .ref kd, .int 0, .ref ka, .ref kk])), (ks, .inl (cI, 5, .inl (upd (fun _ => 0) 0 800))), (kw, .inl (cI, 14, .inl (fun _ => 0))), (kc, .inl (cZ, 14, .inl (fun _ => 0))), (kq, .inl (cI, 6, .inl (fun _ => 0))), (km, .inl (cI, 6, .inl (fun _ => 0))), (kd, .inl (cI, 6, .inl (fun _ => 0))), (ka, .inl (cI, 8, .inl (fun _ => 0))), (kk, .inl (cI, 8, .inl (fun _ => 0)))] := hD
  refine lv_iinc (v := 11) (lv' := [(2, .int 11), (0, .ref z), (1, .ref k)]) hx hb dX0_copyFrom_49 hl (k := 0) rfl (by decide) (by decide) rfl (fun ls hl => ?_)
  refine lv_goto (tgt := 31) hx hb dX0_copyFrom_52 (by decide) ?_
  refine lv_iload_n hx hb dX0_copyFrom_31 rfl (lv_at hl 0 rfl) ?_
  refine lv_bipush (v := 14) hx hb dX0_copyFrom_32 (by decide) ?_
  refine lv_icmp_ge (tgt := 55) hx hb dX0_copyFrom_34 (by decide) (fun c23 => absurd c23 (by decide)) (fun c23 => ?_)
  refine lv_aload_n hx hb dX0_copyFrom_37 rfl (lv_at hl 1 rfl) ?_
  refine va_get (D := (dC, dI)) (ci := 0) (v := .ref zc) (C := RX0) (T := TX0) (N := 12) hx hb hts hin0 hown hK hP 0 rfl rfl 2 (by decide) hw6 (fun _ h9 => h9) rfl dX0_copyFrom_38 ?_
  refine lv_iload_n hx hb dX0_copyFrom_41 rfl (lv_at hl 0 rfl) ?_
  refine lv_aload_n hx hb dX0_copyFrom_42 rfl (lv_at hl 2 rfl) ?_
  refine va_get (D := (dC, dI)) (ci := 0) (v := .ref kc) (C := RX0) (T := TX0) (N := 12) hx hb hts hin0 hown hK hP 9 rfl rfl 2 (by decide) hw6 (fun _ h9 => h9) rfl dX0_copyFrom_43 ?_
  refine lv_iload_n hx hb dX0_copyFrom_46 rfl (lv_at hl 0 rfl) ?_
  refine va_zald hx hb hK hP 12 1 rfl rfl (vin (by decide) (by decide)) dX0_copyFrom_47 ?_
  refine lv_topi (fun x24 e24 => ?_)
  obtain rfl : x24 = 0 := e24.trans (by first | rfl | decide)
  refine va_zast hx hb hK hP hD hS 3 1 rfl rfl (vin (by decide) (by decide)) dX0_copyFrom_48 (fun H locs hP hD hS => ?_)
  replace hP : va_P (dC, dI) vwCl [(z, .inr (0, [.ref zs, .ref zw, .ref zc, .int (-6), .int 0, .int 0, .ref zq, .ref zm, .ref zd, .int 0, .ref za, .ref zk])), (zs, .inl (cI, 5, .inl (va_cpy (upd (fun _ => 0) 0 800) (upd (fun _ => 0) 0 800) 0 0 5))), (zw, .inl (cI, 14, .inl (va_cpy (fun _ => 0) (fun _ => 0) 0 0 14))), (zc, .inl (cZ, 14, .inl (upd (upd (upd (upd (upd (upd (upd (upd (upd (upd (upd (upd (fun _ => 0) 0 0) 1 0) 2 0) 3 0) 4 0) 5 0) 6 0) 7 0) 8 0) 9 0) 10 0) 11 0))), (zq, .inl (cI, 6, .inl (fun _ => 0))), (zm, .inl (cI, 6, .inl (fun _ => 0))), (zd, .inl (cI, 6, .inl (fun _ => 0))), (za, .inl (cI, 8, .inl (fun _ => 0))), (zk, .inl (cI, 8, .inl (fun _ => 0))), (k, .inr (0, [.ref ks, .ref kw, .ref kc, .int (-6), .int 0, .int 0, .ref kq, .ref km, .ref kd, .int 0, .ref ka, .ref kk])), (ks, .inl (cI, 5, .inl (upd (fun _ => 0) 0 800))), (kw, .inl (cI, 14, .inl (fun _ => 0))), (kc, .inl (cZ, 14, .inl (fun _ => 0))), (kq, .inl (cI, 6, .inl (fun _ => 0))), (km, .inl (cI, 6, .inl (fun _ => 0))), (kd, .inl (cI, 6, .inl (fun _ => 0))), (ka, .inl (cI, 8, .inl (fun _ => 0))), (kk, .inl (cI, 8, .inl (fun _ => 0)))] H := hP
  replace hD : va_D A [(z, .inr (0, [.ref zs, .ref zw, .ref zc, .int (-6), .int 0, .int 0, .ref zq, .ref zm, .ref zd, .int 0, .ref za, .ref zk])), (zs, .inl (cI, 5, .inl (va_cpy (upd (fun _ => 0) 0 800) (upd (fun _ => 0) 0 800) 0 0 5))), (zw, .inl (cI, 14, .inl (va_cpy (fun _ => 0) (fun _ => 0) 0 0 14))), (zc, .inl (cZ, 14, .inl (upd (upd (upd (upd (upd (upd (upd (upd (upd (upd (upd (upd (fun _ => 0) 0 0) 1 0) 2 0) 3 0) 4 0) 5 0) 6 0) 7 0) 8 0) 9 0) 10 0) 11 0))), (zq, .inl (cI, 6, .inl (fun _ => 0))), (zm, .inl (cI, 6, .inl (fun _ => 0))), (zd, .inl (cI, 6, .inl (fun _ => 0))), (za, .inl (cI, 8, .inl (fun _ => 0))), (zk, .inl (cI, 8, .inl (fun _ => 0))), (k, .inr (0, [.ref ks, .ref kw, .ref kc, .int (-6), .int 0, .int 0, .ref kq, .ref km, .ref kd, .int 0, .ref ka, .ref kk])), (ks, .inl (cI, 5, .inl (upd (fun _ => 0) 0 800))), (kw, .inl (cI, 14, .inl (fun _ => 0))), (kc, .inl (cZ, 14, .inl (fun _ => 0))), (kq, .inl (cI, 6, .inl (fun _ => 0))), (km, .inl (cI, 6, .inl (fun _ => 0))), (kd, .inl (cI, 6, .inl (fun _ => 0))), (ka, .inl (cI, 8, .inl (fun _ => 0))), (kk, .inl (cI, 8, .inl (fun _ => 0)))] := hD
  refine lv_iinc (v := 12) (lv' := [(2, .int 12), (0, .ref z), (1, .ref k)]) hx hb dX0_copyFrom_49 hl (k := 0) rfl (by decide) (by decide) rfl (fun ls hl => ?_)
  refine lv_goto (tgt := 31) hx hb dX0_copyFrom_52 (by decide) ?_
  refine lv_iload_n hx hb dX0_copyFrom_31 rfl (lv_at hl 0 rfl) ?_
  refine lv_bipush (v := 14) hx hb dX0_copyFrom_32 (by decide) ?_
  refine lv_icmp_ge (tgt := 55) hx hb dX0_copyFrom_34 (by decide) (fun c25 => absurd c25 (by decide)) (fun c25 => ?_)
  refine lv_aload_n hx hb dX0_copyFrom_37 rfl (lv_at hl 1 rfl) ?_
  refine va_get (D := (dC, dI)) (ci := 0) (v := .ref zc) (C := RX0) (T := TX0) (N := 12) hx hb hts hin0 hown hK hP 0 rfl rfl 2 (by decide) hw6 (fun _ h9 => h9) rfl dX0_copyFrom_38 ?_
  refine lv_iload_n hx hb dX0_copyFrom_41 rfl (lv_at hl 0 rfl) ?_
  refine lv_aload_n hx hb dX0_copyFrom_42 rfl (lv_at hl 2 rfl) ?_
  refine va_get (D := (dC, dI)) (ci := 0) (v := .ref kc) (C := RX0) (T := TX0) (N := 12) hx hb hts hin0 hown hK hP 9 rfl rfl 2 (by decide) hw6 (fun _ h9 => h9) rfl dX0_copyFrom_43 ?_
  refine lv_iload_n hx hb dX0_copyFrom_46 rfl (lv_at hl 0 rfl) ?_
  refine va_zald hx hb hK hP 12 1 rfl rfl (vin (by decide) (by decide)) dX0_copyFrom_47 ?_
  refine lv_topi (fun x26 e26 => ?_)
  obtain rfl : x26 = 0 := e26.trans (by first | rfl | decide)
  refine va_zast hx hb hK hP hD hS 3 1 rfl rfl (vin (by decide) (by decide)) dX0_copyFrom_48 (fun H locs hP hD hS => ?_)
  replace hP : va_P (dC, dI) vwCl [(z, .inr (0, [.ref zs, .ref zw, .ref zc, .int (-6), .int 0, .int 0, .ref zq, .ref zm, .ref zd, .int 0, .ref za, .ref zk])), (zs, .inl (cI, 5, .inl (va_cpy (upd (fun _ => 0) 0 800) (upd (fun _ => 0) 0 800) 0 0 5))), (zw, .inl (cI, 14, .inl (va_cpy (fun _ => 0) (fun _ => 0) 0 0 14))), (zc, .inl (cZ, 14, .inl (upd (upd (upd (upd (upd (upd (upd (upd (upd (upd (upd (upd (upd (fun _ => 0) 0 0) 1 0) 2 0) 3 0) 4 0) 5 0) 6 0) 7 0) 8 0) 9 0) 10 0) 11 0) 12 0))), (zq, .inl (cI, 6, .inl (fun _ => 0))), (zm, .inl (cI, 6, .inl (fun _ => 0))), (zd, .inl (cI, 6, .inl (fun _ => 0))), (za, .inl (cI, 8, .inl (fun _ => 0))), (zk, .inl (cI, 8, .inl (fun _ => 0))), (k, .inr (0, [.ref ks, .ref kw, .ref kc, .int (-6), .int 0, .int 0, .ref kq, .ref km, .ref kd, .int 0, .ref ka, .ref kk])), (ks, .inl (cI, 5, .inl (upd (fun _ => 0) 0 800))), (kw, .inl (cI, 14, .inl (fun _ => 0))), (kc, .inl (cZ, 14, .inl (fun _ => 0))), (kq, .inl (cI, 6, .inl (fun _ => 0))), (km, .inl (cI, 6, .inl (fun _ => 0))), (kd, .inl (cI, 6, .inl (fun _ => 0))), (ka, .inl (cI, 8, .inl (fun _ => 0))), (kk, .inl (cI, 8, .inl (fun _ => 0)))] H := hP
  replace hD : va_D A [(z, .inr (0, [.ref zs, .ref zw, .ref zc, .int (-6), .int 0, .int 0, .ref zq, .ref zm, .ref zd, .int 0, .ref za, .ref zk])), (zs, .inl (cI, 5, .inl (va_cpy (upd (fun _ => 0) 0 800) (upd (fun _ => 0) 0 800) 0 0 5))), (zw, .inl (cI, 14, .inl (va_cpy (fun _ => 0) (fun _ => 0) 0 0 14))), (zc, .inl (cZ, 14, .inl (upd (upd (upd (upd (upd (upd (upd (upd (upd (upd (upd (upd (upd (fun _ => 0) 0 0) 1 0) 2 0) 3 0) 4 0) 5 0) 6 0) 7 0) 8 0) 9 0) 10 0) 11 0) 12 0))), (zq, .inl (cI, 6, .inl (fun _ => 0))), (zm, .inl (cI, 6, .inl (fun _ => 0))), (zd, .inl (cI, 6, .inl (fun _ => 0))), (za, .inl (cI, 8, .inl (fun _ => 0))), (zk, .inl (cI, 8, .inl (fun _ => 0))), (k, .inr (0, [.ref ks, .ref kw, .ref kc, .int (-6), .int 0, .int 0, .ref kq, .ref km, .ref kd, .int 0, .ref ka, .ref kk])), (ks, .inl (cI, 5, .inl (upd (fun _ => 0) 0 800))), (kw, .inl (cI, 14, .inl (fun _ => 0))), (kc, .inl (cZ, 14, .inl (fun _ => 0))), (kq, .inl (cI, 6, .inl (fun _ => 0))), (km, .inl (cI, 6, .inl (fun _ => 0))), (kd, .inl (cI, 6, .inl (fun _ => 0))), (ka, .inl (cI, 8, .inl (fun _ => 0))), (kk, .inl (cI, 8, .inl (fun _ => 0)))] := hD
  refine lv_iinc (v := 13) (lv' := [(2, .int 13), (0, .ref z), (1, .ref k)]) hx hb dX0_copyFrom_49 hl (k := 0) rfl (by decide) (by decide) rfl (fun ls hl => ?_)
  refine lv_goto (tgt := 31) hx hb dX0_copyFrom_52 (by decide) ?_
  refine lv_iload_n hx hb dX0_copyFrom_31 rfl (lv_at hl 0 rfl) ?_
  refine lv_bipush (v := 14) hx hb dX0_copyFrom_32 (by decide) ?_
  refine lv_icmp_ge (tgt := 55) hx hb dX0_copyFrom_34 (by decide) (fun c27 => absurd c27 (by decide)) (fun c27 => ?_)
  refine lv_aload_n hx hb dX0_copyFrom_37 rfl (lv_at hl 1 rfl) ?_
  refine va_get (D := (dC, dI)) (ci := 0) (v := .ref zc) (C := RX0) (T := TX0) (N := 12) hx hb hts hin0 hown hK hP 0 rfl rfl 2 (by decide) hw6 (fun _ h9 => h9) rfl dX0_copyFrom_38 ?_
  refine lv_iload_n hx hb dX0_copyFrom_41 rfl (lv_at hl 0 rfl) ?_
  refine lv_aload_n hx hb dX0_copyFrom_42 rfl (lv_at hl 2 rfl) ?_
  refine va_get (D := (dC, dI)) (ci := 0) (v := .ref kc) (C := RX0) (T := TX0) (N := 12) hx hb hts hin0 hown hK hP 9 rfl rfl 2 (by decide) hw6 (fun _ h9 => h9) rfl dX0_copyFrom_43 ?_
  refine lv_iload_n hx hb dX0_copyFrom_46 rfl (lv_at hl 0 rfl) ?_
  refine va_zald hx hb hK hP 12 1 rfl rfl (vin (by decide) (by decide)) dX0_copyFrom_47 ?_
  refine lv_topi (fun x28 e28 => ?_)
  obtain rfl : x28 = 0 := e28.trans (by first | rfl | decide)
  refine va_zast hx hb hK hP hD hS 3 1 rfl rfl (vin (by decide) (by decide)) dX0_copyFrom_48 (fun H locs hP hD hS => ?_)
  replace hP : va_P (dC, dI) vwCl [(z, .inr (0, [.ref zs, .ref zw, .ref zc, .int (-6), .int 0, .int 0, .ref zq, .ref zm, .ref zd, .int 0, .ref za, .ref zk])), (zs, .inl (cI, 5, .inl (va_cpy (upd (fun _ => 0) 0 800) (upd (fun _ => 0) 0 800) 0 0 5))), (zw, .inl (cI, 14, .inl (va_cpy (fun _ => 0) (fun _ => 0) 0 0 14))), (zc, .inl (cZ, 14, .inl (upd (upd (upd (upd (upd (upd (upd (upd (upd (upd (upd (upd (upd (upd (fun _ => 0) 0 0) 1 0) 2 0) 3 0) 4 0) 5 0) 6 0) 7 0) 8 0) 9 0) 10 0) 11 0) 12 0) 13 0))), (zq, .inl (cI, 6, .inl (fun _ => 0))), (zm, .inl (cI, 6, .inl (fun _ => 0))), (zd, .inl (cI, 6, .inl (fun _ => 0))), (za, .inl (cI, 8, .inl (fun _ => 0))), (zk, .inl (cI, 8, .inl (fun _ => 0))), (k, .inr (0, [.ref ks, .ref kw, .ref kc, .int (-6), .int 0, .int 0, .ref kq, .ref km, .ref kd, .int 0, .ref ka, .ref kk])), (ks, .inl (cI, 5, .inl (upd (fun _ => 0) 0 800))), (kw, .inl (cI, 14, .inl (fun _ => 0))), (kc, .inl (cZ, 14, .inl (fun _ => 0))), (kq, .inl (cI, 6, .inl (fun _ => 0))), (km, .inl (cI, 6, .inl (fun _ => 0))), (kd, .inl (cI, 6, .inl (fun _ => 0))), (ka, .inl (cI, 8, .inl (fun _ => 0))), (kk, .inl (cI, 8, .inl (fun _ => 0)))] H := hP
  replace hD : va_D A [(z, .inr (0, [.ref zs, .ref zw, .ref zc, .int (-6), .int 0, .int 0, .ref zq, .ref zm, .ref zd, .int 0, .ref za, .ref zk])), (zs, .inl (cI, 5, .inl (va_cpy (upd (fun _ => 0) 0 800) (upd (fun _ => 0) 0 800) 0 0 5))), (zw, .inl (cI, 14, .inl (va_cpy (fun _ => 0) (fun _ => 0) 0 0 14))), (zc, .inl (cZ, 14, .inl (upd (upd (upd (upd (upd (upd (upd (upd (upd (upd (upd (upd (upd (upd (fun _ => 0) 0 0) 1 0) 2 0) 3 0) 4 0) 5 0) 6 0) 7 0) 8 0) 9 0) 10 0) 11 0) 12 0) 13 0))), (zq, .inl (cI, 6, .inl (fun _ => 0))), (zm, .inl (cI, 6, .inl (fun _ => 0))), (zd, .inl (cI, 6, .inl (fun _ => 0))), (za, .inl (cI, 8, .inl (fun _ => 0))), (zk, .inl (cI, 8, .inl (fun _ => 0))), (k, .inr (0, [.ref ks, .ref kw, .ref kc, .int (-6), .int 0, .int 0, .ref kq, .ref km, .ref kd, .int 0, .ref ka, .ref kk])), (ks, .inl (cI, 5, .inl (upd (fun _ => 0) 0 800))), (kw, .inl (cI, 14, .inl (fun _ => 0))), (kc, .inl (cZ, 14, .inl (fun _ => 0))), (kq, .inl (cI, 6, .inl (fun _ => 0))), (km, .inl (cI, 6, .inl (fun _ => 0))), (kd, .inl (cI, 6, .inl (fun _ => 0))), (ka, .inl (cI, 8, .inl (fun _ => 0))), (kk, .inl (cI, 8, .inl (fun _ => 0)))] := hD
  refine lv_iinc (v := 14) (lv' := [(2, .int 14), (0, .ref z), (1, .ref k)]) hx hb dX0_copyFrom_49 hl (k := 0) rfl (by decide) (by decide) rfl (fun ls hl => ?_)
  refine lv_goto (tgt := 31) hx hb dX0_copyFrom_52 (by decide) ?_
  refine lv_iload_n hx hb dX0_copyFrom_31 rfl (lv_at hl 0 rfl) ?_
  refine lv_bipush (v := 14) hx hb dX0_copyFrom_32 (by decide) ?_
  refine lv_icmp_ge (tgt := 55) hx hb dX0_copyFrom_34 (by decide) (fun c29 => ?_) (fun c29 => absurd c29 (by decide))
  refine lv_aload_n hx hb dX0_copyFrom_55 rfl (lv_at hl 1 rfl) ?_
  refine lv_aload_n hx hb dX0_copyFrom_56 rfl (lv_at hl 2 rfl) ?_
  refine va_get (D := (dC, dI)) (ci := 0) (v := .int (-6)) (C := RX0) (T := TX0) (N := 12) hx hb hts hin0 hown hK hP 9 rfl rfl 3 (by decide) hw7 (fun _ h9 => h9) rfl dX0_copyFrom_57 ?_
  refine va_put (D := (dC, dI)) (ci := 0) (v := .int (-6)) (ty := .int) (C := RX0) (T := TX0) (N := 12) hx hb hts hin0 tyX0 tyX0_ok nmX0 hown hK hP hD hS 0 rfl rfl 3 (by decide) hw7 (fun _ h9 => h9) rfl (by decide +kernel) rfl rfl (Nat.le_of_ble_eq_true rfl) dX0_copyFrom_60 (fun H locs hP hD hS => ?_)
  replace hP : va_P (dC, dI) vwCl [(z, .inr (0, [.ref zs, .ref zw, .ref zc, .int (-6), .int 0, .int 0, .ref zq, .ref zm, .ref zd, .int 0, .ref za, .ref zk])), (zs, .inl (cI, 5, .inl (va_cpy (upd (fun _ => 0) 0 800) (upd (fun _ => 0) 0 800) 0 0 5))), (zw, .inl (cI, 14, .inl (va_cpy (fun _ => 0) (fun _ => 0) 0 0 14))), (zc, .inl (cZ, 14, .inl (upd (upd (upd (upd (upd (upd (upd (upd (upd (upd (upd (upd (upd (upd (fun _ => 0) 0 0) 1 0) 2 0) 3 0) 4 0) 5 0) 6 0) 7 0) 8 0) 9 0) 10 0) 11 0) 12 0) 13 0))), (zq, .inl (cI, 6, .inl (fun _ => 0))), (zm, .inl (cI, 6, .inl (fun _ => 0))), (zd, .inl (cI, 6, .inl (fun _ => 0))), (za, .inl (cI, 8, .inl (fun _ => 0))), (zk, .inl (cI, 8, .inl (fun _ => 0))), (k, .inr (0, [.ref ks, .ref kw, .ref kc, .int (-6), .int 0, .int 0, .ref kq, .ref km, .ref kd, .int 0, .ref ka, .ref kk])), (ks, .inl (cI, 5, .inl (upd (fun _ => 0) 0 800))), (kw, .inl (cI, 14, .inl (fun _ => 0))), (kc, .inl (cZ, 14, .inl (fun _ => 0))), (kq, .inl (cI, 6, .inl (fun _ => 0))), (km, .inl (cI, 6, .inl (fun _ => 0))), (kd, .inl (cI, 6, .inl (fun _ => 0))), (ka, .inl (cI, 8, .inl (fun _ => 0))), (kk, .inl (cI, 8, .inl (fun _ => 0)))] H := hP
  replace hD : va_D A [(z, .inr (0, [.ref zs, .ref zw, .ref zc, .int (-6), .int 0, .int 0, .ref zq, .ref zm, .ref zd, .int 0, .ref za, .ref zk])), (zs, .inl (cI, 5, .inl (va_cpy (upd (fun _ => 0) 0 800) (upd (fun _ => 0) 0 800) 0 0 5))), (zw, .inl (cI, 14, .inl (va_cpy (fun _ => 0) (fun _ => 0) 0 0 14))), (zc, .inl (cZ, 14, .inl (upd (upd (upd (upd (upd (upd (upd (upd (upd (upd (upd (upd (upd (upd (fun _ => 0) 0 0) 1 0) 2 0) 3 0) 4 0) 5 0) 6 0) 7 0) 8 0) 9 0) 10 0) 11 0) 12 0) 13 0))), (zq, .inl (cI, 6, .inl (fun _ => 0))), (zm, .inl (cI, 6, .inl (fun _ => 0))), (zd, .inl (cI, 6, .inl (fun _ => 0))), (za, .inl (cI, 8, .inl (fun _ => 0))), (zk, .inl (cI, 8, .inl (fun _ => 0))), (k, .inr (0, [.ref ks, .ref kw, .ref kc, .int (-6), .int 0, .int 0, .ref kq, .ref km, .ref kd, .int 0, .ref ka, .ref kk])), (ks, .inl (cI, 5, .inl (upd (fun _ => 0) 0 800))), (kw, .inl (cI, 14, .inl (fun _ => 0))), (kc, .inl (cZ, 14, .inl (fun _ => 0))), (kq, .inl (cI, 6, .inl (fun _ => 0))), (km, .inl (cI, 6, .inl (fun _ => 0))), (kd, .inl (cI, 6, .inl (fun _ => 0))), (ka, .inl (cI, 8, .inl (fun _ => 0))), (kk, .inl (cI, 8, .inl (fun _ => 0)))] := hD
  refine lv_aload_n hx hb dX0_copyFrom_63 rfl (lv_at hl 1 rfl) ?_
  refine lv_aload_n hx hb dX0_copyFrom_64 rfl (lv_at hl 2 rfl) ?_
  refine va_get (D := (dC, dI)) (ci := 0) (v := .int 0) (C := RX0) (T := TX0) (N := 12) hx hb hts hin0 hown hK hP 9 rfl rfl 4 (by decide) hw8 (fun _ h9 => h9) rfl dX0_copyFrom_65 ?_
  refine va_put (D := (dC, dI)) (ci := 0) (v := .int 0) (ty := .int) (C := RX0) (T := TX0) (N := 12) hx hb hts hin0 tyX0 tyX0_ok nmX0 hown hK hP hD hS 0 rfl rfl 4 (by decide) hw8 (fun _ h9 => h9) rfl (by decide +kernel) rfl rfl (Nat.le_of_ble_eq_true rfl) dX0_copyFrom_68 (fun H locs hP hD hS => ?_)
  replace hP : va_P (dC, dI) vwCl [(z, .inr (0, [.ref zs, .ref zw, .ref zc, .int (-6), .int 0, .int 0, .ref zq, .ref zm, .ref zd, .int 0, .ref za, .ref zk])), (zs, .inl (cI, 5, .inl (va_cpy (upd (fun _ => 0) 0 800) (upd (fun _ => 0) 0 800) 0 0 5))), (zw, .inl (cI, 14, .inl (va_cpy (fun _ => 0) (fun _ => 0) 0 0 14))), (zc, .inl (cZ, 14, .inl (upd (upd (upd (upd (upd (upd (upd (upd (upd (upd (upd (upd (upd (upd (fun _ => 0) 0 0) 1 0) 2 0) 3 0) 4 0) 5 0) 6 0) 7 0) 8 0) 9 0) 10 0) 11 0) 12 0) 13 0))), (zq, .inl (cI, 6, .inl (fun _ => 0))), (zm, .inl (cI, 6, .inl (fun _ => 0))), (zd, .inl (cI, 6, .inl (fun _ => 0))), (za, .inl (cI, 8, .inl (fun _ => 0))), (zk, .inl (cI, 8, .inl (fun _ => 0))), (k, .inr (0, [.ref ks, .ref kw, .ref kc, .int (-6), .int 0, .int 0, .ref kq, .ref km, .ref kd, .int 0, .ref ka, .ref kk])), (ks, .inl (cI, 5, .inl (upd (fun _ => 0) 0 800))), (kw, .inl (cI, 14, .inl (fun _ => 0))), (kc, .inl (cZ, 14, .inl (fun _ => 0))), (kq, .inl (cI, 6, .inl (fun _ => 0))), (km, .inl (cI, 6, .inl (fun _ => 0))), (kd, .inl (cI, 6, .inl (fun _ => 0))), (ka, .inl (cI, 8, .inl (fun _ => 0))), (kk, .inl (cI, 8, .inl (fun _ => 0)))] H := hP
  replace hD : va_D A [(z, .inr (0, [.ref zs, .ref zw, .ref zc, .int (-6), .int 0, .int 0, .ref zq, .ref zm, .ref zd, .int 0, .ref za, .ref zk])), (zs, .inl (cI, 5, .inl (va_cpy (upd (fun _ => 0) 0 800) (upd (fun _ => 0) 0 800) 0 0 5))), (zw, .inl (cI, 14, .inl (va_cpy (fun _ => 0) (fun _ => 0) 0 0 14))), (zc, .inl (cZ, 14, .inl (upd (upd (upd (upd (upd (upd (upd (upd (upd (upd (upd (upd (upd (upd (fun _ => 0) 0 0) 1 0) 2 0) 3 0) 4 0) 5 0) 6 0) 7 0) 8 0) 9 0) 10 0) 11 0) 12 0) 13 0))), (zq, .inl (cI, 6, .inl (fun _ => 0))), (zm, .inl (cI, 6, .inl (fun _ => 0))), (zd, .inl (cI, 6, .inl (fun _ => 0))), (za, .inl (cI, 8, .inl (fun _ => 0))), (zk, .inl (cI, 8, .inl (fun _ => 0))), (k, .inr (0, [.ref ks, .ref kw, .ref kc, .int (-6), .int 0, .int 0, .ref kq, .ref km, .ref kd, .int 0, .ref ka, .ref kk])), (ks, .inl (cI, 5, .inl (upd (fun _ => 0) 0 800))), (kw, .inl (cI, 14, .inl (fun _ => 0))), (kc, .inl (cZ, 14, .inl (fun _ => 0))), (kq, .inl (cI, 6, .inl (fun _ => 0))), (km, .inl (cI, 6, .inl (fun _ => 0))), (kd, .inl (cI, 6, .inl (fun _ => 0))), (ka, .inl (cI, 8, .inl (fun _ => 0))), (kk, .inl (cI, 8, .inl (fun _ => 0)))] := hD
  refine lv_aload_n hx hb dX0_copyFrom_71 rfl (lv_at hl 1 rfl) ?_
  refine lv_aload_n hx hb dX0_copyFrom_72 rfl (lv_at hl 2 rfl) ?_
  refine va_get (D := (dC, dI)) (ci := 0) (v := .int 0) (C := RX0) (T := TX0) (N := 12) hx hb hts hin0 hown hK hP 9 rfl rfl 5 (by decide) hw9 (fun _ h9 => h9) rfl dX0_copyFrom_73 ?_
  refine va_put (D := (dC, dI)) (ci := 0) (v := .int 0) (ty := .int) (C := RX0) (T := TX0) (N := 12) hx hb hts hin0 tyX0 tyX0_ok nmX0 hown hK hP hD hS 0 rfl rfl 5 (by decide) hw9 (fun _ h9 => h9) rfl (by decide +kernel) rfl rfl (Nat.le_of_ble_eq_true rfl) dX0_copyFrom_76 (fun H locs hP hD hS => ?_)
  replace hP : va_P (dC, dI) vwCl [(z, .inr (0, [.ref zs, .ref zw, .ref zc, .int (-6), .int 0, .int 0, .ref zq, .ref zm, .ref zd, .int 0, .ref za, .ref zk])), (zs, .inl (cI, 5, .inl (va_cpy (upd (fun _ => 0) 0 800) (upd (fun _ => 0) 0 800) 0 0 5))), (zw, .inl (cI, 14, .inl (va_cpy (fun _ => 0) (fun _ => 0) 0 0 14))), (zc, .inl (cZ, 14, .inl (upd (upd (upd (upd (upd (upd (upd (upd (upd (upd (upd (upd (upd (upd (fun _ => 0) 0 0) 1 0) 2 0) 3 0) 4 0) 5 0) 6 0) 7 0) 8 0) 9 0) 10 0) 11 0) 12 0) 13 0))), (zq, .inl (cI, 6, .inl (fun _ => 0))), (zm, .inl (cI, 6, .inl (fun _ => 0))), (zd, .inl (cI, 6, .inl (fun _ => 0))), (za, .inl (cI, 8, .inl (fun _ => 0))), (zk, .inl (cI, 8, .inl (fun _ => 0))), (k, .inr (0, [.ref ks, .ref kw, .ref kc, .int (-6), .int 0, .int 0, .ref kq, .ref km, .ref kd, .int 0, .ref ka, .ref kk])), (ks, .inl (cI, 5, .inl (upd (fun _ => 0) 0 800))), (kw, .inl (cI, 14, .inl (fun _ => 0))), (kc, .inl (cZ, 14, .inl (fun _ => 0))), (kq, .inl (cI, 6, .inl (fun _ => 0))), (km, .inl (cI, 6, .inl (fun _ => 0))), (kd, .inl (cI, 6, .inl (fun _ => 0))), (ka, .inl (cI, 8, .inl (fun _ => 0))), (kk, .inl (cI, 8, .inl (fun _ => 0)))] H := hP
  replace hD : va_D A [(z, .inr (0, [.ref zs, .ref zw, .ref zc, .int (-6), .int 0, .int 0, .ref zq, .ref zm, .ref zd, .int 0, .ref za, .ref zk])), (zs, .inl (cI, 5, .inl (va_cpy (upd (fun _ => 0) 0 800) (upd (fun _ => 0) 0 800) 0 0 5))), (zw, .inl (cI, 14, .inl (va_cpy (fun _ => 0) (fun _ => 0) 0 0 14))), (zc, .inl (cZ, 14, .inl (upd (upd (upd (upd (upd (upd (upd (upd (upd (upd (upd (upd (upd (upd (fun _ => 0) 0 0) 1 0) 2 0) 3 0) 4 0) 5 0) 6 0) 7 0) 8 0) 9 0) 10 0) 11 0) 12 0) 13 0))), (zq, .inl (cI, 6, .inl (fun _ => 0))), (zm, .inl (cI, 6, .inl (fun _ => 0))), (zd, .inl (cI, 6, .inl (fun _ => 0))), (za, .inl (cI, 8, .inl (fun _ => 0))), (zk, .inl (cI, 8, .inl (fun _ => 0))), (k, .inr (0, [.ref ks, .ref kw, .ref kc, .int (-6), .int 0, .int 0, .ref kq, .ref km, .ref kd, .int 0, .ref ka, .ref kk])), (ks, .inl (cI, 5, .inl (upd (fun _ => 0) 0 800))), (kw, .inl (cI, 14, .inl (fun _ => 0))), (kc, .inl (cZ, 14, .inl (fun _ => 0))), (kq, .inl (cI, 6, .inl (fun _ => 0))), (km, .inl (cI, 6, .inl (fun _ => 0))), (kd, .inl (cI, 6, .inl (fun _ => 0))), (ka, .inl (cI, 8, .inl (fun _ => 0))), (kk, .inl (cI, 8, .inl (fun _ => 0)))] := hD
  refine lv_aload_n hx hb dX0_copyFrom_79 rfl (lv_at hl 2 rfl) ?_
  refine va_get (D := (dC, dI)) (ci := 0) (v := .ref kq) (C := RX0) (T := TX0) (N := 12) hx hb hts hin0 hown hK hP 9 rfl rfl 6 (by decide) hw10 (fun _ h9 => h9) rfl dX0_copyFrom_80 ?_
  refine lv_iconst (v := 0) hx hb dX0_copyFrom_83 (by decide) ?_
  refine lv_aload_n hx hb dX0_copyFrom_84 rfl (lv_at hl 1 rfl) ?_
  refine va_get (D := (dC, dI)) (ci := 0) (v := .ref zq) (C := RX0) (T := TX0) (N := 12) hx hb hts hin0 hown hK hP 0 rfl rfl 6 (by decide) hw10 (fun _ h9 => h9) rfl dX0_copyFrom_85 ?_
  refine lv_iconst (v := 0) hx hb dX0_copyFrom_88 (by decide) ?_
  refine lv_bipush (v := 6) hx hb dX0_copyFrom_89 (by decide) ?_
  refine va_copyi (ty := .int) hx hb (hml.trans hl.1.symm) hown hw1 hw2 hw3 hw4 hK hP hD hS 13 4 0 0 rfl rfl rfl rfl rfl (by decide) (by decide) (by decide) (by decide) (by decide) (fun _ _ => rfl) (Nat.le_of_ble_eq_true rfl) (Nat.le_of_ble_eq_true rfl) dX0_copyFrom_91 (fun H locs hP hD hS => ?_)
  replace hP : va_P (dC, dI) vwCl [(z, .inr (0, [.ref zs, .ref zw, .ref zc, .int (-6), .int 0, .int 0, .ref zq, .ref zm, .ref zd, .int 0, .ref za, .ref zk])), (zs, .inl (cI, 5, .inl (va_cpy (upd (fun _ => 0) 0 800) (upd (fun _ => 0) 0 800) 0 0 5))), (zw, .inl (cI, 14, .inl (va_cpy (fun _ => 0) (fun _ => 0) 0 0 14))), (zc, .inl (cZ, 14, .inl (upd (upd (upd (upd (upd (upd (upd (upd (upd (upd (upd (upd (upd (upd (fun _ => 0) 0 0) 1 0) 2 0) 3 0) 4 0) 5 0) 6 0) 7 0) 8 0) 9 0) 10 0) 11 0) 12 0) 13 0))), (zq, .inl (cI, 6, .inl (va_cpy (fun _ => 0) (fun _ => 0) 0 0 6))), (zm, .inl (cI, 6, .inl (fun _ => 0))), (zd, .inl (cI, 6, .inl (fun _ => 0))), (za, .inl (cI, 8, .inl (fun _ => 0))), (zk, .inl (cI, 8, .inl (fun _ => 0))), (k, .inr (0, [.ref ks, .ref kw, .ref kc, .int (-6), .int 0, .int 0, .ref kq, .ref km, .ref kd, .int 0, .ref ka, .ref kk])), (ks, .inl (cI, 5, .inl (upd (fun _ => 0) 0 800))), (kw, .inl (cI, 14, .inl (fun _ => 0))), (kc, .inl (cZ, 14, .inl (fun _ => 0))), (kq, .inl (cI, 6, .inl (fun _ => 0))), (km, .inl (cI, 6, .inl (fun _ => 0))), (kd, .inl (cI, 6, .inl (fun _ => 0))), (ka, .inl (cI, 8, .inl (fun _ => 0))), (kk, .inl (cI, 8, .inl (fun _ => 0)))] H := hP
  replace hD : va_D A [(z, .inr (0, [.ref zs, .ref zw, .ref zc, .int (-6), .int 0, .int 0, .ref zq, .ref zm, .ref zd, .int 0, .ref za, .ref zk])), (zs, .inl (cI, 5, .inl (va_cpy (upd (fun _ => 0) 0 800) (upd (fun _ => 0) 0 800) 0 0 5))), (zw, .inl (cI, 14, .inl (va_cpy (fun _ => 0) (fun _ => 0) 0 0 14))), (zc, .inl (cZ, 14, .inl (upd (upd (upd (upd (upd (upd (upd (upd (upd (upd (upd (upd (upd (upd (fun _ => 0) 0 0) 1 0) 2 0) 3 0) 4 0) 5 0) 6 0) 7 0) 8 0) 9 0) 10 0) 11 0) 12 0) 13 0))), (zq, .inl (cI, 6, .inl (va_cpy (fun _ => 0) (fun _ => 0) 0 0 6))), (zm, .inl (cI, 6, .inl (fun _ => 0))), (zd, .inl (cI, 6, .inl (fun _ => 0))), (za, .inl (cI, 8, .inl (fun _ => 0))), (zk, .inl (cI, 8, .inl (fun _ => 0))), (k, .inr (0, [.ref ks, .ref kw, .ref kc, .int (-6), .int 0, .int 0, .ref kq, .ref km, .ref kd, .int 0, .ref ka, .ref kk])), (ks, .inl (cI, 5, .inl (upd (fun _ => 0) 0 800))), (kw, .inl (cI, 14, .inl (fun _ => 0))), (kc, .inl (cZ, 14, .inl (fun _ => 0))), (kq, .inl (cI, 6, .inl (fun _ => 0))), (km, .inl (cI, 6, .inl (fun _ => 0))), (kd, .inl (cI, 6, .inl (fun _ => 0))), (ka, .inl (cI, 8, .inl (fun _ => 0))), (kk, .inl (cI, 8, .inl (fun _ => 0)))] := hD
  refine lv_aload_n hx hb dX0_copyFrom_94 rfl (lv_at hl 2 rfl) ?_
  refine va_get (D := (dC, dI)) (ci := 0) (v := .ref km) (C := RX0) (T := TX0) (N := 12) hx hb hts hin0 hown hK hP 9 rfl rfl 7 (by decide) hw11 (fun _ h9 => h9) rfl dX0_copyFrom_95 ?_
  refine lv_iconst (v := 0) hx hb dX0_copyFrom_98 (by decide) ?_
  refine lv_aload_n hx hb dX0_copyFrom_99 rfl (lv_at hl 1 rfl) ?_
  refine va_get (D := (dC, dI)) (ci := 0) (v := .ref zm) (C := RX0) (T := TX0) (N := 12) hx hb hts hin0 hown hK hP 0 rfl rfl 7 (by decide) hw11 (fun _ h9 => h9) rfl dX0_copyFrom_100 ?_
  refine lv_iconst (v := 0) hx hb dX0_copyFrom_103 (by decide) ?_
  refine lv_bipush (v := 6) hx hb dX0_copyFrom_104 (by decide) ?_
  refine va_copyi (ty := .int) hx hb (hml.trans hl.1.symm) hown hw1 hw2 hw3 hw4 hK hP hD hS 14 5 0 0 rfl rfl rfl rfl rfl (by decide) (by decide) (by decide) (by decide) (by decide) (fun _ _ => rfl) (Nat.le_of_ble_eq_true rfl) (Nat.le_of_ble_eq_true rfl) dX0_copyFrom_106 (fun H locs hP hD hS => ?_)
  replace hP : va_P (dC, dI) vwCl [(z, .inr (0, [.ref zs, .ref zw, .ref zc, .int (-6), .int 0, .int 0, .ref zq, .ref zm, .ref zd, .int 0, .ref za, .ref zk])), (zs, .inl (cI, 5, .inl (va_cpy (upd (fun _ => 0) 0 800) (upd (fun _ => 0) 0 800) 0 0 5))), (zw, .inl (cI, 14, .inl (va_cpy (fun _ => 0) (fun _ => 0) 0 0 14))), (zc, .inl (cZ, 14, .inl (upd (upd (upd (upd (upd (upd (upd (upd (upd (upd (upd (upd (upd (upd (fun _ => 0) 0 0) 1 0) 2 0) 3 0) 4 0) 5 0) 6 0) 7 0) 8 0) 9 0) 10 0) 11 0) 12 0) 13 0))), (zq, .inl (cI, 6, .inl (va_cpy (fun _ => 0) (fun _ => 0) 0 0 6))), (zm, .inl (cI, 6, .inl (va_cpy (fun _ => 0) (fun _ => 0) 0 0 6))), (zd, .inl (cI, 6, .inl (fun _ => 0))), (za, .inl (cI, 8, .inl (fun _ => 0))), (zk, .inl (cI, 8, .inl (fun _ => 0))), (k, .inr (0, [.ref ks, .ref kw, .ref kc, .int (-6), .int 0, .int 0, .ref kq, .ref km, .ref kd, .int 0, .ref ka, .ref kk])), (ks, .inl (cI, 5, .inl (upd (fun _ => 0) 0 800))), (kw, .inl (cI, 14, .inl (fun _ => 0))), (kc, .inl (cZ, 14, .inl (fun _ => 0))), (kq, .inl (cI, 6, .inl (fun _ => 0))), (km, .inl (cI, 6, .inl (fun _ => 0))), (kd, .inl (cI, 6, .inl (fun _ => 0))), (ka, .inl (cI, 8, .inl (fun _ => 0))), (kk, .inl (cI, 8, .inl (fun _ => 0)))] H := hP
  replace hD : va_D A [(z, .inr (0, [.ref zs, .ref zw, .ref zc, .int (-6), .int 0, .int 0, .ref zq, .ref zm, .ref zd, .int 0, .ref za, .ref zk])), (zs, .inl (cI, 5, .inl (va_cpy (upd (fun _ => 0) 0 800) (upd (fun _ => 0) 0 800) 0 0 5))), (zw, .inl (cI, 14, .inl (va_cpy (fun _ => 0) (fun _ => 0) 0 0 14))), (zc, .inl (cZ, 14, .inl (upd (upd (upd (upd (upd (upd (upd (upd (upd (upd (upd (upd (upd (upd (fun _ => 0) 0 0) 1 0) 2 0) 3 0) 4 0) 5 0) 6 0) 7 0) 8 0) 9 0) 10 0) 11 0) 12 0) 13 0))), (zq, .inl (cI, 6, .inl (va_cpy (fun _ => 0) (fun _ => 0) 0 0 6))), (zm, .inl (cI, 6, .inl (va_cpy (fun _ => 0) (fun _ => 0) 0 0 6))), (zd, .inl (cI, 6, .inl (fun _ => 0))), (za, .inl (cI, 8, .inl (fun _ => 0))), (zk, .inl (cI, 8, .inl (fun _ => 0))), (k, .inr (0, [.ref ks, .ref kw, .ref kc, .int (-6), .int 0, .int 0, .ref kq, .ref km, .ref kd, .int 0, .ref ka, .ref kk])), (ks, .inl (cI, 5, .inl (upd (fun _ => 0) 0 800))), (kw, .inl (cI, 14, .inl (fun _ => 0))), (kc, .inl (cZ, 14, .inl (fun _ => 0))), (kq, .inl (cI, 6, .inl (fun _ => 0))), (km, .inl (cI, 6, .inl (fun _ => 0))), (kd, .inl (cI, 6, .inl (fun _ => 0))), (ka, .inl (cI, 8, .inl (fun _ => 0))), (kk, .inl (cI, 8, .inl (fun _ => 0)))] := hD
  refine lv_aload_n hx hb dX0_copyFrom_109 rfl (lv_at hl 2 rfl) ?_
  refine va_get (D := (dC, dI)) (ci := 0) (v := .ref kd) (C := RX0) (T := TX0) (N := 12) hx hb hts hin0 hown hK hP 9 rfl rfl 8 (by decide) hw12 (fun _ h9 => h9) rfl dX0_copyFrom_110 ?_
  refine lv_iconst (v := 0) hx hb dX0_copyFrom_113 (by decide) ?_
  refine lv_aload_n hx hb dX0_copyFrom_114 rfl (lv_at hl 1 rfl) ?_
  refine va_get (D := (dC, dI)) (ci := 0) (v := .ref zd) (C := RX0) (T := TX0) (N := 12) hx hb hts hin0 hown hK hP 0 rfl rfl 8 (by decide) hw12 (fun _ h9 => h9) rfl dX0_copyFrom_115 ?_
  refine lv_iconst (v := 0) hx hb dX0_copyFrom_118 (by decide) ?_
  refine lv_bipush (v := 6) hx hb dX0_copyFrom_119 (by decide) ?_
  refine va_copyi (ty := .int) hx hb (hml.trans hl.1.symm) hown hw1 hw2 hw3 hw4 hK hP hD hS 15 6 0 0 rfl rfl rfl rfl rfl (by decide) (by decide) (by decide) (by decide) (by decide) (fun _ _ => rfl) (Nat.le_of_ble_eq_true rfl) (Nat.le_of_ble_eq_true rfl) dX0_copyFrom_121 (fun H locs hP hD hS => ?_)
  replace hP : va_P (dC, dI) vwCl [(z, .inr (0, [.ref zs, .ref zw, .ref zc, .int (-6), .int 0, .int 0, .ref zq, .ref zm, .ref zd, .int 0, .ref za, .ref zk])), (zs, .inl (cI, 5, .inl (va_cpy (upd (fun _ => 0) 0 800) (upd (fun _ => 0) 0 800) 0 0 5))), (zw, .inl (cI, 14, .inl (va_cpy (fun _ => 0) (fun _ => 0) 0 0 14))), (zc, .inl (cZ, 14, .inl (upd (upd (upd (upd (upd (upd (upd (upd (upd (upd (upd (upd (upd (upd (fun _ => 0) 0 0) 1 0) 2 0) 3 0) 4 0) 5 0) 6 0) 7 0) 8 0) 9 0) 10 0) 11 0) 12 0) 13 0))), (zq, .inl (cI, 6, .inl (va_cpy (fun _ => 0) (fun _ => 0) 0 0 6))), (zm, .inl (cI, 6, .inl (va_cpy (fun _ => 0) (fun _ => 0) 0 0 6))), (zd, .inl (cI, 6, .inl (va_cpy (fun _ => 0) (fun _ => 0) 0 0 6))), (za, .inl (cI, 8, .inl (fun _ => 0))), (zk, .inl (cI, 8, .inl (fun _ => 0))), (k, .inr (0, [.ref ks, .ref kw, .ref kc, .int (-6), .int 0, .int 0, .ref kq, .ref km, .ref kd, .int 0, .ref ka, .ref kk])), (ks, .inl (cI, 5, .inl (upd (fun _ => 0) 0 800))), (kw, .inl (cI, 14, .inl (fun _ => 0))), (kc, .inl (cZ, 14, .inl (fun _ => 0))), (kq, .inl (cI, 6, .inl (fun _ => 0))), (km, .inl (cI, 6, .inl (fun _ => 0))), (kd, .inl (cI, 6, .inl (fun _ => 0))), (ka, .inl (cI, 8, .inl (fun _ => 0))), (kk, .inl (cI, 8, .inl (fun _ => 0)))] H := hP
  replace hD : va_D A [(z, .inr (0, [.ref zs, .ref zw, .ref zc, .int (-6), .int 0, .int 0, .ref zq, .ref zm, .ref zd, .int 0, .ref za, .ref zk])), (zs, .inl (cI, 5, .inl (va_cpy (upd (fun _ => 0) 0 800) (upd (fun _ => 0) 0 800) 0 0 5))), (zw, .inl (cI, 14, .inl (va_cpy (fun _ => 0) (fun _ => 0) 0 0 14))), (zc, .inl (cZ, 14, .inl (upd (upd (upd (upd (upd (upd (upd (upd (upd (upd (upd (upd (upd (upd (fun _ => 0) 0 0) 1 0) 2 0) 3 0) 4 0) 5 0) 6 0) 7 0) 8 0) 9 0) 10 0) 11 0) 12 0) 13 0))), (zq, .inl (cI, 6, .inl (va_cpy (fun _ => 0) (fun _ => 0) 0 0 6))), (zm, .inl (cI, 6, .inl (va_cpy (fun _ => 0) (fun _ => 0) 0 0 6))), (zd, .inl (cI, 6, .inl (va_cpy (fun _ => 0) (fun _ => 0) 0 0 6))), (za, .inl (cI, 8, .inl (fun _ => 0))), (zk, .inl (cI, 8, .inl (fun _ => 0))), (k, .inr (0, [.ref ks, .ref kw, .ref kc, .int (-6), .int 0, .int 0, .ref kq, .ref km, .ref kd, .int 0, .ref ka, .ref kk])), (ks, .inl (cI, 5, .inl (upd (fun _ => 0) 0 800))), (kw, .inl (cI, 14, .inl (fun _ => 0))), (kc, .inl (cZ, 14, .inl (fun _ => 0))), (kq, .inl (cI, 6, .inl (fun _ => 0))), (km, .inl (cI, 6, .inl (fun _ => 0))), (kd, .inl (cI, 6, .inl (fun _ => 0))), (ka, .inl (cI, 8, .inl (fun _ => 0))), (kk, .inl (cI, 8, .inl (fun _ => 0)))] := hD
  refine lv_aload_n hx hb dX0_copyFrom_124 rfl (lv_at hl 1 rfl) ?_
  refine lv_aload_n hx hb dX0_copyFrom_125 rfl (lv_at hl 2 rfl) ?_
  refine va_get (D := (dC, dI)) (ci := 0) (v := .int 0) (C := RX0) (T := TX0) (N := 12) hx hb hts hin0 hown hK hP 9 rfl rfl 9 (by decide) hw13 (fun _ h9 => h9) rfl dX0_copyFrom_126 ?_
  refine va_put (D := (dC, dI)) (ci := 0) (v := .int 0) (ty := .int) (C := RX0) (T := TX0) (N := 12) hx hb hts hin0 tyX0 tyX0_ok nmX0 hown hK hP hD hS 0 rfl rfl 9 (by decide) hw13 (fun _ h9 => h9) rfl (by decide +kernel) rfl rfl (Nat.le_of_ble_eq_true rfl) dX0_copyFrom_129 (fun H locs hP hD hS => ?_)
  replace hP : va_P (dC, dI) vwCl [(z, .inr (0, [.ref zs, .ref zw, .ref zc, .int (-6), .int 0, .int 0, .ref zq, .ref zm, .ref zd, .int 0, .ref za, .ref zk])), (zs, .inl (cI, 5, .inl (va_cpy (upd (fun _ => 0) 0 800) (upd (fun _ => 0) 0 800) 0 0 5))), (zw, .inl (cI, 14, .inl (va_cpy (fun _ => 0) (fun _ => 0) 0 0 14))), (zc, .inl (cZ, 14, .inl (upd (upd (upd (upd (upd (upd (upd (upd (upd (upd (upd (upd (upd (upd (fun _ => 0) 0 0) 1 0) 2 0) 3 0) 4 0) 5 0) 6 0) 7 0) 8 0) 9 0) 10 0) 11 0) 12 0) 13 0))), (zq, .inl (cI, 6, .inl (va_cpy (fun _ => 0) (fun _ => 0) 0 0 6))), (zm, .inl (cI, 6, .inl (va_cpy (fun _ => 0) (fun _ => 0) 0 0 6))), (zd, .inl (cI, 6, .inl (va_cpy (fun _ => 0) (fun _ => 0) 0 0 6))), (za, .inl (cI, 8, .inl (fun _ => 0))), (zk, .inl (cI, 8, .inl (fun _ => 0))), (k, .inr (0, [.ref ks, .ref kw, .ref kc, .int (-6), .int 0, .int 0, .ref kq, .ref km, .ref kd, .int 0, .ref ka, .ref kk])), (ks, .inl (cI, 5, .inl (upd (fun _ => 0) 0 800))), (kw, .inl (cI, 14, .inl (fun _ => 0))), (kc, .inl (cZ, 14, .inl (fun _ => 0))), (kq, .inl (cI, 6, .inl (fun _ => 0))), (km, .inl (cI, 6, .inl (fun _ => 0))), (kd, .inl (cI, 6, .inl (fun _ => 0))), (ka, .inl (cI, 8, .inl (fun _ => 0))), (kk, .inl (cI, 8, .inl (fun _ => 0)))] H := hP
  replace hD : va_D A [(z, .inr (0, [.ref zs, .ref zw, .ref zc, .int (-6), .int 0, .int 0, .ref zq, .ref zm, .ref zd, .int 0, .ref za, .ref zk])), (zs, .inl (cI, 5, .inl (va_cpy (upd (fun _ => 0) 0 800) (upd (fun _ => 0) 0 800) 0 0 5))), (zw, .inl (cI, 14, .inl (va_cpy (fun _ => 0) (fun _ => 0) 0 0 14))), (zc, .inl (cZ, 14, .inl (upd (upd (upd (upd (upd (upd (upd (upd (upd (upd (upd (upd (upd (upd (fun _ => 0) 0 0) 1 0) 2 0) 3 0) 4 0) 5 0) 6 0) 7 0) 8 0) 9 0) 10 0) 11 0) 12 0) 13 0))), (zq, .inl (cI, 6, .inl (va_cpy (fun _ => 0) (fun _ => 0) 0 0 6))), (zm, .inl (cI, 6, .inl (va_cpy (fun _ => 0) (fun _ => 0) 0 0 6))), (zd, .inl (cI, 6, .inl (va_cpy (fun _ => 0) (fun _ => 0) 0 0 6))), (za, .inl (cI, 8, .inl (fun _ => 0))), (zk, .inl (cI, 8, .inl (fun _ => 0))), (k, .inr (0, [.ref ks, .ref kw, .ref kc, .int (-6), .int 0, .int 0, .ref kq, .ref km, .ref kd, .int 0, .ref ka, .ref kk])), (ks, .inl (cI, 5, .inl (upd (fun _ => 0) 0 800))), (kw, .inl (cI, 14, .inl (fun _ => 0))), (kc, .inl (cZ, 14, .inl (fun _ => 0))), (kq, .inl (cI, 6, .inl (fun _ => 0))), (km, .inl (cI, 6, .inl (fun _ => 0))), (kd, .inl (cI, 6, .inl (fun _ => 0))), (ka, .inl (cI, 8, .inl (fun _ => 0))), (kk, .inl (cI, 8, .inl (fun _ => 0)))] := hD
  refine lv_aload_n hx hb dX0_copyFrom_132 rfl (lv_at hl 2 rfl) ?_
  refine va_get (D := (dC, dI)) (ci := 0) (v := .ref ka) (C := RX0) (T := TX0) (N := 12) hx hb hts hin0 hown hK hP 9 rfl rfl 10 (by decide) hw14 (fun _ h9 => h9) rfl dX0_copyFrom_133 ?_
  refine lv_iconst (v := 0) hx hb dX0_copyFrom_136 (by decide) ?_
  refine lv_aload_n hx hb dX0_copyFrom_137 rfl (lv_at hl 1 rfl) ?_
  refine va_get (D := (dC, dI)) (ci := 0) (v := .ref za) (C := RX0) (T := TX0) (N := 12) hx hb hts hin0 hown hK hP 0 rfl rfl 10 (by decide) hw14 (fun _ h9 => h9) rfl dX0_copyFrom_138 ?_
  refine lv_iconst (v := 0) hx hb dX0_copyFrom_141 (by decide) ?_
  refine lv_bipush (v := 8) hx hb dX0_copyFrom_142 (by decide) ?_
  refine va_copyi (ty := .int) hx hb (hml.trans hl.1.symm) hown hw1 hw2 hw3 hw4 hK hP hD hS 16 7 0 0 rfl rfl rfl rfl rfl (by decide) (by decide) (by decide) (by decide) (by decide) (fun _ _ => rfl) (Nat.le_of_ble_eq_true rfl) (Nat.le_of_ble_eq_true rfl) dX0_copyFrom_144 (fun H locs hP hD hS => ?_)
  replace hP : va_P (dC, dI) vwCl [(z, .inr (0, [.ref zs, .ref zw, .ref zc, .int (-6), .int 0, .int 0, .ref zq, .ref zm, .ref zd, .int 0, .ref za, .ref zk])), (zs, .inl (cI, 5, .inl (va_cpy (upd (fun _ => 0) 0 800) (upd (fun _ => 0) 0 800) 0 0 5))), (zw, .inl (cI, 14, .inl (va_cpy (fun _ => 0) (fun _ => 0) 0 0 14))), (zc, .inl (cZ, 14, .inl (upd (upd (upd (upd (upd (upd (upd (upd (upd (upd (upd (upd (upd (upd (fun _ => 0) 0 0) 1 0) 2 0) 3 0) 4 0) 5 0) 6 0) 7 0) 8 0) 9 0) 10 0) 11 0) 12 0) 13 0))), (zq, .inl (cI, 6, .inl (va_cpy (fun _ => 0) (fun _ => 0) 0 0 6))), (zm, .inl (cI, 6, .inl (va_cpy (fun _ => 0) (fun _ => 0) 0 0 6))), (zd, .inl (cI, 6, .inl (va_cpy (fun _ => 0) (fun _ => 0) 0 0 6))), (za, .inl (cI, 8, .inl (va_cpy (fun _ => 0) (fun _ => 0) 0 0 8))), (zk, .inl (cI, 8, .inl (fun _ => 0))), (k, .inr (0, [.ref ks, .ref kw, .ref kc, .int (-6), .int 0, .int 0, .ref kq, .ref km, .ref kd, .int 0, .ref ka, .ref kk])), (ks, .inl (cI, 5, .inl (upd (fun _ => 0) 0 800))), (kw, .inl (cI, 14, .inl (fun _ => 0))), (kc, .inl (cZ, 14, .inl (fun _ => 0))), (kq, .inl (cI, 6, .inl (fun _ => 0))), (km, .inl (cI, 6, .inl (fun _ => 0))), (kd, .inl (cI, 6, .inl (fun _ => 0))), (ka, .inl (cI, 8, .inl (fun _ => 0))), (kk, .inl (cI, 8, .inl (fun _ => 0)))] H := hP
  replace hD : va_D A [(z, .inr (0, [.ref zs, .ref zw, .ref zc, .int (-6), .int 0, .int 0, .ref zq, .ref zm, .ref zd, .int 0, .ref za, .ref zk])), (zs, .inl (cI, 5, .inl (va_cpy (upd (fun _ => 0) 0 800) (upd (fun _ => 0) 0 800) 0 0 5))), (zw, .inl (cI, 14, .inl (va_cpy (fun _ => 0) (fun _ => 0) 0 0 14))), (zc, .inl (cZ, 14, .inl (upd (upd (upd (upd (upd (upd (upd (upd (upd (upd (upd (upd (upd (upd (fun _ => 0) 0 0) 1 0) 2 0) 3 0) 4 0) 5 0) 6 0) 7 0) 8 0) 9 0) 10 0) 11 0) 12 0) 13 0))), (zq, .inl (cI, 6, .inl (va_cpy (fun _ => 0) (fun _ => 0) 0 0 6))), (zm, .inl (cI, 6, .inl (va_cpy (fun _ => 0) (fun _ => 0) 0 0 6))), (zd, .inl (cI, 6, .inl (va_cpy (fun _ => 0) (fun _ => 0) 0 0 6))), (za, .inl (cI, 8, .inl (va_cpy (fun _ => 0) (fun _ => 0) 0 0 8))), (zk, .inl (cI, 8, .inl (fun _ => 0))), (k, .inr (0, [.ref ks, .ref kw, .ref kc, .int (-6), .int 0, .int 0, .ref kq, .ref km, .ref kd, .int 0, .ref ka, .ref kk])), (ks, .inl (cI, 5, .inl (upd (fun _ => 0) 0 800))), (kw, .inl (cI, 14, .inl (fun _ => 0))), (kc, .inl (cZ, 14, .inl (fun _ => 0))), (kq, .inl (cI, 6, .inl (fun _ => 0))), (km, .inl (cI, 6, .inl (fun _ => 0))), (kd, .inl (cI, 6, .inl (fun _ => 0))), (ka, .inl (cI, 8, .inl (fun _ => 0))), (kk, .inl (cI, 8, .inl (fun _ => 0)))] := hD
  refine lv_aload_n hx hb dX0_copyFrom_147 rfl (lv_at hl 2 rfl) ?_
  refine va_get (D := (dC, dI)) (ci := 0) (v := .ref kk) (C := RX0) (T := TX0) (N := 12) hx hb hts hin0 hown hK hP 9 rfl rfl 11 (by decide) hw15 (fun _ h9 => h9) rfl dX0_copyFrom_148 ?_
  refine lv_iconst (v := 0) hx hb dX0_copyFrom_151 (by decide) ?_
  refine lv_aload_n hx hb dX0_copyFrom_152 rfl (lv_at hl 1 rfl) ?_
  refine va_get (D := (dC, dI)) (ci := 0) (v := .ref zk) (C := RX0) (T := TX0) (N := 12) hx hb hts hin0 hown hK hP 0 rfl rfl 11 (by decide) hw15 (fun _ h9 => h9) rfl dX0_copyFrom_153 ?_
  refine lv_iconst (v := 0) hx hb dX0_copyFrom_156 (by decide) ?_
  refine lv_bipush (v := 8) hx hb dX0_copyFrom_157 (by decide) ?_
  refine va_copyi (ty := .int) hx hb (hml.trans hl.1.symm) hown hw1 hw2 hw3 hw4 hK hP hD hS 17 8 0 0 rfl rfl rfl rfl rfl (by decide) (by decide) (by decide) (by decide) (by decide) (fun _ _ => rfl) (Nat.le_of_ble_eq_true rfl) (Nat.le_of_ble_eq_true rfl) dX0_copyFrom_159 (fun H locs hP hD hS => ?_)
  replace hP : va_P (dC, dI) vwCl [(z, .inr (0, [.ref zs, .ref zw, .ref zc, .int (-6), .int 0, .int 0, .ref zq, .ref zm, .ref zd, .int 0, .ref za, .ref zk])), (zs, .inl (cI, 5, .inl (va_cpy (upd (fun _ => 0) 0 800) (upd (fun _ => 0) 0 800) 0 0 5))), (zw, .inl (cI, 14, .inl (va_cpy (fun _ => 0) (fun _ => 0) 0 0 14))), (zc, .inl (cZ, 14, .inl (upd (upd (upd (upd (upd (upd (upd (upd (upd (upd (upd (upd (upd (upd (fun _ => 0) 0 0) 1 0) 2 0) 3 0) 4 0) 5 0) 6 0) 7 0) 8 0) 9 0) 10 0) 11 0) 12 0) 13 0))), (zq, .inl (cI, 6, .inl (va_cpy (fun _ => 0) (fun _ => 0) 0 0 6))), (zm, .inl (cI, 6, .inl (va_cpy (fun _ => 0) (fun _ => 0) 0 0 6))), (zd, .inl (cI, 6, .inl (va_cpy (fun _ => 0) (fun _ => 0) 0 0 6))), (za, .inl (cI, 8, .inl (va_cpy (fun _ => 0) (fun _ => 0) 0 0 8))), (zk, .inl (cI, 8, .inl (va_cpy (fun _ => 0) (fun _ => 0) 0 0 8))), (k, .inr (0, [.ref ks, .ref kw, .ref kc, .int (-6), .int 0, .int 0, .ref kq, .ref km, .ref kd, .int 0, .ref ka, .ref kk])), (ks, .inl (cI, 5, .inl (upd (fun _ => 0) 0 800))), (kw, .inl (cI, 14, .inl (fun _ => 0))), (kc, .inl (cZ, 14, .inl (fun _ => 0))), (kq, .inl (cI, 6, .inl (fun _ => 0))), (km, .inl (cI, 6, .inl (fun _ => 0))), (kd, .inl (cI, 6, .inl (fun _ => 0))), (ka, .inl (cI, 8, .inl (fun _ => 0))), (kk, .inl (cI, 8, .inl (fun _ => 0)))] H := hP
  replace hD : va_D A [(z, .inr (0, [.ref zs, .ref zw, .ref zc, .int (-6), .int 0, .int 0, .ref zq, .ref zm, .ref zd, .int 0, .ref za, .ref zk])), (zs, .inl (cI, 5, .inl (va_cpy (upd (fun _ => 0) 0 800) (upd (fun _ => 0) 0 800) 0 0 5))), (zw, .inl (cI, 14, .inl (va_cpy (fun _ => 0) (fun _ => 0) 0 0 14))), (zc, .inl (cZ, 14, .inl (upd (upd (upd (upd (upd (upd (upd (upd (upd (upd (upd (upd (upd (upd (fun _ => 0) 0 0) 1 0) 2 0) 3 0) 4 0) 5 0) 6 0) 7 0) 8 0) 9 0) 10 0) 11 0) 12 0) 13 0))), (zq, .inl (cI, 6, .inl (va_cpy (fun _ => 0) (fun _ => 0) 0 0 6))), (zm, .inl (cI, 6, .inl (va_cpy (fun _ => 0) (fun _ => 0) 0 0 6))), (zd, .inl (cI, 6, .inl (va_cpy (fun _ => 0) (fun _ => 0) 0 0 6))), (za, .inl (cI, 8, .inl (va_cpy (fun _ => 0) (fun _ => 0) 0 0 8))), (zk, .inl (cI, 8, .inl (va_cpy (fun _ => 0) (fun _ => 0) 0 0 8))), (k, .inr (0, [.ref ks, .ref kw, .ref kc, .int (-6), .int 0, .int 0, .ref kq, .ref km, .ref kd, .int 0, .ref ka, .ref kk])), (ks, .inl (cI, 5, .inl (upd (fun _ => 0) 0 800))), (kw, .inl (cI, 14, .inl (fun _ => 0))), (kc, .inl (cZ, 14, .inl (fun _ => 0))), (kq, .inl (cI, 6, .inl (fun _ => 0))), (km, .inl (cI, 6, .inl (fun _ => 0))), (kd, .inl (cI, 6, .inl (fun _ => 0))), (ka, .inl (cI, 8, .inl (fun _ => 0))), (kk, .inl (cI, 8, .inl (fun _ => 0)))] := hD
  have hP9 := mx_subP (wc := []) hP [] rfl
  have hD9 := hD.sub (ws' := []) [] (by decide) rfl
  exact W.vret hx hb hr (fun t ht hW => ⟨⟨(), rfl, trivial, by rw [ht]; exact hP9, hD9⟩, hS.F ht⟩) hS.2.2 dX0_copyFrom_162
set_option maxHeartbeats 4000000 in
set_option maxRecDepth 100000 in
theorem c_X7_image (l : Launch) (dC : Nat → ClassId) (dI : Nat → Nat → Nat) (cI cZ cK : ClassId) (tS aK aV : Nat) (h : Nat) (o : Nat) (f : Nat) (g : Nat) (wk : Nat) (im : Nat) (kt : Nat) (dl : Nat) (j : Nat) (k : Nat) (ks : Nat) (kw : Nat) (kc : Nat) (kq : Nat) (km : Nat) (kd : Nat) (ka : Nat) (kk : Nat) (d : Nat) (y : Nat) (ys : Nat) (yw : Nat) (yc : Nat) (yq : Nat) (ym : Nat) (yd : Nat) (ya : Nat) (yk : Nat) (z : Nat) (zs : Nat) (zw : Nat) (zc : Nat) (zq : Nat) (zm : Nat) (zd : Nat) (za : Nat) (zk : Nat) (i0 : Int32) (sz : Nat) : Ci l yX7_image (wq yX7_image cX7_image 2 (some .int)) ({ frames := 2, cells := 0, slots := 0, locals := 82 }) dC dI cI cZ cK tS aK aV [.ref h, .int i0] sz [(h, .inr (7, [.ref k, .ref d, .ref j, .ref o, .ref f, .ref g, .ref wk, .ref im, .ref kt, .ref dl])), (k, .inr (0, [.ref ks, .ref kw, .ref kc, .int (-6), .int 0, .int 0, .ref kq, .ref km, .ref kd, .int 0, .ref ka, .ref kk])), (ks, .inl (cI, 5, .inl (upd (fun _ => 0) 0 800))), (kw, .inl (cI, 14, .inl (fun _ => 0))), (kc, .inl (cZ, 14, .inl (fun _ => 0))), (kq, .inl (cI, 6, .inl (fun _ => 0))), (km, .inl (cI, 6, .inl (fun _ => 0))), (kd, .inl (cI, 6, .inl (fun _ => 0))), (ka, .inl (cI, 8, .inl (fun _ => 0))), (kk, .inl (cI, 8, .inl (fun _ => 0))), (im, .inl (cK, 2, .inr (.inr (.inr (.inr (va_up (va_up (fun _ => none) 0 (some y)) 1 (some z))))))), (kt, .inl (cZ, 2, .inl (fun _ => 0))), (y, .inr (0, [.ref ys, .ref yw, .ref yc, .int (-6), .int 0, .int 0, .ref yq, .ref ym, .ref yd, .int 0, .ref ya, .ref yk])), (ys, .inl (cI, 5, .inl (upd (fun _ => 0) 0 800))), (yw, .inl (cI, 14, .inl (fun _ => 0))), (yc, .inl (cZ, 14, .inl (fun _ => 0))), (yq, .inl (cI, 6, .inl (fun _ => 0))), (ym, .inl (cI, 6, .inl (fun _ => 0))), (yd, .inl (cI, 6, .inl (fun _ => 0))), (ya, .inl (cI, 8, .inl (fun _ => 0))), (yk, .inl (cI, 8, .inl (fun _ => 0))), (z, .inr (0, [.ref zs, .ref zw, .ref zc, .int (-6), .int 0, .int 0, .ref zq, .ref zm, .ref zd, .int 0, .ref za, .ref zk])), (zs, .inl (cI, 5, .inl (upd (fun _ => 0) 0 800))), (zw, .inl (cI, 14, .inl (fun _ => 0))), (zc, .inl (cZ, 14, .inl (fun _ => 0))), (zq, .inl (cI, 6, .inl (fun _ => 0))), (zm, .inl (cI, 6, .inl (fun _ => 0))), (zd, .inl (cI, 6, .inl (fun _ => 0))), (za, .inl (cI, 8, .inl (fun _ => 0))), (zk, .inl (cI, 8, .inl (fun _ => 0)))] (fun (r : Int32) (_ : Unit) => (r = 1 ∧ (0 ≤ i0.toInt ∧ i0.toInt ≤ 1)) ∨ (r = (-2) ∧ (i0.toInt < 0 ∨ 1 < i0.toInt))) (fun _ => []) := by
  refine Met.ofW (cc := cX7_image) (maxL := 2) (ret := (some .int)) (by decide) rfl ?_
  intro p e s m args below meth c s₁ B hml hv
  obtain ⟨rfl, hsz, hP, hKx, hD0⟩ := hv
  have hx := B.exec
  have hb := B.bytes
  have hr := B.returns
  have hts := atoms_spec (ws := wq yX7_image cX7_image 2 (some .int)) B.pre
  have hown : s.vm.findClass RX7 = some m.cls := findClass_of_methodNamed B.named
  have hlocks := B.notSynchronized
  subst hsz
  have hD := hD0.self (sz := s.heap.size)
  generalize hAe : va_A [(h, .inr (7, [.ref k, .ref d, .ref j, .ref o, .ref f, .ref g, .ref wk, .ref im, .ref kt, .ref dl])), (k, .inr (0, [.ref ks, .ref kw, .ref kc, .int (-6), .int 0, .int 0, .ref kq, .ref km, .ref kd, .int 0, .ref ka, .ref kk])), (ks, .inl (cI, 5, .inl (upd (fun _ => 0) 0 800))), (kw, .inl (cI, 14, .inl (fun _ => 0))), (kc, .inl (cZ, 14, .inl (fun _ => 0))), (kq, .inl (cI, 6, .inl (fun _ => 0))), (km, .inl (cI, 6, .inl (fun _ => 0))), (kd, .inl (cI, 6, .inl (fun _ => 0))), (ka, .inl (cI, 8, .inl (fun _ => 0))), (kk, .inl (cI, 8, .inl (fun _ => 0))), (im, .inl (cK, 2, .inr (.inr (.inr (.inr (va_up (va_up (fun _ => none) 0 (some y)) 1 (some z))))))), (kt, .inl (cZ, 2, .inl (fun _ => 0))), (y, .inr (0, [.ref ys, .ref yw, .ref yc, .int (-6), .int 0, .int 0, .ref yq, .ref ym, .ref yd, .int 0, .ref ya, .ref yk])), (ys, .inl (cI, 5, .inl (upd (fun _ => 0) 0 800))), (yw, .inl (cI, 14, .inl (fun _ => 0))), (yc, .inl (cZ, 14, .inl (fun _ => 0))), (yq, .inl (cI, 6, .inl (fun _ => 0))), (ym, .inl (cI, 6, .inl (fun _ => 0))), (yd, .inl (cI, 6, .inl (fun _ => 0))), (ya, .inl (cI, 8, .inl (fun _ => 0))), (yk, .inl (cI, 8, .inl (fun _ => 0))), (z, .inr (0, [.ref zs, .ref zw, .ref zc, .int (-6), .int 0, .int 0, .ref zq, .ref zm, .ref zd, .int 0, .ref za, .ref zk])), (zs, .inl (cI, 5, .inl (upd (fun _ => 0) 0 800))), (zw, .inl (cI, 14, .inl (fun _ => 0))), (zc, .inl (cZ, 14, .inl (fun _ => 0))), (zq, .inl (cI, 6, .inl (fun _ => 0))), (zm, .inl (cI, 6, .inl (fun _ => 0))), (zd, .inl (cI, 6, .inl (fun _ => 0))), (za, .inl (cI, 8, .inl (fun _ => 0))), (zk, .inl (cI, 8, .inl (fun _ => 0)))] s.heap.size = A at hD hKx ⊢
  have hA : ∀ q : Nat, s.heap.size ≤ q → A q := fun q h => by rw [← hAe]; exact Or.inr h
  have hS : va_S A s.heap s.heap [] := va_S.rf
  have hP : va_P (dC, dI) vwCl [(h, .inr (7, [.ref k, .ref d, .ref j, .ref o, .ref f, .ref g, .ref wk, .ref im, .ref kt, .ref dl])), (k, .inr (0, [.ref ks, .ref kw, .ref kc, .int (-6), .int 0, .int 0, .ref kq, .ref km, .ref kd, .int 0, .ref ka, .ref kk])), (ks, .inl (cI, 5, .inl (upd (fun _ => 0) 0 800))), (kw, .inl (cI, 14, .inl (fun _ => 0))), (kc, .inl (cZ, 14, .inl (fun _ => 0))), (kq, .inl (cI, 6, .inl (fun _ => 0))), (km, .inl (cI, 6, .inl (fun _ => 0))), (kd, .inl (cI, 6, .inl (fun _ => 0))), (ka, .inl (cI, 8, .inl (fun _ => 0))), (kk, .inl (cI, 8, .inl (fun _ => 0))), (im, .inl (cK, 2, .inr (.inr (.inr (.inr (va_up (va_up (fun _ => none) 0 (some y)) 1 (some z))))))), (kt, .inl (cZ, 2, .inl (fun _ => 0))), (y, .inr (0, [.ref ys, .ref yw, .ref yc, .int (-6), .int 0, .int 0, .ref yq, .ref ym, .ref yd, .int 0, .ref ya, .ref yk])), (ys, .inl (cI, 5, .inl (upd (fun _ => 0) 0 800))), (yw, .inl (cI, 14, .inl (fun _ => 0))), (yc, .inl (cZ, 14, .inl (fun _ => 0))), (yq, .inl (cI, 6, .inl (fun _ => 0))), (ym, .inl (cI, 6, .inl (fun _ => 0))), (yd, .inl (cI, 6, .inl (fun _ => 0))), (ya, .inl (cI, 8, .inl (fun _ => 0))), (yk, .inl (cI, 8, .inl (fun _ => 0))), (z, .inr (0, [.ref zs, .ref zw, .ref zc, .int (-6), .int 0, .int 0, .ref zq, .ref zm, .ref zd, .int 0, .ref za, .ref zk])), (zs, .inl (cI, 5, .inl (upd (fun _ => 0) 0 800))), (zw, .inl (cI, 14, .inl (fun _ => 0))), (zc, .inl (cZ, 14, .inl (fun _ => 0))), (zq, .inl (cI, 6, .inl (fun _ => 0))), (zm, .inl (cI, 6, .inl (fun _ => 0))), (zd, .inl (cI, 6, .inl (fun _ => 0))), (za, .inl (cI, 8, .inl (fun _ => 0))), (zk, .inl (cI, 8, .inl (fun _ => 0)))] s.heap := hP
  have hl := lv_entry ([.ref h, .int i0]) (n := 2) (Nat.le_of_ble_eq_true rfl)
  rw [lg_entry_eq]
  generalize (lg_sl ([.ref h, .int i0]) ++ List.replicate (2 - (lg_sl ([.ref h, .int i0])).length) Slot.unset).toArray = ls at hl ⊢
  have hl : lv_has ls 2 [(0, .ref h), (1, .int i0)] := hl
  have hK := hKx.1
  have hin7 := fun w9 h9 => List.mem_cons_of_mem (Cond.code yX7_image cX7_image 2 (some .int)) (inlX7 w9 h9)
  have hw0 := hts (.fieldLink RX7 64 "OneCan" "images" "[LOneCan$Camp;") (List.mem_cons_of_mem _ wm_133)
  have hw1 := hts (.fieldLink RX7 12 "OneCan" "camp" "LOneCan$Camp;") (List.mem_cons_of_mem _ wm_69)
  have hw2 := hts (.fieldLink RX7 68 "OneCan" "kept" "[Z") (List.mem_cons_of_mem _ wm_138)
  refine lv_iload_n hx hb dX7_image_0 rfl (lv_at hl 1 rfl) ?_
  refine lv_iconst (v := 0) hx hb dX7_image_1 (by decide) ?_
  refine lv_iconst (v := 1) hx hb dX7_image_2 (by decide) ?_
  refine mx_i (wr := [(h, .inr (7, [.ref k, .ref d, .ref j, .ref o, .ref f, .ref g, .ref wk, .ref im, .ref kt, .ref dl])), (k, .inr (0, [.ref ks, .ref kw, .ref kc, .int (-6), .int 0, .int 0, .ref kq, .ref km, .ref kd, .int 0, .ref ka, .ref kk])), (ks, .inl (cI, 5, .inl (upd (fun _ => 0) 0 800))), (kw, .inl (cI, 14, .inl (fun _ => 0))), (kc, .inl (cZ, 14, .inl (fun _ => 0))), (kq, .inl (cI, 6, .inl (fun _ => 0))), (km, .inl (cI, 6, .inl (fun _ => 0))), (kd, .inl (cI, 6, .inl (fun _ => 0))), (ka, .inl (cI, 8, .inl (fun _ => 0))), (kk, .inl (cI, 8, .inl (fun _ => 0))), (im, .inl (cK, 2, .inr (.inr (.inr (.inr (va_up (va_up (fun _ => none) 0 (some y)) 1 (some z))))))), (kt, .inl (cZ, 2, .inl (fun _ => 0))), (y, .inr (0, [.ref ys, .ref yw, .ref yc, .int (-6), .int 0, .int 0, .ref yq, .ref ym, .ref yd, .int 0, .ref ya, .ref yk])), (ys, .inl (cI, 5, .inl (upd (fun _ => 0) 0 800))), (yw, .inl (cI, 14, .inl (fun _ => 0))), (yc, .inl (cZ, 14, .inl (fun _ => 0))), (yq, .inl (cI, 6, .inl (fun _ => 0))), (ym, .inl (cI, 6, .inl (fun _ => 0))), (yd, .inl (cI, 6, .inl (fun _ => 0))), (ya, .inl (cI, 8, .inl (fun _ => 0))), (yk, .inl (cI, 8, .inl (fun _ => 0))), (z, .inr (0, [.ref zs, .ref zw, .ref zc, .int (-6), .int 0, .int 0, .ref zq, .ref zm, .ref zd, .int 0, .ref za, .ref zk])), (zs, .inl (cI, 5, .inl (upd (fun _ => 0) 0 800))), (zw, .inl (cI, 14, .inl (fun _ => 0))), (zc, .inl (cZ, 14, .inl (fun _ => 0))), (zq, .inl (cI, 6, .inl (fun _ => 0))), (zm, .inl (cI, 6, .inl (fun _ => 0))), (zd, .inl (cI, 6, .inl (fun _ => 0))), (za, .inl (cI, 8, .inl (fun _ => 0))), (zk, .inl (cI, 8, .inl (fun _ => 0)))]) (va_runS (As := [.int i0, .int 0, .int 1]) (rest := []) ⟨hx, hb, hml, hown, hts⟩ (c_X7_isIn l dC dI cI cZ cK tS aK aV i0 0 1 s.heap.size) (va_cwS 3 hts (gw_s (fun _ h9 => List.mem_cons_of_mem _ h9) wm_0 wm_1 wm_2 wm_3) rfl rfl rfl (by decide +kernel) ⟨Nat.le_of_ble_eq_true rfl, Nat.le_of_ble_eq_true rfl⟩) (mx_preS hKx hP hD hS hA [] (by decide) rfl) rfl rfl hl.1 rfl (lv_room (Nat.le_of_ble_eq_true rfl)) dX7_image_3 ⟨Nat.le_of_ble_eq_true rfl, Nat.le_of_ble_eq_true rfl⟩) hP hD hS hA [] [0, 1, 2, 3, 4, 5, 6, 7, 8, 9, 10, 11, 12, 13, 14, 15, 16, 17, 18, 19, 20, 21, 22, 23, 24, 25, 26, 27, 28, 29] rfl rfl (by decide) (by decide) (fun r1 u1 H locs hq1 hP hD hS => ?_)
  replace hP : va_P (dC, dI) vwCl [(h, .inr (7, [.ref k, .ref d, .ref j, .ref o, .ref f, .ref g, .ref wk, .ref im, .ref kt, .ref dl])), (k, .inr (0, [.ref ks, .ref kw, .ref kc, .int (-6), .int 0, .int 0, .ref kq, .ref km, .ref kd, .int 0, .ref ka, .ref kk])), (ks, .inl (cI, 5, .inl (upd (fun _ => 0) 0 800))), (kw, .inl (cI, 14, .inl (fun _ => 0))), (kc, .inl (cZ, 14, .inl (fun _ => 0))), (kq, .inl (cI, 6, .inl (fun _ => 0))), (km, .inl (cI, 6, .inl (fun _ => 0))), (kd, .inl (cI, 6, .inl (fun _ => 0))), (ka, .inl (cI, 8, .inl (fun _ => 0))), (kk, .inl (cI, 8, .inl (fun _ => 0))), (im, .inl (cK, 2, .inr (.inr (.inr (.inr (va_up (va_up (fun _ => none) 0 (some y)) 1 (some z))))))), (kt, .inl (cZ, 2, .inl (fun _ => 0))), (y, .inr (0, [.ref ys, .ref yw, .ref yc, .int (-6), .int 0, .int 0, .ref yq, .ref ym, .ref yd, .int 0, .ref ya, .ref yk])), (ys, .inl (cI, 5, .inl (upd (fun _ => 0) 0 800))), (yw, .inl (cI, 14, .inl (fun _ => 0))), (yc, .inl (cZ, 14, .inl (fun _ => 0))), (yq, .inl (cI, 6, .inl (fun _ => 0))), (ym, .inl (cI, 6, .inl (fun _ => 0))), (yd, .inl (cI, 6, .inl (fun _ => 0))), (ya, .inl (cI, 8, .inl (fun _ => 0))), (yk, .inl (cI, 8, .inl (fun _ => 0))), (z, .inr (0, [.ref zs, .ref zw, .ref zc, .int (-6), .int 0, .int 0, .ref zq, .ref zm, .ref zd, .int 0, .ref za, .ref zk])), (zs, .inl (cI, 5, .inl (upd (fun _ => 0) 0 800))), (zw, .inl (cI, 14, .inl (fun _ => 0))), (zc, .inl (cZ, 14, .inl (fun _ => 0))), (zq, .inl (cI, 6, .inl (fun _ => 0))), (zm, .inl (cI, 6, .inl (fun _ => 0))), (zd, .inl (cI, 6, .inl (fun _ => 0))), (za, .inl (cI, 8, .inl (fun _ => 0))), (zk, .inl (cI, 8, .inl (fun _ => 0)))] H := hP
  replace hD : va_D A [(h, .inr (7, [.ref k, .ref d, .ref j, .ref o, .ref f, .ref g, .ref wk, .ref im, .ref kt, .ref dl])), (k, .inr (0, [.ref ks, .ref kw, .ref kc, .int (-6), .int 0, .int 0, .ref kq, .ref km, .ref kd, .int 0, .ref ka, .ref kk])), (ks, .inl (cI, 5, .inl (upd (fun _ => 0) 0 800))), (kw, .inl (cI, 14, .inl (fun _ => 0))), (kc, .inl (cZ, 14, .inl (fun _ => 0))), (kq, .inl (cI, 6, .inl (fun _ => 0))), (km, .inl (cI, 6, .inl (fun _ => 0))), (kd, .inl (cI, 6, .inl (fun _ => 0))), (ka, .inl (cI, 8, .inl (fun _ => 0))), (kk, .inl (cI, 8, .inl (fun _ => 0))), (im, .inl (cK, 2, .inr (.inr (.inr (.inr (va_up (va_up (fun _ => none) 0 (some y)) 1 (some z))))))), (kt, .inl (cZ, 2, .inl (fun _ => 0))), (y, .inr (0, [.ref ys, .ref yw, .ref yc, .int (-6), .int 0, .int 0, .ref yq, .ref ym, .ref yd, .int 0, .ref ya, .ref yk])), (ys, .inl (cI, 5, .inl (upd (fun _ => 0) 0 800))), (yw, .inl (cI, 14, .inl (fun _ => 0))), (yc, .inl (cZ, 14, .inl (fun _ => 0))), (yq, .inl (cI, 6, .inl (fun _ => 0))), (ym, .inl (cI, 6, .inl (fun _ => 0))), (yd, .inl (cI, 6, .inl (fun _ => 0))), (ya, .inl (cI, 8, .inl (fun _ => 0))), (yk, .inl (cI, 8, .inl (fun _ => 0))), (z, .inr (0, [.ref zs, .ref zw, .ref zc, .int (-6), .int 0, .int 0, .ref zq, .ref zm, .ref zd, .int 0, .ref za, .ref zk])), (zs, .inl (cI, 5, .inl (upd (fun _ => 0) 0 800))), (zw, .inl (cI, 14, .inl (fun _ => 0))), (zc, .inl (cZ, 14, .inl (fun _ => 0))), (zq, .inl (cI, 6, .inl (fun _ => 0))), (zm, .inl (cI, 6, .inl (fun _ => 0))), (zd, .inl (cI, 6, .inl (fun _ => 0))), (za, .inl (cI, 8, .inl (fun _ => 0))), (zk, .inl (cI, 8, .inl (fun _ => 0)))] := hD
  rcases hq1 with ⟨rfl, hf1⟩ | ⟨rfl, hf1⟩
  · have hf1 : (0 : Int) ≤ i0.toInt ∧ i0.toInt ≤ (1 : Int) := hf1
    refine lv_if_ne (tgt := 12) hx hb dX7_image_6 (by decide) (fun c2 => ?_) (fun c2 => absurd c2 (by decide))
    refine lv_aload_n hx hb dX7_image_12 rfl (lv_at hl 0 rfl) ?_
    rcases (show i0 = 0 ∨ i0 = 1 from by rcases (show i0.toInt = 0 ∨ i0.toInt = 1 by omega) with h9 | h9 <;> first | exact Or.inl (ceq h9) | exact Or.inr (ceq h9)) with rfl | rfl
    · have z9 : (0 : Int32).toInt = 0 := rfl
      refine va_get (D := (dC, dI)) (ci := 7) (v := .ref im) (C := RX7) (T := TX7) (N := 10) hx hb hts hin7 hown hK hP 0 rfl rfl 7 (by decide) hw0 (fun _ h9 => h9) rfl dX7_image_13 ?_
      refine lv_iload_n hx hb dX7_image_16 rfl (lv_at hl 1 rfl) ?_
      refine va_aldq hx hb hK hP 10 2 rfl rfl (vin (by decide) (by decide)) dX7_image_17 ?_
      refine W.eq (g2 := F0 m 18 ls [.ref y]) rfl ?_
      refine lv_aload_n hx hb dX7_image_18 rfl (lv_at hl 0 rfl) ?_
      refine va_get (D := (dC, dI)) (ci := 7) (v := .ref k) (C := RX7) (T := TX7) (N := 10) hx hb hts hin7 hown hK hP 0 rfl rfl 0 (by decide) hw1 (fun _ h9 => h9) rfl dX7_image_19 ?_
      refine mx_v (wr := [(h, .inr (7, [.ref k, .ref d, .ref j, .ref o, .ref f, .ref g, .ref wk, .ref im, .ref kt, .ref dl])), (im, .inl (cK, 2, .inr (.inr (.inr (.inr (va_up (va_up (fun _ => none) 0 (some y)) 1 (some z))))))), (kt, .inl (cZ, 2, .inl (fun _ => 0))), (z, .inr (0, [.ref zs, .ref zw, .ref zc, .int (-6), .int 0, .int 0, .ref zq, .ref zm, .ref zd, .int 0, .ref za, .ref zk])), (zs, .inl (cI, 5, .inl (upd (fun _ => 0) 0 800))), (zw, .inl (cI, 14, .inl (fun _ => 0))), (zc, .inl (cZ, 14, .inl (fun _ => 0))), (zq, .inl (cI, 6, .inl (fun _ => 0))), (zm, .inl (cI, 6, .inl (fun _ => 0))), (zd, .inl (cI, 6, .inl (fun _ => 0))), (za, .inl (cI, 8, .inl (fun _ => 0))), (zk, .inl (cI, 8, .inl (fun _ => 0)))]) (va_runV (As := [.ref k]) (rest := []) ⟨hx, hb, hml, hown, hts⟩ (c_X0_copyFrom l dC dI cI cZ cK tS aK aV k ks kw kc kq km kd ka kk y ys yw yc yq ym yd ya yk H.size) (cwV 1 hts (gw_v (fun _ h9 => List.mem_cons_of_mem _ h9) wm_134 wm_135 wm_136 wm_10 wm_137) rfl rfl rfl (by decide +kernel) ⟨Nat.le_of_ble_eq_true rfl, Nat.le_of_ble_eq_true rfl⟩) (mx_preV (C := RX0) (T := TX0) (N := 12) (ci := 0) hKx hP hD hS hA [12, 13, 14, 15, 16, 17, 18, 19, 20, 1, 2, 3, 4, 5, 6, 7, 8, 9] (by decide) rfl rfl rfl) rfl rfl hl.1 rfl (lv_room (Nat.le_of_ble_eq_true rfl)) dX7_image_22 ⟨Nat.le_of_ble_eq_true rfl, Nat.le_of_ble_eq_true rfl⟩) hP hD hS hA [12, 13, 14, 15, 16, 17, 18, 19, 20, 1, 2, 3, 4, 5, 6, 7, 8, 9] [0, 10, 11, 21, 22, 23, 24, 25, 26, 27, 28, 29] rfl rfl (by decide) (by decide) (fun u3 H locs hq3 hP hD hS => ?_)
      replace hP : va_P (dC, dI) vwCl [(h, .inr (7, [.ref k, .ref d, .ref j, .ref o, .ref f, .ref g, .ref wk, .ref im, .ref kt, .ref dl])), (im, .inl (cK, 2, .inr (.inr (.inr (.inr (va_up (va_up (fun _ => none) 0 (some y)) 1 (some z))))))), (kt, .inl (cZ, 2, .inl (fun _ => 0))), (z, .inr (0, [.ref zs, .ref zw, .ref zc, .int (-6), .int 0, .int 0, .ref zq, .ref zm, .ref zd, .int 0, .ref za, .ref zk])), (zs, .inl (cI, 5, .inl (upd (fun _ => 0) 0 800))), (zw, .inl (cI, 14, .inl (fun _ => 0))), (zc, .inl (cZ, 14, .inl (fun _ => 0))), (zq, .inl (cI, 6, .inl (fun _ => 0))), (zm, .inl (cI, 6, .inl (fun _ => 0))), (zd, .inl (cI, 6, .inl (fun _ => 0))), (za, .inl (cI, 8, .inl (fun _ => 0))), (zk, .inl (cI, 8, .inl (fun _ => 0)))] H := hP
      replace hD : va_D A [(h, .inr (7, [.ref k, .ref d, .ref j, .ref o, .ref f, .ref g, .ref wk, .ref im, .ref kt, .ref dl])), (im, .inl (cK, 2, .inr (.inr (.inr (.inr (va_up (va_up (fun _ => none) 0 (some y)) 1 (some z))))))), (kt, .inl (cZ, 2, .inl (fun _ => 0))), (z, .inr (0, [.ref zs, .ref zw, .ref zc, .int (-6), .int 0, .int 0, .ref zq, .ref zm, .ref zd, .int 0, .ref za, .ref zk])), (zs, .inl (cI, 5, .inl (upd (fun _ => 0) 0 800))), (zw, .inl (cI, 14, .inl (fun _ => 0))), (zc, .inl (cZ, 14, .inl (fun _ => 0))), (zq, .inl (cI, 6, .inl (fun _ => 0))), (zm, .inl (cI, 6, .inl (fun _ => 0))), (zd, .inl (cI, 6, .inl (fun _ => 0))), (za, .inl (cI, 8, .inl (fun _ => 0))), (zk, .inl (cI, 8, .inl (fun _ => 0)))] := hD
      refine lv_aload_n hx hb dX7_image_25 rfl (lv_at hl 0 rfl) ?_
      refine va_get (D := (dC, dI)) (ci := 7) (v := .ref kt) (C := RX7) (T := TX7) (N := 10) hx hb hts hin7 hown hK hP 0 rfl rfl 8 (by decide) hw2 (fun _ h9 => h9) rfl dX7_image_26 ?_
      refine lv_iload_n hx hb dX7_image_29 rfl (lv_at hl 1 rfl) ?_
      refine lv_iconst (v := 1) hx hb dX7_image_30 (by decide) ?_
      refine va_zast hx hb hK hP hD hS 2 1 rfl rfl (vin (by decide) (by decide)) dX7_image_31 (fun H locs hP hD hS => ?_)
      replace hP : va_P (dC, dI) vwCl [(h, .inr (7, [.ref k, .ref d, .ref j, .ref o, .ref f, .ref g, .ref wk, .ref im, .ref kt, .ref dl])), (im, .inl (cK, 2, .inr (.inr (.inr (.inr (va_up (va_up (fun _ => none) 0 (some y)) 1 (some z))))))), (kt, .inl (cZ, 2, .inl (upd (fun _ => 0) 0 1))), (z, .inr (0, [.ref zs, .ref zw, .ref zc, .int (-6), .int 0, .int 0, .ref zq, .ref zm, .ref zd, .int 0, .ref za, .ref zk])), (zs, .inl (cI, 5, .inl (upd (fun _ => 0) 0 800))), (zw, .inl (cI, 14, .inl (fun _ => 0))), (zc, .inl (cZ, 14, .inl (fun _ => 0))), (zq, .inl (cI, 6, .inl (fun _ => 0))), (zm, .inl (cI, 6, .inl (fun _ => 0))), (zd, .inl (cI, 6, .inl (fun _ => 0))), (za, .inl (cI, 8, .inl (fun _ => 0))), (zk, .inl (cI, 8, .inl (fun _ => 0)))] H := hP
      replace hD : va_D A [(h, .inr (7, [.ref k, .ref d, .ref j, .ref o, .ref f, .ref g, .ref wk, .ref im, .ref kt, .ref dl])), (im, .inl (cK, 2, .inr (.inr (.inr (.inr (va_up (va_up (fun _ => none) 0 (some y)) 1 (some z))))))), (kt, .inl (cZ, 2, .inl (upd (fun _ => 0) 0 1))), (z, .inr (0, [.ref zs, .ref zw, .ref zc, .int (-6), .int 0, .int 0, .ref zq, .ref zm, .ref zd, .int 0, .ref za, .ref zk])), (zs, .inl (cI, 5, .inl (upd (fun _ => 0) 0 800))), (zw, .inl (cI, 14, .inl (fun _ => 0))), (zc, .inl (cZ, 14, .inl (fun _ => 0))), (zq, .inl (cI, 6, .inl (fun _ => 0))), (zm, .inl (cI, 6, .inl (fun _ => 0))), (zd, .inl (cI, 6, .inl (fun _ => 0))), (za, .inl (cI, 8, .inl (fun _ => 0))), (zk, .inl (cI, 8, .inl (fun _ => 0)))] := hD
      refine lv_iconst (v := 1) hx hb dX7_image_32 (by decide) ?_
      have hP9 := mx_subP (wc := []) hP [] rfl
      have hD9 := hD.sub (ws' := []) [] (by decide) rfl
      exact W.iret (v := 1) hx hb hr (fun t ht hW => ⟨⟨1, (), rfl, (by first | exact Or.inl (⟨rfl, by omega⟩) | exact Or.inr (⟨rfl, by omega⟩)), by rw [ht]; exact hP9, hD9⟩, hS.F ht⟩) hS.2.2 dX7_image_33
    · have z9 : (1 : Int32).toInt = 1 := rfl
      refine va_get (D := (dC, dI)) (ci := 7) (v := .ref im) (C := RX7) (T := TX7) (N := 10) hx hb hts hin7 hown hK hP 0 rfl rfl 7 (by decide) hw0 (fun _ h9 => h9) rfl dX7_image_13 ?_
      refine lv_iload_n hx hb dX7_image_16 rfl (lv_at hl 1 rfl) ?_
      refine va_aldq hx hb hK hP 10 2 rfl rfl (vin (by decide) (by decide)) dX7_image_17 ?_
      refine W.eq (g2 := F0 m 18 ls [.ref z]) rfl ?_
      refine lv_aload_n hx hb dX7_image_18 rfl (lv_at hl 0 rfl) ?_
      refine va_get (D := (dC, dI)) (ci := 7) (v := .ref k) (C := RX7) (T := TX7) (N := 10) hx hb hts hin7 hown hK hP 0 rfl rfl 0 (by decide) hw1 (fun _ h9 => h9) rfl dX7_image_19 ?_
      refine mx_v (wr := [(h, .inr (7, [.ref k, .ref d, .ref j, .ref o, .ref f, .ref g, .ref wk, .ref im, .ref kt, .ref dl])), (im, .inl (cK, 2, .inr (.inr (.inr (.inr (va_up (va_up (fun _ => none) 0 (some y)) 1 (some z))))))), (kt, .inl (cZ, 2, .inl (fun _ => 0))), (y, .inr (0, [.ref ys, .ref yw, .ref yc, .int (-6), .int 0, .int 0, .ref yq, .ref ym, .ref yd, .int 0, .ref ya, .ref yk])), (ys, .inl (cI, 5, .inl (upd (fun _ => 0) 0 800))), (yw, .inl (cI, 14, .inl (fun _ => 0))), (yc, .inl (cZ, 14, .inl (fun _ => 0))), (yq, .inl (cI, 6, .inl (fun _ => 0))), (ym, .inl (cI, 6, .inl (fun _ => 0))), (yd, .inl (cI, 6, .inl (fun _ => 0))), (ya, .inl (cI, 8, .inl (fun _ => 0))), (yk, .inl (cI, 8, .inl (fun _ => 0)))]) (va_runV (As := [.ref k]) (rest := []) ⟨hx, hb, hml, hown, hts⟩ (c_X0_copyFrom l dC dI cI cZ cK tS aK aV k ks kw kc kq km kd ka kk z zs zw zc zq zm zd za zk H.size) (cwV 1 hts (gw_v (fun _ h9 => List.mem_cons_of_mem _ h9) wm_134 wm_135 wm_136 wm_10 wm_137) rfl rfl rfl (by decide +kernel) ⟨Nat.le_of_ble_eq_true rfl, Nat.le_of_ble_eq_true rfl⟩) (mx_preV (C := RX0) (T := TX0) (N := 12) (ci := 0) hKx hP hD hS hA [21, 22, 23, 24, 25, 26, 27, 28, 29, 1, 2, 3, 4, 5, 6, 7, 8, 9] (by decide) rfl rfl rfl) rfl rfl hl.1 rfl (lv_room (Nat.le_of_ble_eq_true rfl)) dX7_image_22 ⟨Nat.le_of_ble_eq_true rfl, Nat.le_of_ble_eq_true rfl⟩) hP hD hS hA [21, 22, 23, 24, 25, 26, 27, 28, 29, 1, 2, 3, 4, 5, 6, 7, 8, 9] [0, 10, 11, 12, 13, 14, 15, 16, 17, 18, 19, 20] rfl rfl (by decide) (by decide) (fun u4 H locs hq4 hP hD hS => ?_)
      replace hP : va_P (dC, dI) vwCl [(h, .inr (7, [.ref k, .ref d, .ref j, .ref o, .ref f, .ref g, .ref wk, .ref im, .ref kt, .ref dl])), (im, .inl (cK, 2, .inr (.inr (.inr (.inr (va_up (va_up (fun _ => none) 0 (some y)) 1 (some z))))))), (kt, .inl (cZ, 2, .inl (fun _ => 0))), (y, .inr (0, [.ref ys, .ref yw, .ref yc, .int (-6), .int 0, .int 0, .ref yq, .ref ym, .ref yd, .int 0, .ref ya, .ref yk])), (ys, .inl (cI, 5, .inl (upd (fun _ => 0) 0 800))), (yw, .inl (cI, 14, .inl (fun _ => 0))), (yc, .inl (cZ, 14, .inl (fun _ => 0))), (yq, .inl (cI, 6, .inl (fun _ => 0))), (ym, .inl (cI, 6, .inl (fun _ => 0))), (yd, .inl (cI, 6, .inl (fun _ => 0))), (ya, .inl (cI, 8, .inl (fun _ => 0))), (yk, .inl (cI, 8, .inl (fun _ => 0)))] H := hP
      replace hD : va_D A [(h, .inr (7, [.ref k, .ref d, .ref j, .ref o, .ref f, .ref g, .ref wk, .ref im, .ref kt, .ref dl])), (im, .inl (cK, 2, .inr (.inr (.inr (.inr (va_up (va_up (fun _ => none) 0 (some y)) 1 (some z))))))), (kt, .inl (cZ, 2, .inl (fun _ => 0))), (y, .inr (0, [.ref ys, .ref yw, .ref yc, .int (-6), .int 0, .int 0, .ref yq, .ref ym, .ref yd, .int 0, .ref ya, .ref yk])), (ys, .inl (cI, 5, .inl (upd (fun _ => 0) 0 800))), (yw, .inl (cI, 14, .inl (fun _ => 0))), (yc, .inl (cZ, 14, .inl (fun _ => 0))), (yq, .inl (cI, 6, .inl (fun _ => 0))), (ym, .inl (cI, 6, .inl (fun _ => 0))), (yd, .inl (cI, 6, .inl (fun _ => 0))), (ya, .inl (cI, 8, .inl (fun _ => 0))), (yk, .inl (cI, 8, .inl (fun _ => 0)))] := hD
      refine lv_aload_n hx hb dX7_image_25 rfl (lv_at hl 0 rfl) ?_
      refine va_get (D := (dC, dI)) (ci := 7) (v := .ref kt) (C := RX7) (T := TX7) (N := 10) hx hb hts hin7 hown hK hP 0 rfl rfl 8 (by decide) hw2 (fun _ h9 => h9) rfl dX7_image_26 ?_
      refine lv_iload_n hx hb dX7_image_29 rfl (lv_at hl 1 rfl) ?_
      refine lv_iconst (v := 1) hx hb dX7_image_30 (by decide) ?_
      refine va_zast hx hb hK hP hD hS 2 1 rfl rfl (vin (by decide) (by decide)) dX7_image_31 (fun H locs hP hD hS => ?_)
      replace hP : va_P (dC, dI) vwCl [(h, .inr (7, [.ref k, .ref d, .ref j, .ref o, .ref f, .ref g, .ref wk, .ref im, .ref kt, .ref dl])), (im, .inl (cK, 2, .inr (.inr (.inr (.inr (va_up (va_up (fun _ => none) 0 (some y)) 1 (some z))))))), (kt, .inl (cZ, 2, .inl (upd (fun _ => 0) 1 1))), (y, .inr (0, [.ref ys, .ref yw, .ref yc, .int (-6), .int 0, .int 0, .ref yq, .ref ym, .ref yd, .int 0, .ref ya, .ref yk])), (ys, .inl (cI, 5, .inl (upd (fun _ => 0) 0 800))), (yw, .inl (cI, 14, .inl (fun _ => 0))), (yc, .inl (cZ, 14, .inl (fun _ => 0))), (yq, .inl (cI, 6, .inl (fun _ => 0))), (ym, .inl (cI, 6, .inl (fun _ => 0))), (yd, .inl (cI, 6, .inl (fun _ => 0))), (ya, .inl (cI, 8, .inl (fun _ => 0))), (yk, .inl (cI, 8, .inl (fun _ => 0)))] H := hP
      replace hD : va_D A [(h, .inr (7, [.ref k, .ref d, .ref j, .ref o, .ref f, .ref g, .ref wk, .ref im, .ref kt, .ref dl])), (im, .inl (cK, 2, .inr (.inr (.inr (.inr (va_up (va_up (fun _ => none) 0 (some y)) 1 (some z))))))), (kt, .inl (cZ, 2, .inl (upd (fun _ => 0) 1 1))), (y, .inr (0, [.ref ys, .ref yw, .ref yc, .int (-6), .int 0, .int 0, .ref yq, .ref ym, .ref yd, .int 0, .ref ya, .ref yk])), (ys, .inl (cI, 5, .inl (upd (fun _ => 0) 0 800))), (yw, .inl (cI, 14, .inl (fun _ => 0))), (yc, .inl (cZ, 14, .inl (fun _ => 0))), (yq, .inl (cI, 6, .inl (fun _ => 0))), (ym, .inl (cI, 6, .inl (fun _ => 0))), (yd, .inl (cI, 6, .inl (fun _ => 0))), (ya, .inl (cI, 8, .inl (fun _ => 0))), (yk, .inl (cI, 8, .inl (fun _ => 0)))] := hD
      refine lv_iconst (v := 1) hx hb dX7_image_32 (by decide) ?_
      have hP9 := mx_subP (wc := []) hP [] rfl
      have hD9 := hD.sub (ws' := []) [] (by decide) rfl
      exact W.iret (v := 1) hx hb hr (fun t ht hW => ⟨⟨1, (), rfl, (by first | exact Or.inl (⟨rfl, by omega⟩) | exact Or.inr (⟨rfl, by omega⟩)), by rw [ht]; exact hP9, hD9⟩, hS.F ht⟩) hS.2.2 dX7_image_33
  · have hf1 : i0.toInt < (0 : Int) ∨ (1 : Int) < i0.toInt := hf1
    refine lv_if_ne (tgt := 12) hx hb dX7_image_6 (by decide) (fun c5 => absurd c5 (by decide)) (fun c5 => ?_)
    refine lv_bipush (v := (-2)) hx hb dX7_image_9 (by decide) ?_
    have hP9 := mx_subP (wc := []) hP [] rfl
    have hD9 := hD.sub (ws' := []) [] (by decide) rfl
    exact W.iret (v := (-2)) hx hb hr (fun t ht hW => ⟨⟨(-2), (), rfl, (by first | exact Or.inl (⟨rfl, by omega⟩) | exact Or.inr (⟨rfl, by omega⟩)), by rw [ht]; exact hP9, hD9⟩, hS.F ht⟩) hS.2.2 dX7_image_11
set_option maxHeartbeats 4000000 in
set_option maxRecDepth 100000 in
theorem c_X7_restore (l : Launch) (dC : Nat → ClassId) (dI : Nat → Nat → Nat) (cI cZ cK : ClassId) (tS aK aV : Nat) (h : Nat) (o : Nat) (f : Nat) (g : Nat) (wk : Nat) (im : Nat) (kt : Nat) (dl : Nat) (j : Nat) (k : Nat) (d : Nat) (i0 : Int32) (sz : Nat) : Ci l yX7_restore (wq yX7_restore cX7_restore 2 (some .int)) ({ frames := 1, cells := 0, slots := 0, locals := 22 }) dC dI cI cZ cK tS aK aV [.ref h, .int i0] sz [(h, .inr (7, [.ref k, .ref d, .ref j, .ref o, .ref f, .ref g, .ref wk, .ref im, .ref kt, .ref dl])), (kt, .inl (cZ, 2, .inl (fun _ => 0)))] (fun (r : Int32) (_ : Unit) => (r = (-3) ∧ (0 ≤ i0.toInt ∧ i0.toInt ≤ 1)) ∨ (r = (-2) ∧ (i0.toInt < 0 ∨ 1 < i0.toInt))) (fun _ => []) := by
  refine Met.ofW (cc := cX7_restore) (maxL := 2) (ret := (some .int)) (by decide) rfl ?_
  intro p e s m args below meth c s₁ B hml hv
  obtain ⟨rfl, hsz, hP, hKx, hD0⟩ := hv
  have hx := B.exec
  have hb := B.bytes
  have hr := B.returns
  have hts := atoms_spec (ws := wq yX7_restore cX7_restore 2 (some .int)) B.pre
  have hown : s.vm.findClass RX7 = some m.cls := findClass_of_methodNamed B.named
  have hlocks := B.notSynchronized
  subst hsz
  have hD := hD0.self (sz := s.heap.size)
  generalize hAe : va_A [(h, .inr (7, [.ref k, .ref d, .ref j, .ref o, .ref f, .ref g, .ref wk, .ref im, .ref kt, .ref dl])), (kt, .inl (cZ, 2, .inl (fun _ => 0)))] s.heap.size = A at hD hKx ⊢
  have hA : ∀ q : Nat, s.heap.size ≤ q → A q := fun q h => by rw [← hAe]; exact Or.inr h
  have hS : va_S A s.heap s.heap [] := va_S.rf
  have hP : va_P (dC, dI) vwCl [(h, .inr (7, [.ref k, .ref d, .ref j, .ref o, .ref f, .ref g, .ref wk, .ref im, .ref kt, .ref dl])), (kt, .inl (cZ, 2, .inl (fun _ => 0)))] s.heap := hP
  have hl := lv_entry ([.ref h, .int i0]) (n := 2) (Nat.le_of_ble_eq_true rfl)
  rw [lg_entry_eq]
  generalize (lg_sl ([.ref h, .int i0]) ++ List.replicate (2 - (lg_sl ([.ref h, .int i0])).length) Slot.unset).toArray = ls at hl ⊢
  have hl : lv_has ls 2 [(0, .ref h), (1, .int i0)] := hl
  have hK := hKx.1
  have hin7 := fun w9 h9 => List.mem_cons_of_mem (Cond.code yX7_restore cX7_restore 2 (some .int)) (inlX7 w9 h9)
  have hw0 := hts (.fieldLink RX7 68 "OneCan" "kept" "[Z") (List.mem_cons_of_mem _ wm_138)
  refine lv_iload_n hx hb dX7_restore_0 rfl (lv_at hl 1 rfl) ?_
  refine lv_iconst (v := 0) hx hb dX7_restore_1 (by decide) ?_
  refine lv_iconst (v := 1) hx hb dX7_restore_2 (by decide) ?_
  refine mx_i (wr := [(h, .inr (7, [.ref k, .ref d, .ref j, .ref o, .ref f, .ref g, .ref wk, .ref im, .ref kt, .ref dl])), (kt, .inl (cZ, 2, .inl (fun _ => 0)))]) (va_runS (As := [.int i0, .int 0, .int 1]) (rest := []) ⟨hx, hb, hml, hown, hts⟩ (c_X7_isIn l dC dI cI cZ cK tS aK aV i0 0 1 s.heap.size) (va_cwS 3 hts (gw_s (fun _ h9 => List.mem_cons_of_mem _ h9) wm_0 wm_1 wm_2 wm_3) rfl rfl rfl (by decide +kernel) ⟨Nat.le_of_ble_eq_true rfl, Nat.le_of_ble_eq_true rfl⟩) (mx_preS hKx hP hD hS hA [] (by decide) rfl) rfl rfl hl.1 rfl (lv_room (Nat.le_of_ble_eq_true rfl)) dX7_restore_3 ⟨Nat.le_of_ble_eq_true rfl, Nat.le_of_ble_eq_true rfl⟩) hP hD hS hA [] [0, 1] rfl rfl (by decide) (by decide) (fun r1 u1 H locs hq1 hP hD hS => ?_)
  replace hP : va_P (dC, dI) vwCl [(h, .inr (7, [.ref k, .ref d, .ref j, .ref o, .ref f, .ref g, .ref wk, .ref im, .ref kt, .ref dl])), (kt, .inl (cZ, 2, .inl (fun _ => 0)))] H := hP
  replace hD : va_D A [(h, .inr (7, [.ref k, .ref d, .ref j, .ref o, .ref f, .ref g, .ref wk, .ref im, .ref kt, .ref dl])), (kt, .inl (cZ, 2, .inl (fun _ => 0)))] := hD
  rcases hq1 with ⟨rfl, hf1⟩ | ⟨rfl, hf1⟩
  · have hf1 : (0 : Int) ≤ i0.toInt ∧ i0.toInt ≤ (1 : Int) := hf1
    refine lv_if_ne (tgt := 12) hx hb dX7_restore_6 (by decide) (fun c2 => ?_) (fun c2 => absurd c2 (by decide))
    refine lv_aload_n hx hb dX7_restore_12 rfl (lv_at hl 0 rfl) ?_
    refine va_get (D := (dC, dI)) (ci := 7) (v := .ref kt) (C := RX7) (T := TX7) (N := 10) hx hb hts hin7 hown hK hP 0 rfl rfl 8 (by decide) hw0 (fun _ h9 => h9) rfl dX7_restore_13 ?_
    refine lv_iload_n hx hb dX7_restore_16 rfl (lv_at hl 1 rfl) ?_
    refine va_zald hx hb hK hP 1 1 rfl rfl (vin (by omega) (by omega)) dX7_restore_17 ?_
    refine lv_topi (fun x3 e3 => ?_)
    obtain rfl : x3 = 0 := e3.trans rfl
    refine lv_if_ne (tgt := 24) hx hb dX7_restore_18 (by decide) (fun c4 => absurd c4 (by decide)) (fun c4 => ?_)
    refine lv_bipush (v := (-3)) hx hb dX7_restore_21 (by decide) ?_
    have hP9 := mx_subP (wc := []) hP [] rfl
    have hD9 := hD.sub (ws' := []) [] (by decide) rfl
    exact W.iret (v := (-3)) hx hb hr (fun t ht hW => ⟨⟨(-3), (), rfl, (by first | exact Or.inl (⟨rfl, by omega⟩) | exact Or.inr (⟨rfl, by omega⟩)), by rw [ht]; exact hP9, hD9⟩, hS.F ht⟩) hS.2.2 dX7_restore_23
  · have hf1 : i0.toInt < (0 : Int) ∨ (1 : Int) < i0.toInt := hf1
    refine lv_if_ne (tgt := 12) hx hb dX7_restore_6 (by decide) (fun c5 => absurd c5 (by decide)) (fun c5 => ?_)
    refine lv_bipush (v := (-2)) hx hb dX7_restore_9 (by decide) ?_
    have hP9 := mx_subP (wc := []) hP [] rfl
    have hD9 := hD.sub (ws' := []) [] (by decide) rfl
    exact W.iret (v := (-2)) hx hb hr (fun t ht hW => ⟨⟨(-2), (), rfl, (by first | exact Or.inl (⟨rfl, by omega⟩) | exact Or.inr (⟨rfl, by omega⟩)), by rw [ht]; exact hP9, hD9⟩, hS.F ht⟩) hS.2.2 dX7_restore_11
set_option maxHeartbeats 4000000 in
set_option maxRecDepth 100000 in
theorem c_X3_read0 (l : Launch) (dC : Nat → ClassId) (dI : Nat → Nat → Nat) (cI cZ cK : ClassId) (tS aK aV : Nat) (o : Nat) (k : Nat) (op : Nat) (oq : Nat) (ov : Nat) (os : Nat) (sz : Nat) : Cv l yX3_read (wq yX3_read cX3_read 4 none) ({ frames := 0, cells := 0, slots := 0, locals := 0 }) dC dI cI cZ cK tS aK aV [.ref o, .int 0] sz [(o, .inr (3, [.ref k, .ref op, .int 0, .ref oq, .ref ov, .ref os])), (op, .inl (cI, 6, .inl (fun _ => 0)))] (fun (u : Unit) => True) (fun _ => [(o, .inr (3, [.ref k, .ref op, .int 0, .ref oq, .ref ov, .ref os])), (op, .inl (cI, 6, .inl (upd (upd (upd (upd (upd (upd (fun _ => 0) 5 0) 4 0) 3 0) 2 0) 1 0) 0 0)))]) := by
  refine Met.ofW (cc := cX3_read) (maxL := 4) (ret := none) (by decide) rfl ?_
  intro p e s m args below meth c s₁ B hml hv
  obtain ⟨rfl, hsz, hP, hKx, hD0⟩ := hv
  have hx := B.exec
  have hb := B.bytes
  have hr := B.returns
  have hts := atoms_spec (ws := wq yX3_read cX3_read 4 none) B.pre
  have hown : s.vm.findClass RX3 = some m.cls := findClass_of_methodNamed B.named
  have hlocks := B.notSynchronized
  subst hsz
  have hD := hD0.self (sz := s.heap.size)
  generalize hAe : va_A [(o, .inr (3, [.ref k, .ref op, .int 0, .ref oq, .ref ov, .ref os])), (op, .inl (cI, 6, .inl (fun _ => 0)))] s.heap.size = A at hD hKx ⊢
  have hA : ∀ q : Nat, s.heap.size ≤ q → A q := fun q h => by rw [← hAe]; exact Or.inr h
  have hS : va_S A s.heap s.heap [] := va_S.rf
  have hP : va_P (dC, dI) vwCl [(o, .inr (3, [.ref k, .ref op, .int 0, .ref oq, .ref ov, .ref os])), (op, .inl (cI, 6, .inl (fun _ => 0)))] s.heap := hP
  have hl := lv_entry ([.ref o, .int 0]) (n := 4) (Nat.le_of_ble_eq_true rfl)
  rw [lg_entry_eq]
  generalize (lg_sl ([.ref o, .int 0]) ++ List.replicate (4 - (lg_sl ([.ref o, .int 0])).length) Slot.unset).toArray = ls at hl ⊢
  have hl : lv_has ls 4 [(0, .ref o), (1, .int 0)] := hl
  have hK := hKx.1
  have hin3 := fun w9 h9 => List.mem_cons_of_mem (Cond.code yX3_read cX3_read 4 none) (inlX3 w9 h9)
  have hw0 := hts (.fieldLink RX3 28 "OneCan$Order" "total" "I") (List.mem_cons_of_mem _ wm_139)
  have hw1 := hts (.fieldLink RX3 9 "OneCan$Order" "portions" "[I") (List.mem_cons_of_mem _ wm_140)
  refine lv_iload_n hx hb dX3_read_0 rfl (lv_at hl 1 rfl) ?_
  refine lv_istore_n (lv' := [(2, .int 0), (0, .ref o), (1, .int 0)]) hx hb dX3_read_1 rfl hl (by decide) rfl (fun ls hl => ?_)
  refine lv_aload_n hx hb dX3_read_2 rfl (lv_at hl 1 rfl) ?_
  refine lv_iconst (v := 0) hx hb dX3_read_3 (by decide) ?_
  refine va_put (D := (dC, dI)) (ci := 3) (v := .int 0) (ty := .int) (C := RX3) (T := TX3) (N := 6) hx hb hts hin3 tyX3 tyX3_ok nmX3 hown hK hP hD hS 0 rfl rfl 2 (by decide) hw0 (fun _ h9 => h9) rfl (by decide +kernel) rfl rfl (Nat.le_of_ble_eq_true rfl) dX3_read_4 (fun H locs hP hD hS => ?_)
  replace hP : va_P (dC, dI) vwCl [(o, .inr (3, [.ref k, .ref op, .int 0, .ref oq, .ref ov, .ref os])), (op, .inl (cI, 6, .inl (fun _ => 0)))] H := hP
  replace hD : va_D A [(o, .inr (3, [.ref k, .ref op, .int 0, .ref oq, .ref ov, .ref os])), (op, .inl (cI, 6, .inl (fun _ => 0)))] := hD
  refine lv_iconst (v := 5) hx hb dX3_read_7 (by decide) ?_
  refine lv_istore_n (lv' := [(3, .int 5), (2, .int 0), (0, .ref o), (1, .int 0)]) hx hb dX3_read_8 rfl hl (by decide) rfl (fun ls hl => ?_)
  refine lv_iload_n hx hb dX3_read_9 rfl (lv_at hl 0 rfl) ?_
  refine lv_if_lt (tgt := 49) hx hb dX3_read_10 (by decide) (fun c1 => absurd c1 (by decide)) (fun c1 => ?_)
  refine lv_aload_n hx hb dX3_read_13 rfl (lv_at hl 2 rfl) ?_
  refine va_get (D := (dC, dI)) (ci := 3) (v := .ref op) (C := RX3) (T := TX3) (N := 6) hx hb hts hin3 hown hK hP 0 rfl rfl 1 (by decide) hw1 (fun _ h9 => h9) rfl dX3_read_14 ?_
  refine lv_iload_n hx hb dX3_read_17 rfl (lv_at hl 0 rfl) ?_
  refine lv_iload_n hx hb dX3_read_18 rfl (lv_at hl 1 rfl) ?_
  refine lv_bipush (v := 10) hx hb dX3_read_19 (by decide) ?_
  refine lv_irem hx hb dX3_read_21 (by decide) ?_
  refine lv_topi (fun x2 e2 => ?_)
  obtain rfl : x2 = 0 := e2.trans (by decide)
  refine va_iast hx hb hK hP hD hS 1 0 rfl rfl (vin (by decide) (by decide)) dX3_read_22 (fun H locs hP hD hS => ?_)
  replace hP : va_P (dC, dI) vwCl [(o, .inr (3, [.ref k, .ref op, .int 0, .ref oq, .ref ov, .ref os])), (op, .inl (cI, 6, .inl (upd (fun _ => 0) 5 0)))] H := hP
  replace hD : va_D A [(o, .inr (3, [.ref k, .ref op, .int 0, .ref oq, .ref ov, .ref os])), (op, .inl (cI, 6, .inl (upd (fun _ => 0) 5 0)))] := hD
  refine lv_aload_n hx hb dX3_read_23 rfl (lv_at hl 2 rfl) ?_
  refine lv_dup hx hb dX3_read_24 rfl ?_
  refine va_get (D := (dC, dI)) (ci := 3) (v := .int 0) (C := RX3) (T := TX3) (N := 6) hx hb hts hin3 hown hK hP 0 rfl rfl 2 (by decide) hw0 (fun _ h9 => h9) rfl dX3_read_25 ?_
  refine lv_aload_n hx hb dX3_read_28 rfl (lv_at hl 2 rfl) ?_
  refine va_get (D := (dC, dI)) (ci := 3) (v := .ref op) (C := RX3) (T := TX3) (N := 6) hx hb hts hin3 hown hK hP 0 rfl rfl 1 (by decide) hw1 (fun _ h9 => h9) rfl dX3_read_29 ?_
  refine lv_iload_n hx hb dX3_read_32 rfl (lv_at hl 0 rfl) ?_
  refine va_iald hx hb hK hP 1 0 rfl rfl (vin (by decide) (by decide)) dX3_read_33 ?_
  refine lv_topi (fun x3 e3 => ?_)
  obtain rfl : x3 = 0 := e3.trans (by first | rfl | decide)
  refine lv_iadd hx hb dX3_read_34 ?_
  refine lv_topi (fun x4 e4 => ?_)
  obtain rfl : x4 = 0 := e4.trans (by decide)
  refine va_put (D := (dC, dI)) (ci := 3) (v := .int 0) (ty := .int) (C := RX3) (T := TX3) (N := 6) hx hb hts hin3 tyX3 tyX3_ok nmX3 hown hK hP hD hS 0 rfl rfl 2 (by decide) hw0 (fun _ h9 => h9) rfl (by decide +kernel) rfl rfl (Nat.le_of_ble_eq_true rfl) dX3_read_35 (fun H locs hP hD hS => ?_)
  replace hP : va_P (dC, dI) vwCl [(o, .inr (3, [.ref k, .ref op, .int 0, .ref oq, .ref ov, .ref os])), (op, .inl (cI, 6, .inl (upd (fun _ => 0) 5 0)))] H := hP
  replace hD : va_D A [(o, .inr (3, [.ref k, .ref op, .int 0, .ref oq, .ref ov, .ref os])), (op, .inl (cI, 6, .inl (upd (fun _ => 0) 5 0)))] := hD
  refine lv_iload_n hx hb dX3_read_38 rfl (lv_at hl 1 rfl) ?_
  refine lv_bipush (v := 10) hx hb dX3_read_39 (by decide) ?_
  refine lv_idiv hx hb dX3_read_41 (by decide) ?_
  refine lv_topi (fun x5 e5 => ?_)
  obtain rfl : x5 = 0 := e5.trans (by decide)
  refine lv_istore_n (lv' := [(2, .int 0), (3, .int 5), (0, .ref o), (1, .int 0)]) hx hb dX3_read_42 rfl hl (by decide) rfl (fun ls hl => ?_)
  refine lv_iinc (v := 4) (lv' := [(3, .int 4), (2, .int 0), (0, .ref o), (1, .int 0)]) hx hb dX3_read_43 hl (k := 1) rfl (by decide) (by decide) rfl (fun ls hl => ?_)
  refine lv_goto (tgt := 9) hx hb dX3_read_46 (by decide) ?_
  refine lv_iload_n hx hb dX3_read_9 rfl (lv_at hl 0 rfl) ?_
  refine lv_if_lt (tgt := 49) hx hb dX3_read_10 (by decide) (fun c6 => absurd c6 (by decide)) (fun c6 => ?_)
  refine lv_aload_n hx hb dX3_read_13 rfl (lv_at hl 2 rfl) ?_
  refine va_get (D := (dC, dI)) (ci := 3) (v := .ref op) (C := RX3) (T := TX3) (N := 6) hx hb hts hin3 hown hK hP 0 rfl rfl 1 (by decide) hw1 (fun _ h9 => h9) rfl dX3_read_14 ?_
  refine lv_iload_n hx hb dX3_read_17 rfl (lv_at hl 0 rfl) ?_
  refine lv_iload_n hx hb dX3_read_18 rfl (lv_at hl 1 rfl) ?_
  refine lv_bipush (v := 10) hx hb dX3_read_19 (by decide) ?_
  refine lv_irem hx hb dX3_read_21 (by decide) ?_
  refine lv_topi (fun x7 e7 => ?_)
  obtain rfl : x7 = 0 := e7.trans (by decide)
  refine va_iast hx hb hK hP hD hS 1 0 rfl rfl (vin (by decide) (by decide)) dX3_read_22 (fun H locs hP hD hS => ?_)
  replace hP : va_P (dC, dI) vwCl [(o, .inr (3, [.ref k, .ref op, .int 0, .ref oq, .ref ov, .ref os])), (op, .inl (cI, 6, .inl (upd (upd (fun _ => 0) 5 0) 4 0)))] H := hP
  replace hD : va_D A [(o, .inr (3, [.ref k, .ref op, .int 0, .ref oq, .ref ov, .ref os])), (op, .inl (cI, 6, .inl (upd (upd (fun _ => 0) 5 0) 4 0)))] := hD
  refine lv_aload_n hx hb dX3_read_23 rfl (lv_at hl 2 rfl) ?_
  refine lv_dup hx hb dX3_read_24 rfl ?_
  refine va_get (D := (dC, dI)) (ci := 3) (v := .int 0) (C := RX3) (T := TX3) (N := 6) hx hb hts hin3 hown hK hP 0 rfl rfl 2 (by decide) hw0 (fun _ h9 => h9) rfl dX3_read_25 ?_
  refine lv_aload_n hx hb dX3_read_28 rfl (lv_at hl 2 rfl) ?_
  refine va_get (D := (dC, dI)) (ci := 3) (v := .ref op) (C := RX3) (T := TX3) (N := 6) hx hb hts hin3 hown hK hP 0 rfl rfl 1 (by decide) hw1 (fun _ h9 => h9) rfl dX3_read_29 ?_
  refine lv_iload_n hx hb dX3_read_32 rfl (lv_at hl 0 rfl) ?_
  refine va_iald hx hb hK hP 1 0 rfl rfl (vin (by decide) (by decide)) dX3_read_33 ?_
  refine lv_topi (fun x8 e8 => ?_)
  obtain rfl : x8 = 0 := e8.trans (by first | rfl | decide)
  refine lv_iadd hx hb dX3_read_34 ?_
  refine lv_topi (fun x9 e9 => ?_)
  obtain rfl : x9 = 0 := e9.trans (by decide)
  refine va_put (D := (dC, dI)) (ci := 3) (v := .int 0) (ty := .int) (C := RX3) (T := TX3) (N := 6) hx hb hts hin3 tyX3 tyX3_ok nmX3 hown hK hP hD hS 0 rfl rfl 2 (by decide) hw0 (fun _ h9 => h9) rfl (by decide +kernel) rfl rfl (Nat.le_of_ble_eq_true rfl) dX3_read_35 (fun H locs hP hD hS => ?_)
  replace hP : va_P (dC, dI) vwCl [(o, .inr (3, [.ref k, .ref op, .int 0, .ref oq, .ref ov, .ref os])), (op, .inl (cI, 6, .inl (upd (upd (fun _ => 0) 5 0) 4 0)))] H := hP
  replace hD : va_D A [(o, .inr (3, [.ref k, .ref op, .int 0, .ref oq, .ref ov, .ref os])), (op, .inl (cI, 6, .inl (upd (upd (fun _ => 0) 5 0) 4 0)))] := hD
  refine lv_iload_n hx hb dX3_read_38 rfl (lv_at hl 1 rfl) ?_
  refine lv_bipush (v := 10) hx hb dX3_read_39 (by decide) ?_
  refine lv_idiv hx hb dX3_read_41 (by decide) ?_
  refine lv_topi (fun x10 e10 => ?_)
  obtain rfl : x10 = 0 := e10.trans (by decide)
  refine lv_istore_n (lv' := [(2, .int 0), (3, .int 4), (0, .ref o), (1, .int 0)]) hx hb dX3_read_42 rfl hl (by decide) rfl (fun ls hl => ?_)
  refine lv_iinc (v := 3) (lv' := [(3, .int 3), (2, .int 0), (0, .ref o), (1, .int 0)]) hx hb dX3_read_43 hl (k := 1) rfl (by decide) (by decide) rfl (fun ls hl => ?_)
  refine lv_goto (tgt := 9) hx hb dX3_read_46 (by decide) ?_
  refine lv_iload_n hx hb dX3_read_9 rfl (lv_at hl 0 rfl) ?_
  refine lv_if_lt (tgt := 49) hx hb dX3_read_10 (by decide) (fun c11 => absurd c11 (by decide)) (fun c11 => ?_)
  refine lv_aload_n hx hb dX3_read_13 rfl (lv_at hl 2 rfl) ?_
  refine va_get (D := (dC, dI)) (ci := 3) (v := .ref op) (C := RX3) (T := TX3) (N := 6) hx hb hts hin3 hown hK hP 0 rfl rfl 1 (by decide) hw1 (fun _ h9 => h9) rfl dX3_read_14 ?_
  refine lv_iload_n hx hb dX3_read_17 rfl (lv_at hl 0 rfl) ?_
  refine lv_iload_n hx hb dX3_read_18 rfl (lv_at hl 1 rfl) ?_
  refine lv_bipush (v := 10) hx hb dX3_read_19 (by decide) ?_
  refine lv_irem hx hb dX3_read_21 (by decide) ?_
  refine lv_topi (fun x12 e12 => ?_)
  obtain rfl : x12 = 0 := e12.trans (by decide)
  refine va_iast hx hb hK hP hD hS 1 0 rfl rfl (vin (by decide) (by decide)) dX3_read_22 (fun H locs hP hD hS => ?_)
  replace hP : va_P (dC, dI) vwCl [(o, .inr (3, [.ref k, .ref op, .int 0, .ref oq, .ref ov, .ref os])), (op, .inl (cI, 6, .inl (upd (upd (upd (fun _ => 0) 5 0) 4 0) 3 0)))] H := hP
  replace hD : va_D A [(o, .inr (3, [.ref k, .ref op, .int 0, .ref oq, .ref ov, .ref os])), (op, .inl (cI, 6, .inl (upd (upd (upd (fun _ => 0) 5 0) 4 0) 3 0)))] := hD
  refine lv_aload_n hx hb dX3_read_23 rfl (lv_at hl 2 rfl) ?_
  refine lv_dup hx hb dX3_read_24 rfl ?_
  refine va_get (D := (dC, dI)) (ci := 3) (v := .int 0) (C := RX3) (T := TX3) (N := 6) hx hb hts hin3 hown hK hP 0 rfl rfl 2 (by decide) hw0 (fun _ h9 => h9) rfl dX3_read_25 ?_
  refine lv_aload_n hx hb dX3_read_28 rfl (lv_at hl 2 rfl) ?_
  refine va_get (D := (dC, dI)) (ci := 3) (v := .ref op) (C := RX3) (T := TX3) (N := 6) hx hb hts hin3 hown hK hP 0 rfl rfl 1 (by decide) hw1 (fun _ h9 => h9) rfl dX3_read_29 ?_
  refine lv_iload_n hx hb dX3_read_32 rfl (lv_at hl 0 rfl) ?_
  refine va_iald hx hb hK hP 1 0 rfl rfl (vin (by decide) (by decide)) dX3_read_33 ?_
  refine lv_topi (fun x13 e13 => ?_)
  obtain rfl : x13 = 0 := e13.trans (by first | rfl | decide)
  refine lv_iadd hx hb dX3_read_34 ?_
  refine lv_topi (fun x14 e14 => ?_)
  obtain rfl : x14 = 0 := e14.trans (by decide)
  refine va_put (D := (dC, dI)) (ci := 3) (v := .int 0) (ty := .int) (C := RX3) (T := TX3) (N := 6) hx hb hts hin3 tyX3 tyX3_ok nmX3 hown hK hP hD hS 0 rfl rfl 2 (by decide) hw0 (fun _ h9 => h9) rfl (by decide +kernel) rfl rfl (Nat.le_of_ble_eq_true rfl) dX3_read_35 (fun H locs hP hD hS => ?_)
  replace hP : va_P (dC, dI) vwCl [(o, .inr (3, [.ref k, .ref op, .int 0, .ref oq, .ref ov, .ref os])), (op, .inl (cI, 6, .inl (upd (upd (upd (fun _ => 0) 5 0) 4 0) 3 0)))] H := hP
  replace hD : va_D A [(o, .inr (3, [.ref k, .ref op, .int 0, .ref oq, .ref ov, .ref os])), (op, .inl (cI, 6, .inl (upd (upd (upd (fun _ => 0) 5 0) 4 0) 3 0)))] := hD
  refine lv_iload_n hx hb dX3_read_38 rfl (lv_at hl 1 rfl) ?_
  refine lv_bipush (v := 10) hx hb dX3_read_39 (by decide) ?_
  refine lv_idiv hx hb dX3_read_41 (by decide) ?_
  refine lv_topi (fun x15 e15 => ?_)
  obtain rfl : x15 = 0 := e15.trans (by decide)
  refine lv_istore_n (lv' := [(2, .int 0), (3, .int 3), (0, .ref o), (1, .int 0)]) hx hb dX3_read_42 rfl hl (by decide) rfl (fun ls hl => ?_)
  refine lv_iinc (v := 2) (lv' := [(3, .int 2), (2, .int 0), (0, .ref o), (1, .int 0)]) hx hb dX3_read_43 hl (k := 1) rfl (by decide) (by decide) rfl (fun ls hl => ?_)
  refine lv_goto (tgt := 9) hx hb dX3_read_46 (by decide) ?_
  refine lv_iload_n hx hb dX3_read_9 rfl (lv_at hl 0 rfl) ?_
  refine lv_if_lt (tgt := 49) hx hb dX3_read_10 (by decide) (fun c16 => absurd c16 (by decide)) (fun c16 => ?_)
  refine lv_aload_n hx hb dX3_read_13 rfl (lv_at hl 2 rfl) ?_
  refine va_get (D := (dC, dI)) (ci := 3) (v := .ref op) (C := RX3) (T := TX3) (N := 6) hx hb hts hin3 hown hK hP 0 rfl rfl 1 (by decide) hw1 (fun _ h9 => h9) rfl dX3_read_14 ?_
  refine lv_iload_n hx hb dX3_read_17 rfl (lv_at hl 0 rfl) ?_
  refine lv_iload_n hx hb dX3_read_18 rfl (lv_at hl 1 rfl) ?_
  refine lv_bipush (v := 10) hx hb dX3_read_19 (by decide) ?_
  refine lv_irem hx hb dX3_read_21 (by decide) ?_
  refine lv_topi (fun x17 e17 => ?_)
  obtain rfl : x17 = 0 := e17.trans (by decide)
  refine va_iast hx hb hK hP hD hS 1 0 rfl rfl (vin (by decide) (by decide)) dX3_read_22 (fun H locs hP hD hS => ?_)
  replace hP : va_P (dC, dI) vwCl [(o, .inr (3, [.ref k, .ref op, .int 0, .ref oq, .ref ov, .ref os])), (op, .inl (cI, 6, .inl (upd (upd (upd (upd (fun _ => 0) 5 0) 4 0) 3 0) 2 0)))] H := hP
  replace hD : va_D A [(o, .inr (3, [.ref k, .ref op, .int 0, .ref oq, .ref ov, .ref os])), (op, .inl (cI, 6, .inl (upd (upd (upd (upd (fun _ => 0) 5 0) 4 0) 3 0) 2 0)))] := hD
  refine lv_aload_n hx hb dX3_read_23 rfl (lv_at hl 2 rfl) ?_
  refine lv_dup hx hb dX3_read_24 rfl ?_
  refine va_get (D := (dC, dI)) (ci := 3) (v := .int 0) (C := RX3) (T := TX3) (N := 6) hx hb hts hin3 hown hK hP 0 rfl rfl 2 (by decide) hw0 (fun _ h9 => h9) rfl dX3_read_25 ?_
  refine lv_aload_n hx hb dX3_read_28 rfl (lv_at hl 2 rfl) ?_
  refine va_get (D := (dC, dI)) (ci := 3) (v := .ref op) (C := RX3) (T := TX3) (N := 6) hx hb hts hin3 hown hK hP 0 rfl rfl 1 (by decide) hw1 (fun _ h9 => h9) rfl dX3_read_29 ?_
  refine lv_iload_n hx hb dX3_read_32 rfl (lv_at hl 0 rfl) ?_
  refine va_iald hx hb hK hP 1 0 rfl rfl (vin (by decide) (by decide)) dX3_read_33 ?_
  refine lv_topi (fun x18 e18 => ?_)
  obtain rfl : x18 = 0 := e18.trans (by first | rfl | decide)
  refine lv_iadd hx hb dX3_read_34 ?_
  refine lv_topi (fun x19 e19 => ?_)
  obtain rfl : x19 = 0 := e19.trans (by decide)
  refine va_put (D := (dC, dI)) (ci := 3) (v := .int 0) (ty := .int) (C := RX3) (T := TX3) (N := 6) hx hb hts hin3 tyX3 tyX3_ok nmX3 hown hK hP hD hS 0 rfl rfl 2 (by decide) hw0 (fun _ h9 => h9) rfl (by decide +kernel) rfl rfl (Nat.le_of_ble_eq_true rfl) dX3_read_35 (fun H locs hP hD hS => ?_)
  replace hP : va_P (dC, dI) vwCl [(o, .inr (3, [.ref k, .ref op, .int 0, .ref oq, .ref ov, .ref os])), (op, .inl (cI, 6, .inl (upd (upd (upd (upd (fun _ => 0) 5 0) 4 0) 3 0) 2 0)))] H := hP
  replace hD : va_D A [(o, .inr (3, [.ref k, .ref op, .int 0, .ref oq, .ref ov, .ref os])), (op, .inl (cI, 6, .inl (upd (upd (upd (upd (fun _ => 0) 5 0) 4 0) 3 0) 2 0)))] := hD
  refine lv_iload_n hx hb dX3_read_38 rfl (lv_at hl 1 rfl) ?_
  refine lv_bipush (v := 10) hx hb dX3_read_39 (by decide) ?_
  refine lv_idiv hx hb dX3_read_41 (by decide) ?_
  refine lv_topi (fun x20 e20 => ?_)
  obtain rfl : x20 = 0 := e20.trans (by decide)
  refine lv_istore_n (lv' := [(2, .int 0), (3, .int 2), (0, .ref o), (1, .int 0)]) hx hb dX3_read_42 rfl hl (by decide) rfl (fun ls hl => ?_)
  refine lv_iinc (v := 1) (lv' := [(3, .int 1), (2, .int 0), (0, .ref o), (1, .int 0)]) hx hb dX3_read_43 hl (k := 1) rfl (by decide) (by decide) rfl (fun ls hl => ?_)
  refine lv_goto (tgt := 9) hx hb dX3_read_46 (by decide) ?_
  refine lv_iload_n hx hb dX3_read_9 rfl (lv_at hl 0 rfl) ?_
  refine lv_if_lt (tgt := 49) hx hb dX3_read_10 (by decide) (fun c21 => absurd c21 (by decide)) (fun c21 => ?_)
  refine lv_aload_n hx hb dX3_read_13 rfl (lv_at hl 2 rfl) ?_
  refine va_get (D := (dC, dI)) (ci := 3) (v := .ref op) (C := RX3) (T := TX3) (N := 6) hx hb hts hin3 hown hK hP 0 rfl rfl 1 (by decide) hw1 (fun _ h9 => h9) rfl dX3_read_14 ?_
  refine lv_iload_n hx hb dX3_read_17 rfl (lv_at hl 0 rfl) ?_
  refine lv_iload_n hx hb dX3_read_18 rfl (lv_at hl 1 rfl) ?_
  refine lv_bipush (v := 10) hx hb dX3_read_19 (by decide) ?_
  refine lv_irem hx hb dX3_read_21 (by decide) ?_
  refine lv_topi (fun x22 e22 => ?_)
  obtain rfl : x22 = 0 := e22.trans (by decide)
  refine va_iast hx hb hK hP hD hS 1 0 rfl rfl (vin (by decide) (by decide)) dX3_read_22 (fun H locs hP hD hS => ?_)
  replace hP : va_P (dC, dI) vwCl [(o, .inr (3, [.ref k, .ref op, .int 0, .ref oq, .ref ov, .ref os])), (op, .inl (cI, 6, .inl (upd (upd (upd (upd (upd (fun _ => 0) 5 0) 4 0) 3 0) 2 0) 1 0)))] H := hP
  replace hD : va_D A [(o, .inr (3, [.ref k, .ref op, .int 0, .ref oq, .ref ov, .ref os])), (op, .inl (cI, 6, .inl (upd (upd (upd (upd (upd (fun _ => 0) 5 0) 4 0) 3 0) 2 0) 1 0)))] := hD
  refine lv_aload_n hx hb dX3_read_23 rfl (lv_at hl 2 rfl) ?_
  refine lv_dup hx hb dX3_read_24 rfl ?_
  refine va_get (D := (dC, dI)) (ci := 3) (v := .int 0) (C := RX3) (T := TX3) (N := 6) hx hb hts hin3 hown hK hP 0 rfl rfl 2 (by decide) hw0 (fun _ h9 => h9) rfl dX3_read_25 ?_
  refine lv_aload_n hx hb dX3_read_28 rfl (lv_at hl 2 rfl) ?_
  refine va_get (D := (dC, dI)) (ci := 3) (v := .ref op) (C := RX3) (T := TX3) (N := 6) hx hb hts hin3 hown hK hP 0 rfl rfl 1 (by decide) hw1 (fun _ h9 => h9) rfl dX3_read_29 ?_
  refine lv_iload_n hx hb dX3_read_32 rfl (lv_at hl 0 rfl) ?_
  refine va_iald hx hb hK hP 1 0 rfl rfl (vin (by decide) (by decide)) dX3_read_33 ?_
  refine lv_topi (fun x23 e23 => ?_)
  obtain rfl : x23 = 0 := e23.trans (by first | rfl | decide)
  refine lv_iadd hx hb dX3_read_34 ?_
  refine lv_topi (fun x24 e24 => ?_)
  obtain rfl : x24 = 0 := e24.trans (by decide)
  refine va_put (D := (dC, dI)) (ci := 3) (v := .int 0) (ty := .int) (C := RX3) (T := TX3) (N := 6) hx hb hts hin3 tyX3 tyX3_ok nmX3 hown hK hP hD hS 0 rfl rfl 2 (by decide) hw0 (fun _ h9 => h9) rfl (by decide +kernel) rfl rfl (Nat.le_of_ble_eq_true rfl) dX3_read_35 (fun H locs hP hD hS => ?_)
  replace hP : va_P (dC, dI) vwCl [(o, .inr (3, [.ref k, .ref op, .int 0, .ref oq, .ref ov, .ref os])), (op, .inl (cI, 6, .inl (upd (upd (upd (upd (upd (fun _ => 0) 5 0) 4 0) 3 0) 2 0) 1 0)))] H := hP
  replace hD : va_D A [(o, .inr (3, [.ref k, .ref op, .int 0, .ref oq, .ref ov, .ref os])), (op, .inl (cI, 6, .inl (upd (upd (upd (upd (upd (fun _ => 0) 5 0) 4 0) 3 0) 2 0) 1 0)))] := hD
  refine lv_iload_n hx hb dX3_read_38 rfl (lv_at hl 1 rfl) ?_
  refine lv_bipush (v := 10) hx hb dX3_read_39 (by decide) ?_
  refine lv_idiv hx hb dX3_read_41 (by decide) ?_
  refine lv_topi (fun x25 e25 => ?_)
  obtain rfl : x25 = 0 := e25.trans (by decide)
  refine lv_istore_n (lv' := [(2, .int 0), (3, .int 1), (0, .ref o), (1, .int 0)]) hx hb dX3_read_42 rfl hl (by decide) rfl (fun ls hl => ?_)
  refine lv_iinc (v := 0) (lv' := [(3, .int 0), (2, .int 0), (0, .ref o), (1, .int 0)]) hx hb dX3_read_43 hl (k := 1) rfl (by decide) (by decide) rfl (fun ls hl => ?_)
  refine lv_goto (tgt := 9) hx hb dX3_read_46 (by decide) ?_
  refine lv_iload_n hx hb dX3_read_9 rfl (lv_at hl 0 rfl) ?_
  refine lv_if_lt (tgt := 49) hx hb dX3_read_10 (by decide) (fun c26 => absurd c26 (by decide)) (fun c26 => ?_)
  refine lv_aload_n hx hb dX3_read_13 rfl (lv_at hl 2 rfl) ?_
  refine va_get (D := (dC, dI)) (ci := 3) (v := .ref op) (C := RX3) (T := TX3) (N := 6) hx hb hts hin3 hown hK hP 0 rfl rfl 1 (by decide) hw1 (fun _ h9 => h9) rfl dX3_read_14 ?_
  refine lv_iload_n hx hb dX3_read_17 rfl (lv_at hl 0 rfl) ?_
  refine lv_iload_n hx hb dX3_read_18 rfl (lv_at hl 1 rfl) ?_
  refine lv_bipush (v := 10) hx hb dX3_read_19 (by decide) ?_
  refine lv_irem hx hb dX3_read_21 (by decide) ?_
  refine lv_topi (fun x27 e27 => ?_)
  obtain rfl : x27 = 0 := e27.trans (by decide)
  refine va_iast hx hb hK hP hD hS 1 0 rfl rfl (vin (by decide) (by decide)) dX3_read_22 (fun H locs hP hD hS => ?_)
  replace hP : va_P (dC, dI) vwCl [(o, .inr (3, [.ref k, .ref op, .int 0, .ref oq, .ref ov, .ref os])), (op, .inl (cI, 6, .inl (upd (upd (upd (upd (upd (upd (fun _ => 0) 5 0) 4 0) 3 0) 2 0) 1 0) 0 0)))] H := hP
  replace hD : va_D A [(o, .inr (3, [.ref k, .ref op, .int 0, .ref oq, .ref ov, .ref os])), (op, .inl (cI, 6, .inl (upd (upd (upd (upd (upd (upd (fun _ => 0) 5 0) 4 0) 3 0) 2 0) 1 0) 0 0)))] := hD
  refine lv_aload_n hx hb dX3_read_23 rfl (lv_at hl 2 rfl) ?_
  refine lv_dup hx hb dX3_read_24 rfl ?_
  refine va_get (D := (dC, dI)) (ci := 3) (v := .int 0) (C := RX3) (T := TX3) (N := 6) hx hb hts hin3 hown hK hP 0 rfl rfl 2 (by decide) hw0 (fun _ h9 => h9) rfl dX3_read_25 ?_
  refine lv_aload_n hx hb dX3_read_28 rfl (lv_at hl 2 rfl) ?_
  refine va_get (D := (dC, dI)) (ci := 3) (v := .ref op) (C := RX3) (T := TX3) (N := 6) hx hb hts hin3 hown hK hP 0 rfl rfl 1 (by decide) hw1 (fun _ h9 => h9) rfl dX3_read_29 ?_
  refine lv_iload_n hx hb dX3_read_32 rfl (lv_at hl 0 rfl) ?_
  refine va_iald hx hb hK hP 1 0 rfl rfl (vin (by decide) (by decide)) dX3_read_33 ?_
  refine lv_topi (fun x28 e28 => ?_)
  obtain rfl : x28 = 0 := e28.trans (by first | rfl | decide)
  refine lv_iadd hx hb dX3_read_34 ?_
  refine lv_topi (fun x29 e29 => ?_)
  obtain rfl : x29 = 0 := e29.trans (by decide)
  refine va_put (D := (dC, dI)) (ci := 3) (v := .int 0) (ty := .int) (C := RX3) (T := TX3) (N := 6) hx hb hts hin3 tyX3 tyX3_ok nmX3 hown hK hP hD hS 0 rfl rfl 2 (by decide) hw0 (fun _ h9 => h9) rfl (by decide +kernel) rfl rfl (Nat.le_of_ble_eq_true rfl) dX3_read_35 (fun H locs hP hD hS => ?_)
  replace hP : va_P (dC, dI) vwCl [(o, .inr (3, [.ref k, .ref op, .int 0, .ref oq, .ref ov, .ref os])), (op, .inl (cI, 6, .inl (upd (upd (upd (upd (upd (upd (fun _ => 0) 5 0) 4 0) 3 0) 2 0) 1 0) 0 0)))] H := hP
  replace hD : va_D A [(o, .inr (3, [.ref k, .ref op, .int 0, .ref oq, .ref ov, .ref os])), (op, .inl (cI, 6, .inl (upd (upd (upd (upd (upd (upd (fun _ => 0) 5 0) 4 0) 3 0) 2 0) 1 0) 0 0)))] := hD
  refine lv_iload_n hx hb dX3_read_38 rfl (lv_at hl 1 rfl) ?_
  refine lv_bipush (v := 10) hx hb dX3_read_39 (by decide) ?_
  refine lv_idiv hx hb dX3_read_41 (by decide) ?_
  refine lv_topi (fun x30 e30 => ?_)
  obtain rfl : x30 = 0 := e30.trans (by decide)
  refine lv_istore_n (lv' := [(2, .int 0), (3, .int 0), (0, .ref o), (1, .int 0)]) hx hb dX3_read_42 rfl hl (by decide) rfl (fun ls hl => ?_)
  refine lv_iinc (v := (-1)) (lv' := [(3, .int (-1)), (2, .int 0), (0, .ref o), (1, .int 0)]) hx hb dX3_read_43 hl (k := 1) rfl (by decide) (by decide) rfl (fun ls hl => ?_)
  refine lv_goto (tgt := 9) hx hb dX3_read_46 (by decide) ?_
  refine lv_iload_n hx hb dX3_read_9 rfl (lv_at hl 0 rfl) ?_
  refine lv_if_lt (tgt := 49) hx hb dX3_read_10 (by decide) (fun c31 => ?_) (fun c31 => absurd c31 (by decide))
  have hP9 := mx_subP (wc := [(o, .inr (3, [.ref k, .ref op, .int 0, .ref oq, .ref ov, .ref os])), (op, .inl (cI, 6, .inl (upd (upd (upd (upd (upd (upd (fun _ => 0) 5 0) 4 0) 3 0) 2 0) 1 0) 0 0)))]) hP [0, 1] rfl
  have hD9 := hD.sub (ws' := [(o, .inr (3, [.ref k, .ref op, .int 0, .ref oq, .ref ov, .ref os])), (op, .inl (cI, 6, .inl (upd (upd (upd (upd (upd (upd (fun _ => 0) 5 0) 4 0) 3 0) 2 0) 1 0) 0 0)))]) [0, 1] (by decide) rfl
  exact W.vret hx hb hr (fun t ht hW => ⟨⟨(), rfl, trivial, by rw [ht]; exact hP9, hD9⟩, hS.F ht⟩) hS.2.2 dX3_read_49
set_option maxHeartbeats 4000000 in
set_option maxRecDepth 100000 in
theorem c_X3_isOfMealsThatAre0 (l : Launch) (dC : Nat → ClassId) (dI : Nat → Nat → Nat) (cI cZ cK : ClassId) (tS aK aV : Nat) (o : Nat) (k : Nat) (op : Nat) (oq : Nat) (ov : Nat) (os : Nat) (sz : Nat) : Ci l yX3_isOfMealsThatAre (wq yX3_isOfMealsThatAre cX3_isOfMealsThatAre 2 (some .boolean)) ({ frames := 0, cells := 0, slots := 0, locals := 0 }) dC dI cI cZ cK tS aK aV [.ref o] sz [(o, .inr (3, [.ref k, .ref op, .int 0, .ref oq, .ref ov, .ref os])), (op, .inl (cI, 6, .inl (upd (upd (upd (upd (upd (upd (fun _ => 0) 5 0) 4 0) 3 0) 2 0) 1 0) 0 0)))] (fun (r : Int32) (_ : Unit) => r = 1) (fun _ => [(o, .inr (3, [.ref k, .ref op, .int 0, .ref oq, .ref ov, .ref os])), (op, .inl (cI, 6, .inl (upd (upd (upd (upd (upd (upd (fun _ => 0) 5 0) 4 0) 3 0) 2 0) 1 0) 0 0)))]) := by
  refine Met.ofW (cc := cX3_isOfMealsThatAre) (maxL := 2) (ret := (some .boolean)) (by decide) rfl ?_
  intro p e s m args below meth c s₁ B hml hv
  obtain ⟨rfl, hsz, hP, hKx, hD0⟩ := hv
  have hx := B.exec
  have hb := B.bytes
  have hr := B.returns
  have hts := atoms_spec (ws := wq yX3_isOfMealsThatAre cX3_isOfMealsThatAre 2 (some .boolean)) B.pre
  have hown : s.vm.findClass RX3 = some m.cls := findClass_of_methodNamed B.named
  have hlocks := B.notSynchronized
  subst hsz
  have hD := hD0.self (sz := s.heap.size)
  generalize hAe : va_A [(o, .inr (3, [.ref k, .ref op, .int 0, .ref oq, .ref ov, .ref os])), (op, .inl (cI, 6, .inl (upd (upd (upd (upd (upd (upd (fun _ => 0) 5 0) 4 0) 3 0) 2 0) 1 0) 0 0)))] s.heap.size = A at hD hKx ⊢
  have hA : ∀ q : Nat, s.heap.size ≤ q → A q := fun q h => by rw [← hAe]; exact Or.inr h
  have hS : va_S A s.heap s.heap [] := va_S.rf
  have hP : va_P (dC, dI) vwCl [(o, .inr (3, [.ref k, .ref op, .int 0, .ref oq, .ref ov, .ref os])), (op, .inl (cI, 6, .inl (upd (upd (upd (upd (upd (upd (fun _ => 0) 5 0) 4 0) 3 0) 2 0) 1 0) 0 0)))] s.heap := hP
  have hl := lv_entry ([.ref o]) (n := 2) (Nat.le_of_ble_eq_true rfl)
  rw [lg_entry_eq]
  generalize (lg_sl ([.ref o]) ++ List.replicate (2 - (lg_sl ([.ref o])).length) Slot.unset).toArray = ls at hl ⊢
  have hl : lv_has ls 2 [(0, .ref o)] := hl
  have hK := hKx.1
  have hin3 := fun w9 h9 => List.mem_cons_of_mem (Cond.code yX3_isOfMealsThatAre cX3_isOfMealsThatAre 2 (some .boolean)) (inlX3 w9 h9)
  have hw0 := hts (.fieldLink RX3 9 "OneCan$Order" "portions" "[I") (List.mem_cons_of_mem _ wm_140)
  refine lv_iconst (v := 0) hx hb dX3_isOfMealsThatAre_0 (by decide) ?_
  refine lv_istore_n (lv' := [(1, .int 0), (0, .ref o)]) hx hb dX3_isOfMealsThatAre_1 rfl hl (by decide) rfl (fun ls hl => ?_)
  refine lv_iload_n hx hb dX3_isOfMealsThatAre_2 rfl (lv_at hl 0 rfl) ?_
  refine lv_bipush (v := 6) hx hb dX3_isOfMealsThatAre_3 (by decide) ?_
  refine lv_icmp_ge (tgt := 36) hx hb dX3_isOfMealsThatAre_5 (by decide) (fun c1 => absurd c1 (by decide)) (fun c1 => ?_)
  refine lv_aload_n hx hb dX3_isOfMealsThatAre_8 rfl (lv_at hl 1 rfl) ?_
  refine va_get (D := (dC, dI)) (ci := 3) (v := .ref op) (C := RX3) (T := TX3) (N := 6) hx hb hts hin3 hown hK hP 0 rfl rfl 1 (by decide) hw0 (fun _ h9 => h9) rfl dX3_isOfMealsThatAre_9 ?_
  refine lv_iload_n hx hb dX3_isOfMealsThatAre_12 rfl (lv_at hl 0 rfl) ?_
  refine va_iald hx hb hK hP 1 0 rfl rfl (vin (by decide) (by decide)) dX3_isOfMealsThatAre_13 ?_
  refine lv_topi (fun x2 e2 => ?_)
  obtain rfl : x2 = 0 := e2.trans (by first | rfl | decide)
  refine lv_if_le (tgt := 30) hx hb dX3_isOfMealsThatAre_14 (by decide) (fun c3 => ?_) (fun c3 => absurd c3 (by decide))
  refine lv_iinc (v := 1) (lv' := [(1, .int 1), (0, .ref o)]) hx hb dX3_isOfMealsThatAre_30 hl (k := 0) rfl (by decide) (by decide) rfl (fun ls hl => ?_)
  refine lv_goto (tgt := 2) hx hb dX3_isOfMealsThatAre_33 (by decide) ?_
  refine lv_iload_n hx hb dX3_isOfMealsThatAre_2 rfl (lv_at hl 0 rfl) ?_
  refine lv_bipush (v := 6) hx hb dX3_isOfMealsThatAre_3 (by decide) ?_
  refine lv_icmp_ge (tgt := 36) hx hb dX3_isOfMealsThatAre_5 (by decide) (fun c4 => absurd c4 (by decide)) (fun c4 => ?_)
  refine lv_aload_n hx hb dX3_isOfMealsThatAre_8 rfl (lv_at hl 1 rfl) ?_
  refine va_get (D := (dC, dI)) (ci := 3) (v := .ref op) (C := RX3) (T := TX3) (N := 6) hx hb hts hin3 hown hK hP 0 rfl rfl 1 (by decide) hw0 (fun _ h9 => h9) rfl dX3_isOfMealsThatAre_9 ?_
  refine lv_iload_n hx hb dX3_isOfMealsThatAre_12 rfl (lv_at hl 0 rfl) ?_
  refine va_iald hx hb hK hP 1 0 rfl rfl (vin (by decide) (by decide)) dX3_isOfMealsThatAre_13 ?_
  refine lv_topi (fun x5 e5 => ?_)
  obtain rfl : x5 = 0 := e5.trans (by first | rfl | decide)
  refine lv_if_le (tgt := 30) hx hb dX3_isOfMealsThatAre_14 (by decide) (fun c6 => ?_) (fun c6 => absurd c6 (by decide))
  refine lv_iinc (v := 2) (lv' := [(1, .int 2), (0, .ref o)]) hx hb dX3_isOfMealsThatAre_30 hl (k := 0) rfl (by decide) (by decide) rfl (fun ls hl => ?_)
  refine lv_goto (tgt := 2) hx hb dX3_isOfMealsThatAre_33 (by decide) ?_
  refine lv_iload_n hx hb dX3_isOfMealsThatAre_2 rfl (lv_at hl 0 rfl) ?_
  refine lv_bipush (v := 6) hx hb dX3_isOfMealsThatAre_3 (by decide) ?_
  refine lv_icmp_ge (tgt := 36) hx hb dX3_isOfMealsThatAre_5 (by decide) (fun c7 => absurd c7 (by decide)) (fun c7 => ?_)
  refine lv_aload_n hx hb dX3_isOfMealsThatAre_8 rfl (lv_at hl 1 rfl) ?_
  refine va_get (D := (dC, dI)) (ci := 3) (v := .ref op) (C := RX3) (T := TX3) (N := 6) hx hb hts hin3 hown hK hP 0 rfl rfl 1 (by decide) hw0 (fun _ h9 => h9) rfl dX3_isOfMealsThatAre_9 ?_
  refine lv_iload_n hx hb dX3_isOfMealsThatAre_12 rfl (lv_at hl 0 rfl) ?_
  refine va_iald hx hb hK hP 1 0 rfl rfl (vin (by decide) (by decide)) dX3_isOfMealsThatAre_13 ?_
  refine lv_topi (fun x8 e8 => ?_)
  obtain rfl : x8 = 0 := e8.trans (by first | rfl | decide)
  refine lv_if_le (tgt := 30) hx hb dX3_isOfMealsThatAre_14 (by decide) (fun c9 => ?_) (fun c9 => absurd c9 (by decide))
  refine lv_iinc (v := 3) (lv' := [(1, .int 3), (0, .ref o)]) hx hb dX3_isOfMealsThatAre_30 hl (k := 0) rfl (by decide) (by decide) rfl (fun ls hl => ?_)
  refine lv_goto (tgt := 2) hx hb dX3_isOfMealsThatAre_33 (by decide) ?_
  refine lv_iload_n hx hb dX3_isOfMealsThatAre_2 rfl (lv_at hl 0 rfl) ?_
  refine lv_bipush (v := 6) hx hb dX3_isOfMealsThatAre_3 (by decide) ?_
  refine lv_icmp_ge (tgt := 36) hx hb dX3_isOfMealsThatAre_5 (by decide) (fun c10 => absurd c10 (by decide)) (fun c10 => ?_)
  refine lv_aload_n hx hb dX3_isOfMealsThatAre_8 rfl (lv_at hl 1 rfl) ?_
  refine va_get (D := (dC, dI)) (ci := 3) (v := .ref op) (C := RX3) (T := TX3) (N := 6) hx hb hts hin3 hown hK hP 0 rfl rfl 1 (by decide) hw0 (fun _ h9 => h9) rfl dX3_isOfMealsThatAre_9 ?_
  refine lv_iload_n hx hb dX3_isOfMealsThatAre_12 rfl (lv_at hl 0 rfl) ?_
  refine va_iald hx hb hK hP 1 0 rfl rfl (vin (by decide) (by decide)) dX3_isOfMealsThatAre_13 ?_
  refine lv_topi (fun x11 e11 => ?_)
  obtain rfl : x11 = 0 := e11.trans (by first | rfl | decide)
  refine lv_if_le (tgt := 30) hx hb dX3_isOfMealsThatAre_14 (by decide) (fun c12 => ?_) (fun c12 => absurd c12 (by decide))
  refine lv_iinc (v := 4) (lv' := [(1, .int 4), (0, .ref o)]) hx hb dX3_isOfMealsThatAre_30 hl (k := 0) rfl (by decide) (by decide) rfl (fun ls hl => ?_)
  refine lv_goto (tgt := 2) hx hb dX3_isOfMealsThatAre_33 (by decide) ?_
  refine lv_iload_n hx hb dX3_isOfMealsThatAre_2 rfl (lv_at hl 0 rfl) ?_
  refine lv_bipush (v := 6) hx hb dX3_isOfMealsThatAre_3 (by decide) ?_
  refine lv_icmp_ge (tgt := 36) hx hb dX3_isOfMealsThatAre_5 (by decide) (fun c13 => absurd c13 (by decide)) (fun c13 => ?_)
  refine lv_aload_n hx hb dX3_isOfMealsThatAre_8 rfl (lv_at hl 1 rfl) ?_
  refine va_get (D := (dC, dI)) (ci := 3) (v := .ref op) (C := RX3) (T := TX3) (N := 6) hx hb hts hin3 hown hK hP 0 rfl rfl 1 (by decide) hw0 (fun _ h9 => h9) rfl dX3_isOfMealsThatAre_9 ?_
  refine lv_iload_n hx hb dX3_isOfMealsThatAre_12 rfl (lv_at hl 0 rfl) ?_
  refine va_iald hx hb hK hP 1 0 rfl rfl (vin (by decide) (by decide)) dX3_isOfMealsThatAre_13 ?_
  refine lv_topi (fun x14 e14 => ?_)
  obtain rfl : x14 = 0 := e14.trans (by first | rfl | decide)
  refine lv_if_le (tgt := 30) hx hb dX3_isOfMealsThatAre_14 (by decide) (fun c15 => ?_) (fun c15 => absurd c15 (by decide))
  refine lv_iinc (v := 5) (lv' := [(1, .int 5), (0, .ref o)]) hx hb dX3_isOfMealsThatAre_30 hl (k := 0) rfl (by decide) (by decide) rfl (fun ls hl => ?_)
  refine lv_goto (tgt := 2) hx hb dX3_isOfMealsThatAre_33 (by decide) ?_
  refine lv_iload_n hx hb dX3_isOfMealsThatAre_2 rfl (lv_at hl 0 rfl) ?_
  refine lv_bipush (v := 6) hx hb dX3_isOfMealsThatAre_3 (by decide) ?_
  refine lv_icmp_ge (tgt := 36) hx hb dX3_isOfMealsThatAre_5 (by decide) (fun c16 => absurd c16 (by decide)) (fun c16 => ?_)
  refine lv_aload_n hx hb dX3_isOfMealsThatAre_8 rfl (lv_at hl 1 rfl) ?_
  refine va_get (D := (dC, dI)) (ci := 3) (v := .ref op) (C := RX3) (T := TX3) (N := 6) hx hb hts hin3 hown hK hP 0 rfl rfl 1 (by decide) hw0 (fun _ h9 => h9) rfl dX3_isOfMealsThatAre_9 ?_
  refine lv_iload_n hx hb dX3_isOfMealsThatAre_12 rfl (lv_at hl 0 rfl) ?_
  refine va_iald hx hb hK hP 1 0 rfl rfl (vin (by decide) (by decide)) dX3_isOfMealsThatAre_13 ?_
  refine lv_topi (fun x17 e17 => ?_)
  obtain rfl : x17 = 0 := e17.trans (by first | rfl | decide)
  refine lv_if_le (tgt := 30) hx hb dX3_isOfMealsThatAre_14 (by decide) (fun c18 => ?_) (fun c18 => absurd c18 (by decide))
  refine lv_iinc (v := 6) (lv' := [(1, .int 6), (0, .ref o)]) hx hb dX3_isOfMealsThatAre_30 hl (k := 0) rfl (by decide) (by decide) rfl (fun ls hl => ?_)
  refine lv_goto (tgt := 2) hx hb dX3_isOfMealsThatAre_33 (by decide) ?_
  refine lv_iload_n hx hb dX3_isOfMealsThatAre_2 rfl (lv_at hl 0 rfl) ?_
  refine lv_bipush (v := 6) hx hb dX3_isOfMealsThatAre_3 (by decide) ?_
  refine lv_icmp_ge (tgt := 36) hx hb dX3_isOfMealsThatAre_5 (by decide) (fun c19 => ?_) (fun c19 => absurd c19 (by decide))
  refine lv_iconst (v := 1) hx hb dX3_isOfMealsThatAre_36 (by decide) ?_
  have hP9 := mx_subP (wc := [(o, .inr (3, [.ref k, .ref op, .int 0, .ref oq, .ref ov, .ref os])), (op, .inl (cI, 6, .inl (upd (upd (upd (upd (upd (upd (fun _ => 0) 5 0) 4 0) 3 0) 2 0) 1 0) 0 0)))]) hP [0, 1] rfl
  have hD9 := hD.sub (ws' := [(o, .inr (3, [.ref k, .ref op, .int 0, .ref oq, .ref ov, .ref os])), (op, .inl (cI, 6, .inl (upd (upd (upd (upd (upd (upd (fun _ => 0) 5 0) 4 0) 3 0) 2 0) 1 0) 0 0)))]) [0, 1] (by decide) rfl
  exact W.zret (v := 1) hx hb hr rfl (fun t ht hW => ⟨⟨1, (), rfl, rfl, by rw [ht]; exact hP9, hD9⟩, hS.F ht⟩) hS.2.2 dX3_isOfMealsThatAre_37
set_option maxHeartbeats 4000000 in
set_option maxRecDepth 100000 in
theorem c_X7_orderRefusal0 (l : Launch) (dC : Nat → ClassId) (dI : Nat → Nat → Nat) (cI cZ cK : ClassId) (tS aK aV : Nat) (h : Nat) (o : Nat) (f : Nat) (g : Nat) (wk : Nat) (im : Nat) (kt : Nat) (dl : Nat) (j : Nat) (k : Nat) (d : Nat) (op : Nat) (oq : Nat) (ov : Nat) (os : Nat) (i1 : Int32) (sz : Nat) : Ci l yX7_orderRefusal (wq yX7_orderRefusal cX7_orderRefusal 3 (some .int)) ({ frames := 2, cells := 0, slots := 0, locals := 42 }) dC dI cI cZ cK tS aK aV [.ref h, .int 0, .int i1] sz [(h, .inr (7, [.ref k, .ref d, .ref j, .ref o, .ref f, .ref g, .ref wk, .ref im, .ref kt, .ref dl])), (o, .inr (3, [.ref k, .ref op, .int 0, .ref oq, .ref ov, .ref os])), (op, .inl (cI, 6, .inl (fun _ => 0)))] (fun (r : Int32) (_ : Unit) => (r = 0 ∧ (0 ≤ i1.toInt ∧ i1.toInt ≤ 13)) ∨ (r = (-1) ∧ (i1.toInt < 0 ∨ 13 < i1.toInt))) (fun _ => [(h, .inr (7, [.ref k, .ref d, .ref j, .ref o, .ref f, .ref g, .ref wk, .ref im, .ref kt, .ref dl])), (o, .inr (3, [.ref k, .ref op, .int 0, .ref oq, .ref ov, .ref os])), (op, .inl (cI, 6, .inl (upd (upd (upd (upd (upd (upd (fun _ => 0) 5 0) 4 0) 3 0) 2 0) 1 0) 0 0)))]) := by
  refine Met.ofW (cc := cX7_orderRefusal) (maxL := 3) (ret := (some .int)) (by decide) rfl ?_
  intro p e s m args below meth c s₁ B hml hv
  obtain ⟨rfl, hsz, hP, hKx, hD0⟩ := hv
  have hx := B.exec
  have hb := B.bytes
  have hr := B.returns
  have hts := atoms_spec (ws := wq yX7_orderRefusal cX7_orderRefusal 3 (some .int)) B.pre
  have hown : s.vm.findClass RX7 = some m.cls := findClass_of_methodNamed B.named
  have hlocks := B.notSynchronized
  subst hsz
  have hD := hD0.self (sz := s.heap.size)
  generalize hAe : va_A [(h, .inr (7, [.ref k, .ref d, .ref j, .ref o, .ref f, .ref g, .ref wk, .ref im, .ref kt, .ref dl])), (o, .inr (3, [.ref k, .ref op, .int 0, .ref oq, .ref ov, .ref os])), (op, .inl (cI, 6, .inl (fun _ => 0)))] s.heap.size = A at hD hKx ⊢
  have hA : ∀ q : Nat, s.heap.size ≤ q → A q := fun q h => by rw [← hAe]; exact Or.inr h
  have hS : va_S A s.heap s.heap [] := va_S.rf
  have hP : va_P (dC, dI) vwCl [(h, .inr (7, [.ref k, .ref d, .ref j, .ref o, .ref f, .ref g, .ref wk, .ref im, .ref kt, .ref dl])), (o, .inr (3, [.ref k, .ref op, .int 0, .ref oq, .ref ov, .ref os])), (op, .inl (cI, 6, .inl (fun _ => 0)))] s.heap := hP
  have hl := lv_entry ([.ref h, .int 0, .int i1]) (n := 3) (Nat.le_of_ble_eq_true rfl)
  rw [lg_entry_eq]
  generalize (lg_sl ([.ref h, .int 0, .int i1]) ++ List.replicate (3 - (lg_sl ([.ref h, .int 0, .int i1])).length) Slot.unset).toArray = ls at hl ⊢
  have hl : lv_has ls 3 [(0, .ref h), (1, .int 0), (2, .int i1)] := hl
  have hK := hKx.1
  have hin7 := fun w9 h9 => List.mem_cons_of_mem (Cond.code yX7_orderRefusal cX7_orderRefusal 3 (some .int)) (inlX7 w9 h9)
  have hw0 := hts (.constant RX7 282 999999) (List.mem_cons_of_mem _ wm_141)
  have hw1 := hts (.fieldLink RX7 37 "OneCan" "order" "LOneCan$Order;") (List.mem_cons_of_mem _ wm_142)
  refine lv_iload_n hx hb dX7_orderRefusal_0 rfl (lv_at hl 1 rfl) ?_
  refine lv_iconst (v := 0) hx hb dX7_orderRefusal_1 (by decide) ?_
  refine lv_ldcw (v := 999999) hx hb hown hw0 dX7_orderRefusal_2 ?_
  refine mx_i (wr := [(h, .inr (7, [.ref k, .ref d, .ref j, .ref o, .ref f, .ref g, .ref wk, .ref im, .ref kt, .ref dl])), (o, .inr (3, [.ref k, .ref op, .int 0, .ref oq, .ref ov, .ref os])), (op, .inl (cI, 6, .inl (fun _ => 0)))]) (va_runS (As := [.int 0, .int 0, .int 999999]) (rest := []) ⟨hx, hb, hml, hown, hts⟩ (c_X7_isIn l dC dI cI cZ cK tS aK aV 0 0 999999 s.heap.size) (va_cwS 3 hts (gw_s (fun _ h9 => List.mem_cons_of_mem _ h9) wm_0 wm_1 wm_2 wm_3) rfl rfl rfl (by decide +kernel) ⟨Nat.le_of_ble_eq_true rfl, Nat.le_of_ble_eq_true rfl⟩) (mx_preS hKx hP hD hS hA [] (by decide) rfl) rfl rfl hl.1 rfl (lv_room (Nat.le_of_ble_eq_true rfl)) dX7_orderRefusal_5 ⟨Nat.le_of_ble_eq_true rfl, Nat.le_of_ble_eq_true rfl⟩) hP hD hS hA [] [0, 1, 2] rfl rfl (by decide) (by decide) (fun r1 u1 H locs hq1 hP hD hS => ?_)
  replace hP : va_P (dC, dI) vwCl [(h, .inr (7, [.ref k, .ref d, .ref j, .ref o, .ref f, .ref g, .ref wk, .ref im, .ref kt, .ref dl])), (o, .inr (3, [.ref k, .ref op, .int 0, .ref oq, .ref ov, .ref os])), (op, .inl (cI, 6, .inl (fun _ => 0)))] H := hP
  replace hD : va_D A [(h, .inr (7, [.ref k, .ref d, .ref j, .ref o, .ref f, .ref g, .ref wk, .ref im, .ref kt, .ref dl])), (o, .inr (3, [.ref k, .ref op, .int 0, .ref oq, .ref ov, .ref os])), (op, .inl (cI, 6, .inl (fun _ => 0)))] := hD
  rcases hq1 with ⟨rfl, hf1⟩ | ⟨rfl, hf1⟩
  · have hf1 : (0 : Int) ≤ (0 : Int) ∧ (0 : Int) ≤ (999999 : Int) := hf1
    refine lv_if_ne (tgt := 14) hx hb dX7_orderRefusal_8 (by decide) (fun c2 => ?_) (fun c2 => absurd c2 (by decide))
    refine lv_aload_n hx hb dX7_orderRefusal_14 rfl (lv_at hl 0 rfl) ?_
    refine va_get (D := (dC, dI)) (ci := 7) (v := .ref o) (C := RX7) (T := TX7) (N := 10) hx hb hts hin7 hown hK hP 0 rfl rfl 3 (by decide) hw1 (fun _ h9 => h9) rfl dX7_orderRefusal_15 ?_
    refine lv_iload_n hx hb dX7_orderRefusal_18 rfl (lv_at hl 1 rfl) ?_
    refine mx_v (wr := [(h, .inr (7, [.ref k, .ref d, .ref j, .ref o, .ref f, .ref g, .ref wk, .ref im, .ref kt, .ref dl]))]) (va_runV (As := [.int 0]) (rest := []) ⟨hx, hb, hml, hown, hts⟩ (c_X3_read0 l dC dI cI cZ cK tS aK aV o k op oq ov os H.size) (cwV 1 hts (gw_v (fun _ h9 => List.mem_cons_of_mem _ h9) wm_143 wm_144 wm_145 wm_146 wm_147) rfl rfl rfl (by decide +kernel) ⟨Nat.le_of_ble_eq_true rfl, Nat.le_of_ble_eq_true rfl⟩) (mx_preV (C := RX3) (T := TX3) (N := 6) (ci := 3) hKx hP hD hS hA [1, 2] (by decide) rfl rfl rfl) rfl rfl hl.1 rfl (lv_room (Nat.le_of_ble_eq_true rfl)) dX7_orderRefusal_19 ⟨Nat.le_of_ble_eq_true rfl, Nat.le_of_ble_eq_true rfl⟩) hP hD hS hA [1, 2] [0] rfl rfl (by decide) (by decide) (fun u3 H locs hq3 hP hD hS => ?_)
    replace hP : va_P (dC, dI) vwCl [(h, .inr (7, [.ref k, .ref d, .ref j, .ref o, .ref f, .ref g, .ref wk, .ref im, .ref kt, .ref dl])), (o, .inr (3, [.ref k, .ref op, .int 0, .ref oq, .ref ov, .ref os])), (op, .inl (cI, 6, .inl (upd (upd (upd (upd (upd (upd (fun _ => 0) 5 0) 4 0) 3 0) 2 0) 1 0) 0 0)))] H := hP
    replace hD : va_D A [(h, .inr (7, [.ref k, .ref d, .ref j, .ref o, .ref f, .ref g, .ref wk, .ref im, .ref kt, .ref dl])), (o, .inr (3, [.ref k, .ref op, .int 0, .ref oq, .ref ov, .ref os])), (op, .inl (cI, 6, .inl (upd (upd (upd (upd (upd (upd (fun _ => 0) 5 0) 4 0) 3 0) 2 0) 1 0) 0 0)))] := hD
    refine lv_iload_n hx hb dX7_orderRefusal_22 rfl (lv_at hl 2 rfl) ?_
    refine mx_i (wr := [(h, .inr (7, [.ref k, .ref d, .ref j, .ref o, .ref f, .ref g, .ref wk, .ref im, .ref kt, .ref dl])), (o, .inr (3, [.ref k, .ref op, .int 0, .ref oq, .ref ov, .ref os])), (op, .inl (cI, 6, .inl (upd (upd (upd (upd (upd (upd (fun _ => 0) 5 0) 4 0) 3 0) 2 0) 1 0) 0 0)))]) (va_runS (As := [.int i1]) (rest := []) ⟨hx, hb, hml, hown, hts⟩ (c_X7_isDay l dC dI cI cZ cK tS aK aV i1 H.size) (va_cwS 1 hts (gw_s (fun _ h9 => List.mem_cons_of_mem _ h9) wm_86 wm_87 wm_2 wm_88) rfl rfl rfl (by decide +kernel) ⟨Nat.le_of_ble_eq_true rfl, Nat.le_of_ble_eq_true rfl⟩) (mx_preS hKx hP hD hS hA [] (by decide) rfl) rfl rfl hl.1 rfl (lv_room (Nat.le_of_ble_eq_true rfl)) dX7_orderRefusal_23 ⟨Nat.le_of_ble_eq_true rfl, Nat.le_of_ble_eq_true rfl⟩) hP hD hS hA [] [0, 1, 2] rfl rfl (by decide) (by decide) (fun r4 u4 H locs hq4 hP hD hS => ?_)
    replace hP : va_P (dC, dI) vwCl [(h, .inr (7, [.ref k, .ref d, .ref j, .ref o, .ref f, .ref g, .ref wk, .ref im, .ref kt, .ref dl])), (o, .inr (3, [.ref k, .ref op, .int 0, .ref oq, .ref ov, .ref os])), (op, .inl (cI, 6, .inl (upd (upd (upd (upd (upd (upd (fun _ => 0) 5 0) 4 0) 3 0) 2 0) 1 0) 0 0)))] H := hP
    replace hD : va_D A [(h, .inr (7, [.ref k, .ref d, .ref j, .ref o, .ref f, .ref g, .ref wk, .ref im, .ref kt, .ref dl])), (o, .inr (3, [.ref k, .ref op, .int 0, .ref oq, .ref ov, .ref os])), (op, .inl (cI, 6, .inl (upd (upd (upd (upd (upd (upd (fun _ => 0) 5 0) 4 0) 3 0) 2 0) 1 0) 0 0)))] := hD
    rcases hq4 with ⟨rfl, hf4⟩ | ⟨rfl, hf4⟩
    · have hf4 : 0 ≤ i1.toInt ∧ i1.toInt ≤ 13 := hf4
      refine lv_if_eq (tgt := 43) hx hb dX7_orderRefusal_26 (by decide) (fun c5 => absurd c5 (by decide)) (fun c5 => ?_)
      refine lv_aload_n hx hb dX7_orderRefusal_29 rfl (lv_at hl 0 rfl) ?_
      refine va_get (D := (dC, dI)) (ci := 7) (v := .ref o) (C := RX7) (T := TX7) (N := 10) hx hb hts hin7 hown hK hP 0 rfl rfl 3 (by decide) hw1 (fun _ h9 => h9) rfl dX7_orderRefusal_30 ?_
      refine mx_i (wr := [(h, .inr (7, [.ref k, .ref d, .ref j, .ref o, .ref f, .ref g, .ref wk, .ref im, .ref kt, .ref dl]))]) (va_runV (As := []) (rest := []) ⟨hx, hb, hml, hown, hts⟩ (c_X3_isOfMealsThatAre0 l dC dI cI cZ cK tS aK aV o k op oq ov os H.size) (cwV 0 hts (gw_v (fun _ h9 => List.mem_cons_of_mem _ h9) wm_148 wm_149 wm_150 wm_146 wm_151) rfl rfl rfl (by decide +kernel) ⟨Nat.le_of_ble_eq_true rfl, Nat.le_of_ble_eq_true rfl⟩) (mx_preV (C := RX3) (T := TX3) (N := 6) (ci := 3) hKx hP hD hS hA [1, 2] (by decide) rfl rfl rfl) rfl rfl hl.1 rfl (lv_room (Nat.le_of_ble_eq_true rfl)) dX7_orderRefusal_33 ⟨Nat.le_of_ble_eq_true rfl, Nat.le_of_ble_eq_true rfl⟩) hP hD hS hA [1, 2] [0] rfl rfl (by decide) (by decide) (fun r6 u6 H locs hq6 hP hD hS => ?_)
      replace hP : va_P (dC, dI) vwCl [(h, .inr (7, [.ref k, .ref d, .ref j, .ref o, .ref f, .ref g, .ref wk, .ref im, .ref kt, .ref dl])), (o, .inr (3, [.ref k, .ref op, .int 0, .ref oq, .ref ov, .ref os])), (op, .inl (cI, 6, .inl (upd (upd (upd (upd (upd (upd (fun _ => 0) 5 0) 4 0) 3 0) 2 0) 1 0) 0 0)))] H := hP
      replace hD : va_D A [(h, .inr (7, [.ref k, .ref d, .ref j, .ref o, .ref f, .ref g, .ref wk, .ref im, .ref kt, .ref dl])), (o, .inr (3, [.ref k, .ref op, .int 0, .ref oq, .ref ov, .ref os])), (op, .inl (cI, 6, .inl (upd (upd (upd (upd (upd (upd (fun _ => 0) 5 0) 4 0) 3 0) 2 0) 1 0) 0 0)))] := hD
      obtain rfl : r6 = 1 := hq6
      refine lv_if_eq (tgt := 43) hx hb dX7_orderRefusal_36 (by decide) (fun c7 => absurd c7 (by decide)) (fun c7 => ?_)
      refine lv_iconst (v := 0) hx hb dX7_orderRefusal_39 (by decide) ?_
      refine lv_goto (tgt := 44) hx hb dX7_orderRefusal_40 (by decide) ?_
      have hP9 := mx_subP (wc := [(h, .inr (7, [.ref k, .ref d, .ref j, .ref o, .ref f, .ref g, .ref wk, .ref im, .ref kt, .ref dl])), (o, .inr (3, [.ref k, .ref op, .int 0, .ref oq, .ref ov, .ref os])), (op, .inl (cI, 6, .inl (upd (upd (upd (upd (upd (upd (fun _ => 0) 5 0) 4 0) 3 0) 2 0) 1 0) 0 0)))]) hP [0, 1, 2] rfl
      have hD9 := hD.sub (ws' := [(h, .inr (7, [.ref k, .ref d, .ref j, .ref o, .ref f, .ref g, .ref wk, .ref im, .ref kt, .ref dl])), (o, .inr (3, [.ref k, .ref op, .int 0, .ref oq, .ref ov, .ref os])), (op, .inl (cI, 6, .inl (upd (upd (upd (upd (upd (upd (fun _ => 0) 5 0) 4 0) 3 0) 2 0) 1 0) 0 0)))]) [0, 1, 2] (by decide) rfl
      exact W.iret (v := 0) hx hb hr (fun t ht hW => ⟨⟨0, (), rfl, (by first | exact Or.inl (⟨rfl, by omega⟩) | exact Or.inr (⟨rfl, by omega⟩)), by rw [ht]; exact hP9, hD9⟩, hS.F ht⟩) hS.2.2 dX7_orderRefusal_44
    · have hf4 : i1.toInt < 0 ∨ 13 < i1.toInt := hf4
      refine lv_if_eq (tgt := 43) hx hb dX7_orderRefusal_26 (by decide) (fun c8 => ?_) (fun c8 => absurd c8 (by decide))
      refine lv_iconst (v := (-1)) hx hb dX7_orderRefusal_43 (by decide) ?_
      have hP9 := mx_subP (wc := [(h, .inr (7, [.ref k, .ref d, .ref j, .ref o, .ref f, .ref g, .ref wk, .ref im, .ref kt, .ref dl])), (o, .inr (3, [.ref k, .ref op, .int 0, .ref oq, .ref ov, .ref os])), (op, .inl (cI, 6, .inl (upd (upd (upd (upd (upd (upd (fun _ => 0) 5 0) 4 0) 3 0) 2 0) 1 0) 0 0)))]) hP [0, 1, 2] rfl
      have hD9 := hD.sub (ws' := [(h, .inr (7, [.ref k, .ref d, .ref j, .ref o, .ref f, .ref g, .ref wk, .ref im, .ref kt, .ref dl])), (o, .inr (3, [.ref k, .ref op, .int 0, .ref oq, .ref ov, .ref os])), (op, .inl (cI, 6, .inl (upd (upd (upd (upd (upd (upd (fun _ => 0) 5 0) 4 0) 3 0) 2 0) 1 0) 0 0)))]) [0, 1, 2] (by decide) rfl
      exact W.iret (v := (-1)) hx hb hr (fun t ht hW => ⟨⟨(-1), (), rfl, (by first | exact Or.inl (⟨rfl, by omega⟩) | exact Or.inr (⟨rfl, by omega⟩)), by rw [ht]; exact hP9, hD9⟩, hS.F ht⟩) hS.2.2 dX7_orderRefusal_44
  · exfalso; have hf1 : (0 : Int) < (0 : Int) ∨ (999999 : Int) < (0 : Int) := hf1; omega
set_option maxHeartbeats 4000000 in
set_option maxRecDepth 100000 in
theorem c_X7_spreadRefusal0 (l : Launch) (dC : Nat → ClassId) (dI : Nat → Nat → Nat) (cI cZ cK : ClassId) (tS aK aV : Nat) (h : Nat) (o : Nat) (f : Nat) (g : Nat) (wk : Nat) (im : Nat) (kt : Nat) (dl : Nat) (j : Nat) (k : Nat) (ks : Nat) (kw : Nat) (kc : Nat) (kq : Nat) (km : Nat) (kd : Nat) (ka : Nat) (kk : Nat) (d : Nat) (op : Nat) (oq : Nat) (ov : Nat) (os : Nat) (i1 : Int32) (sz : Nat) : Ci l yX7_spreadRefusal (wq yX7_spreadRefusal cX7_spreadRefusal 4 (some .int)) ({ frames := 3, cells := 0, slots := 0, locals := 64 }) dC dI cI cZ cK tS aK aV [.ref h, .int 0, .int i1] sz [(h, .inr (7, [.ref k, .ref d, .ref j, .ref o, .ref f, .ref g, .ref wk, .ref im, .ref kt, .ref dl])), (o, .inr (3, [.ref k, .ref op, .int 0, .ref oq, .ref ov, .ref os])), (op, .inl (cI, 6, .inl (fun _ => 0))), (k, .inr (0, [.ref ks, .ref kw, .ref kc, .int (-6), .int 0, .int 0, .ref kq, .ref km, .ref kd, .int 0, .ref ka, .ref kk])), (ks, .inl (cI, 5, .inl (upd (fun _ => 0) 0 800)))] (fun (r : Int32) (_ : Unit) => (r = 0 ∧ (0 ≤ i1.toInt ∧ i1.toInt ≤ 13)) ∨ (r = (-1) ∧ (i1.toInt < 0 ∨ 13 < i1.toInt))) (fun _ => [(h, .inr (7, [.ref k, .ref d, .ref j, .ref o, .ref f, .ref g, .ref wk, .ref im, .ref kt, .ref dl])), (o, .inr (3, [.ref k, .ref op, .int 0, .ref oq, .ref ov, .ref os])), (op, .inl (cI, 6, .inl (upd (upd (upd (upd (upd (upd (fun _ => 0) 5 0) 4 0) 3 0) 2 0) 1 0) 0 0))), (k, .inr (0, [.ref ks, .ref kw, .ref kc, .int (-6), .int 0, .int 0, .ref kq, .ref km, .ref kd, .int 0, .ref ka, .ref kk])), (ks, .inl (cI, 5, .inl (upd (fun _ => 0) 0 800)))]) := by
  refine Met.ofW (cc := cX7_spreadRefusal) (maxL := 4) (ret := (some .int)) (by decide) rfl ?_
  intro p e s m args below meth c s₁ B hml hv
  obtain ⟨rfl, hsz, hP, hKx, hD0⟩ := hv
  have hx := B.exec
  have hb := B.bytes
  have hr := B.returns
  have hts := atoms_spec (ws := wq yX7_spreadRefusal cX7_spreadRefusal 4 (some .int)) B.pre
  have hown : s.vm.findClass RX7 = some m.cls := findClass_of_methodNamed B.named
  have hlocks := B.notSynchronized
  subst hsz
  have hD := hD0.self (sz := s.heap.size)
  generalize hAe : va_A [(h, .inr (7, [.ref k, .ref d, .ref j, .ref o, .ref f, .ref g, .ref wk, .ref im, .ref kt, .ref dl])), (o, .inr (3, [.ref k, .ref op, .int 0, .ref oq, .ref ov, .ref os])), (op, .inl (cI, 6, .inl (fun _ => 0))), (k, .inr (0, [.ref ks, .ref kw, .ref kc, .int (-6), .int 0, .int 0, .ref kq, .ref km, .ref kd, .int 0, .ref ka, .ref kk])), (ks, .inl (cI, 5, .inl (upd (fun _ => 0) 0 800)))] s.heap.size = A at hD hKx ⊢
  have hA : ∀ q : Nat, s.heap.size ≤ q → A q := fun q h => by rw [← hAe]; exact Or.inr h
  have hS : va_S A s.heap s.heap [] := va_S.rf
  have hP : va_P (dC, dI) vwCl [(h, .inr (7, [.ref k, .ref d, .ref j, .ref o, .ref f, .ref g, .ref wk, .ref im, .ref kt, .ref dl])), (o, .inr (3, [.ref k, .ref op, .int 0, .ref oq, .ref ov, .ref os])), (op, .inl (cI, 6, .inl (fun _ => 0))), (k, .inr (0, [.ref ks, .ref kw, .ref kc, .int (-6), .int 0, .int 0, .ref kq, .ref km, .ref kd, .int 0, .ref ka, .ref kk])), (ks, .inl (cI, 5, .inl (upd (fun _ => 0) 0 800)))] s.heap := hP
  have hl := lv_entry ([.ref h, .int 0, .int i1]) (n := 4) (Nat.le_of_ble_eq_true rfl)
  rw [lg_entry_eq]
  generalize (lg_sl ([.ref h, .int 0, .int i1]) ++ List.replicate (4 - (lg_sl ([.ref h, .int 0, .int i1])).length) Slot.unset).toArray = ls at hl ⊢
  have hl : lv_has ls 4 [(0, .ref h), (1, .int 0), (2, .int i1)] := hl
  have hK := hKx.1
  have hin7 := fun w9 h9 => List.mem_cons_of_mem (Cond.code yX7_spreadRefusal cX7_spreadRefusal 4 (some .int)) (inlX7 w9 h9)
  have hin0 := fun w9 h9 => List.mem_cons_of_mem (Cond.code yX7_spreadRefusal cX7_spreadRefusal 4 (some .int)) (inlX0 w9 h9)
  have hin3 := fun w9 h9 => List.mem_cons_of_mem (Cond.code yX7_spreadRefusal cX7_spreadRefusal 4 (some .int)) (inlX3 w9 h9)
  have hw0 := hts (.fieldLink RX7 12 "OneCan" "camp" "LOneCan$Camp;") (List.mem_cons_of_mem _ wm_69)
  have hw1 := hts (.fieldLink RX7 83 "OneCan$Camp" "settings" "[I") (List.mem_cons_of_mem _ wm_70)
  have hw2 := hts (.fieldLink RX7 37 "OneCan" "order" "LOneCan$Order;") (List.mem_cons_of_mem _ wm_142)
  have hw3 := hts (.fieldLink RX7 288 "OneCan$Order" "total" "I") (List.mem_cons_of_mem _ wm_156)
  refine lv_aload_n hx hb dX7_spreadRefusal_0 rfl (lv_at hl 0 rfl) ?_
  refine lv_iload_n hx hb dX7_spreadRefusal_1 rfl (lv_at hl 1 rfl) ?_
  refine lv_iload_n hx hb dX7_spreadRefusal_2 rfl (lv_at hl 2 rfl) ?_
  refine mx_i (wr := [(k, .inr (0, [.ref ks, .ref kw, .ref kc, .int (-6), .int 0, .int 0, .ref kq, .ref km, .ref kd, .int 0, .ref ka, .ref kk])), (ks, .inl (cI, 5, .inl (upd (fun _ => 0) 0 800)))]) (va_runV (As := [.int 0, .int i1]) (rest := []) ⟨hx, hb, hml, hown, hts⟩ (c_X7_orderRefusal0 l dC dI cI cZ cK tS aK aV h o f g wk im kt dl j k d op oq ov os i1 s.heap.size) (cwV 2 hts (gw_v (fun _ h9 => List.mem_cons_of_mem _ h9) wm_152 wm_153 wm_154 wm_2 wm_155) rfl rfl rfl (by decide +kernel) ⟨Nat.le_of_ble_eq_true rfl, Nat.le_of_ble_eq_true rfl⟩) (mx_preV (C := RX7) (T := TX7) (N := 10) (ci := 7) hKx hP hD hS hA [0, 1, 2] (by decide) rfl rfl rfl) rfl rfl hl.1 rfl (lv_room (Nat.le_of_ble_eq_true rfl)) dX7_spreadRefusal_3 ⟨Nat.le_of_ble_eq_true rfl, Nat.le_of_ble_eq_true rfl⟩) hP hD hS hA [0, 1, 2] [3, 4] rfl rfl (by decide) (by decide) (fun r1 u1 H locs hq1 hP hD hS => ?_)
  replace hP : va_P (dC, dI) vwCl [(k, .inr (0, [.ref ks, .ref kw, .ref kc, .int (-6), .int 0, .int 0, .ref kq, .ref km, .ref kd, .int 0, .ref ka, .ref kk])), (ks, .inl (cI, 5, .inl (upd (fun _ => 0) 0 800))), (h, .inr (7, [.ref k, .ref d, .ref j, .ref o, .ref f, .ref g, .ref wk, .ref im, .ref kt, .ref dl])), (o, .inr (3, [.ref k, .ref op, .int 0, .ref oq, .ref ov, .ref os])), (op, .inl (cI, 6, .inl (upd (upd (upd (upd (upd (upd (fun _ => 0) 5 0) 4 0) 3 0) 2 0) 1 0) 0 0)))] H := hP
  replace hD : va_D A [(k, .inr (0, [.ref ks, .ref kw, .ref kc, .int (-6), .int 0, .int 0, .ref kq, .ref km, .ref kd, .int 0, .ref ka, .ref kk])), (ks, .inl (cI, 5, .inl (upd (fun _ => 0) 0 800))), (h, .inr (7, [.ref k, .ref d, .ref j, .ref o, .ref f, .ref g, .ref wk, .ref im, .ref kt, .ref dl])), (o, .inr (3, [.ref k, .ref op, .int 0, .ref oq, .ref ov, .ref os])), (op, .inl (cI, 6, .inl (upd (upd (upd (upd (upd (upd (fun _ => 0) 5 0) 4 0) 3 0) 2 0) 1 0) 0 0)))] := hD
  rcases hq1 with ⟨rfl, hf1⟩ | ⟨rfl, hf1⟩
  · have hf1 : 0 ≤ i1.toInt ∧ i1.toInt ≤ 13 := hf1
    refine lv_istore_n (lv' := [(3, .int 0), (0, .ref h), (1, .int 0), (2, .int i1)]) hx hb dX7_spreadRefusal_6 rfl hl (by decide) rfl (fun ls hl => ?_)
    refine lv_iload_n hx hb dX7_spreadRefusal_7 rfl (lv_at hl 0 rfl) ?_
    refine lv_if_eq (tgt := 13) hx hb dX7_spreadRefusal_8 (by decide) (fun c2 => ?_) (fun c2 => absurd c2 (by decide))
    refine lv_iload_n hx hb dX7_spreadRefusal_13 rfl (lv_at hl 3 rfl) ?_
    refine lv_aload_n hx hb dX7_spreadRefusal_14 rfl (lv_at hl 1 rfl) ?_
    refine va_get (D := (dC, dI)) (ci := 7) (v := .ref k) (C := RX7) (T := TX7) (N := 10) hx hb hts hin7 hown hK hP 2 rfl rfl 0 (by decide) hw0 (fun _ h9 => h9) rfl dX7_spreadRefusal_15 ?_
    refine va_get (D := (dC, dI)) (ci := 0) (v := .ref ks) (C := RX0) (T := TX0) (N := 12) hx hb hts hin0 hown hK hP 0 rfl rfl 0 (by decide) hw1 (fun _ h9 => h9) rfl dX7_spreadRefusal_18 ?_
    refine lv_iconst (v := 4) hx hb dX7_spreadRefusal_21 (by decide) ?_
    refine va_iald hx hb hK hP 1 0 rfl rfl (vin (by decide) (by decide)) dX7_spreadRefusal_22 ?_
    refine lv_topi (fun x3 e3 => ?_)
    obtain rfl : x3 = 0 := e3.trans (by first | rfl | decide)
    refine lv_icmp_ge (tgt := 28) hx hb dX7_spreadRefusal_23 (by decide) (fun c4 => ?_) (fun c4 => by exfalso; have t4 : i1.toInt < (0 : Int) := (tnle c4); omega)
    refine lv_aload_n hx hb dX7_spreadRefusal_28 rfl (lv_at hl 1 rfl) ?_
    refine va_get (D := (dC, dI)) (ci := 7) (v := .ref o) (C := RX7) (T := TX7) (N := 10) hx hb hts hin7 hown hK hP 2 rfl rfl 3 (by decide) hw2 (fun _ h9 => h9) rfl dX7_spreadRefusal_29 ?_
    refine va_get (D := (dC, dI)) (ci := 3) (v := .int 0) (C := RX3) (T := TX3) (N := 6) hx hb hts hin3 hown hK hP 3 rfl rfl 2 (by decide) hw3 (fun _ h9 => h9) rfl dX7_spreadRefusal_32 ?_
    refine lv_bipush (v := 12) hx hb dX7_spreadRefusal_35 (by decide) ?_
    refine lv_icmp_le (tgt := 45) hx hb dX7_spreadRefusal_37 (by decide) (fun c5 => ?_) (fun c5 => absurd c5 (by decide))
    refine lv_iconst (v := 0) hx hb dX7_spreadRefusal_45 (by decide) ?_
    have hP9 := mx_subP (wc := [(h, .inr (7, [.ref k, .ref d, .ref j, .ref o, .ref f, .ref g, .ref wk, .ref im, .ref kt, .ref dl])), (o, .inr (3, [.ref k, .ref op, .int 0, .ref oq, .ref ov, .ref os])), (op, .inl (cI, 6, .inl (upd (upd (upd (upd (upd (upd (fun _ => 0) 5 0) 4 0) 3 0) 2 0) 1 0) 0 0))), (k, .inr (0, [.ref ks, .ref kw, .ref kc, .int (-6), .int 0, .int 0, .ref kq, .ref km, .ref kd, .int 0, .ref ka, .ref kk])), (ks, .inl (cI, 5, .inl (upd (fun _ => 0) 0 800)))]) hP [2, 3, 4, 0, 1] rfl
    have hD9 := hD.sub (ws' := [(h, .inr (7, [.ref k, .ref d, .ref j, .ref o, .ref f, .ref g, .ref wk, .ref im, .ref kt, .ref dl])), (o, .inr (3, [.ref k, .ref op, .int 0, .ref oq, .ref ov, .ref os])), (op, .inl (cI, 6, .inl (upd (upd (upd (upd (upd (upd (fun _ => 0) 5 0) 4 0) 3 0) 2 0) 1 0) 0 0))), (k, .inr (0, [.ref ks, .ref kw, .ref kc, .int (-6), .int 0, .int 0, .ref kq, .ref km, .ref kd, .int 0, .ref ka, .ref kk])), (ks, .inl (cI, 5, .inl (upd (fun _ => 0) 0 800)))]) [2, 3, 4, 0, 1] (by decide) rfl
    exact W.iret (v := 0) hx hb hr (fun t ht hW => ⟨⟨0, (), rfl, (by first | exact Or.inl (⟨rfl, by omega⟩) | exact Or.inr (⟨rfl, by omega⟩)), by rw [ht]; exact hP9, hD9⟩, hS.F ht⟩) hS.2.2 dX7_spreadRefusal_46
  · have hf1 : i1.toInt < 0 ∨ 13 < i1.toInt := hf1
    refine lv_istore_n (lv' := [(3, .int (-1)), (0, .ref h), (1, .int 0), (2, .int i1)]) hx hb dX7_spreadRefusal_6 rfl hl (by decide) rfl (fun ls hl => ?_)
    refine lv_iload_n hx hb dX7_spreadRefusal_7 rfl (lv_at hl 0 rfl) ?_
    refine lv_if_eq (tgt := 13) hx hb dX7_spreadRefusal_8 (by decide) (fun c6 => absurd c6 (by decide)) (fun c6 => ?_)
    refine lv_iload_n hx hb dX7_spreadRefusal_11 rfl (lv_at hl 0 rfl) ?_
    have hP9 := mx_subP (wc := [(h, .inr (7, [.ref k, .ref d, .ref j, .ref o, .ref f, .ref g, .ref wk, .ref im, .ref kt, .ref dl])), (o, .inr (3, [.ref k, .ref op, .int 0, .ref oq, .ref ov, .ref os])), (op, .inl (cI, 6, .inl (upd (upd (upd (upd (upd (upd (fun _ => 0) 5 0) 4 0) 3 0) 2 0) 1 0) 0 0))), (k, .inr (0, [.ref ks, .ref kw, .ref kc, .int (-6), .int 0, .int 0, .ref kq, .ref km, .ref kd, .int 0, .ref ka, .ref kk])), (ks, .inl (cI, 5, .inl (upd (fun _ => 0) 0 800)))]) hP [2, 3, 4, 0, 1] rfl
    have hD9 := hD.sub (ws' := [(h, .inr (7, [.ref k, .ref d, .ref j, .ref o, .ref f, .ref g, .ref wk, .ref im, .ref kt, .ref dl])), (o, .inr (3, [.ref k, .ref op, .int 0, .ref oq, .ref ov, .ref os])), (op, .inl (cI, 6, .inl (upd (upd (upd (upd (upd (upd (fun _ => 0) 5 0) 4 0) 3 0) 2 0) 1 0) 0 0))), (k, .inr (0, [.ref ks, .ref kw, .ref kc, .int (-6), .int 0, .int 0, .ref kq, .ref km, .ref kd, .int 0, .ref ka, .ref kk])), (ks, .inl (cI, 5, .inl (upd (fun _ => 0) 0 800)))]) [2, 3, 4, 0, 1] (by decide) rfl
    exact W.iret (v := (-1)) hx hb hr (fun t ht hW => ⟨⟨(-1), (), rfl, (by first | exact Or.inl (⟨rfl, by omega⟩) | exact Or.inr (⟨rfl, by omega⟩)), by rw [ht]; exact hP9, hD9⟩, hS.F ht⟩) hS.2.2 dX7_spreadRefusal_12
set_option maxHeartbeats 4000000 in
set_option maxRecDepth 100000 in
theorem c_X3_inSharedPots0 (l : Launch) (dC : Nat → ClassId) (dI : Nat → Nat → Nat) (cI cZ cK : ClassId) (tS aK aV : Nat) (o : Nat) (k : Nat) (op : Nat) (oq : Nat) (ov : Nat) (os : Nat) (i0 : Int32) (sz : Nat) : Ci l yX3_inSharedPots (wq yX3_inSharedPots cX3_inSharedPots 5 (some .int)) ({ frames := 0, cells := 0, slots := 0, locals := 0 }) dC dI cI cZ cK tS aK aV [.ref o, .int i0] sz [(o, .inr (3, [.ref k, .ref op, .int 0, .ref oq, .ref ov, .ref os])), (op, .inl (cI, 6, .inl (upd (upd (upd (upd (upd (upd (fun _ => 0) 5 0) 4 0) 3 0) 2 0) 1 0) 0 0)))] (fun (r : Int32) (_ : Unit) => r = 0) (fun _ => [(o, .inr (3, [.ref k, .ref op, .int 0, .ref oq, .ref ov, .ref os])), (op, .inl (cI, 6, .inl (upd (upd (upd (upd (upd (upd (fun _ => 0) 5 0) 4 0) 3 0) 2 0) 1 0) 0 0)))]) := by
  refine Met.ofW (cc := cX3_inSharedPots) (maxL := 5) (ret := (some .int)) (by decide) rfl ?_
  intro p e s m args below meth c s₁ B hml hv
  obtain ⟨rfl, hsz, hP, hKx, hD0⟩ := hv
  have hx := B.exec
  have hb := B.bytes
  have hr := B.returns
  have hts := atoms_spec (ws := wq yX3_inSharedPots cX3_inSharedPots 5 (some .int)) B.pre
  have hown : s.vm.findClass RX3 = some m.cls := findClass_of_methodNamed B.named
  have hlocks := B.notSynchronized
  subst hsz
  have hD := hD0.self (sz := s.heap.size)
  generalize hAe : va_A [(o, .inr (3, [.ref k, .ref op, .int 0, .ref oq, .ref ov, .ref os])), (op, .inl (cI, 6, .inl (upd (upd (upd (upd (upd (upd (fun _ => 0) 5 0) 4 0) 3 0) 2 0) 1 0) 0 0)))] s.heap.size = A at hD hKx ⊢
  have hA : ∀ q : Nat, s.heap.size ≤ q → A q := fun q h => by rw [← hAe]; exact Or.inr h
  have hS : va_S A s.heap s.heap [] := va_S.rf
  have hP : va_P (dC, dI) vwCl [(o, .inr (3, [.ref k, .ref op, .int 0, .ref oq, .ref ov, .ref os])), (op, .inl (cI, 6, .inl (upd (upd (upd (upd (upd (upd (fun _ => 0) 5 0) 4 0) 3 0) 2 0) 1 0) 0 0)))] s.heap := hP
  have hl := lv_entry ([.ref o, .int i0]) (n := 5) (Nat.le_of_ble_eq_true rfl)
  rw [lg_entry_eq]
  generalize (lg_sl ([.ref o, .int i0]) ++ List.replicate (5 - (lg_sl ([.ref o, .int i0])).length) Slot.unset).toArray = ls at hl ⊢
  have hl : lv_has ls 5 [(0, .ref o), (1, .int i0)] := hl
  have hK := hKx.1
  have hin3 := fun w9 h9 => List.mem_cons_of_mem (Cond.code yX3_inSharedPots cX3_inSharedPots 5 (some .int)) (inlX3 w9 h9)
  have hw0 := hts (.fieldLink RX3 9 "OneCan$Order" "portions" "[I") (List.mem_cons_of_mem _ wm_140)
  refine lv_iconst (v := 0) hx hb dX3_inSharedPots_0 (by decide) ?_
  refine lv_istore_n (lv' := [(2, .int 0), (0, .ref o), (1, .int i0)]) hx hb dX3_inSharedPots_1 rfl hl (by decide) rfl (fun ls hl => ?_)
  refine lv_iconst (v := 0) hx hb dX3_inSharedPots_2 (by decide) ?_
  refine lv_istore_n (lv' := [(3, .int 0), (2, .int 0), (0, .ref o), (1, .int i0)]) hx hb dX3_inSharedPots_3 rfl hl (by decide) rfl (fun ls hl => ?_)
  refine lv_iload_n hx hb dX3_inSharedPots_4 rfl (lv_at hl 0 rfl) ?_
  refine lv_bipush (v := 6) hx hb dX3_inSharedPots_5 (by decide) ?_
  refine lv_icmp_ge (tgt := 66) hx hb dX3_inSharedPots_7 (by decide) (fun c1 => absurd c1 (by decide)) (fun c1 => ?_)
  refine lv_aload_n hx hb dX3_inSharedPots_10 rfl (lv_at hl 2 rfl) ?_
  refine va_get (D := (dC, dI)) (ci := 3) (v := .ref op) (C := RX3) (T := TX3) (N := 6) hx hb hts hin3 hown hK hP 0 rfl rfl 1 (by decide) hw0 (fun _ h9 => h9) rfl dX3_inSharedPots_11 ?_
  refine lv_iload_n hx hb dX3_inSharedPots_14 rfl (lv_at hl 0 rfl) ?_
  refine va_iald hx hb hK hP 1 0 rfl rfl (vin (by decide) (by decide)) dX3_inSharedPots_15 ?_
  refine lv_topi (fun x2 e2 => ?_)
  obtain rfl : x2 = 0 := e2.trans (by first | rfl | decide)
  refine lv_if_le (tgt := 60) hx hb dX3_inSharedPots_16 (by decide) (fun c3 => ?_) (fun c3 => absurd c3 (by decide))
  refine lv_iinc (v := 1) (lv' := [(3, .int 1), (2, .int 0), (0, .ref o), (1, .int i0)]) hx hb dX3_inSharedPots_60 hl (k := 0) rfl (by decide) (by decide) rfl (fun ls hl => ?_)
  refine lv_goto (tgt := 4) hx hb dX3_inSharedPots_63 (by decide) ?_
  refine lv_iload_n hx hb dX3_inSharedPots_4 rfl (lv_at hl 0 rfl) ?_
  refine lv_bipush (v := 6) hx hb dX3_inSharedPots_5 (by decide) ?_
  refine lv_icmp_ge (tgt := 66) hx hb dX3_inSharedPots_7 (by decide) (fun c4 => absurd c4 (by decide)) (fun c4 => ?_)
  refine lv_aload_n hx hb dX3_inSharedPots_10 rfl (lv_at hl 2 rfl) ?_
  refine va_get (D := (dC, dI)) (ci := 3) (v := .ref op) (C := RX3) (T := TX3) (N := 6) hx hb hts hin3 hown hK hP 0 rfl rfl 1 (by decide) hw0 (fun _ h9 => h9) rfl dX3_inSharedPots_11 ?_
  refine lv_iload_n hx hb dX3_inSharedPots_14 rfl (lv_at hl 0 rfl) ?_
  refine va_iald hx hb hK hP 1 0 rfl rfl (vin (by decide) (by decide)) dX3_inSharedPots_15 ?_
  refine lv_topi (fun x5 e5 => ?_)
  obtain rfl : x5 = 0 := e5.trans (by first | rfl | decide)
  refine lv_if_le (tgt := 60) hx hb dX3_inSharedPots_16 (by decide) (fun c6 => ?_) (fun c6 => absurd c6 (by decide))
  refine lv_iinc (v := 2) (lv' := [(3, .int 2), (2, .int 0), (0, .ref o), (1, .int i0)]) hx hb dX3_inSharedPots_60 hl (k := 0) rfl (by decide) (by decide) rfl (fun ls hl => ?_)
  refine lv_goto (tgt := 4) hx hb dX3_inSharedPots_63 (by decide) ?_
  refine lv_iload_n hx hb dX3_inSharedPots_4 rfl (lv_at hl 0 rfl) ?_
  refine lv_bipush (v := 6) hx hb dX3_inSharedPots_5 (by decide) ?_
  refine lv_icmp_ge (tgt := 66) hx hb dX3_inSharedPots_7 (by decide) (fun c7 => absurd c7 (by decide)) (fun c7 => ?_)
  refine lv_aload_n hx hb dX3_inSharedPots_10 rfl (lv_at hl 2 rfl) ?_
  refine va_get (D := (dC, dI)) (ci := 3) (v := .ref op) (C := RX3) (T := TX3) (N := 6) hx hb hts hin3 hown hK hP 0 rfl rfl 1 (by decide) hw0 (fun _ h9 => h9) rfl dX3_inSharedPots_11 ?_
  refine lv_iload_n hx hb dX3_inSharedPots_14 rfl (lv_at hl 0 rfl) ?_
  refine va_iald hx hb hK hP 1 0 rfl rfl (vin (by decide) (by decide)) dX3_inSharedPots_15 ?_
  refine lv_topi (fun x8 e8 => ?_)
  obtain rfl : x8 = 0 := e8.trans (by first | rfl | decide)
  refine lv_if_le (tgt := 60) hx hb dX3_inSharedPots_16 (by decide) (fun c9 => ?_) (fun c9 => absurd c9 (by decide))
  refine lv_iinc (v := 3) (lv' := [(3, .int 3), (2, .int 0), (0, .ref o), (1, .int i0)]) hx hb dX3_inSharedPots_60 hl (k := 0) rfl (by decide) (by decide) rfl (fun ls hl => ?_)
  refine lv_goto (tgt := 4) hx hb dX3_inSharedPots_63 (by decide) ?_
  refine lv_iload_n hx hb dX3_inSharedPots_4 rfl (lv_at hl 0 rfl) ?_
  refine lv_bipush (v := 6) hx hb dX3_inSharedPots_5 (by decide) ?_
  refine lv_icmp_ge (tgt := 66) hx hb dX3_inSharedPots_7 (by decide) (fun c10 => absurd c10 (by decide)) (fun c10 => ?_)
  refine lv_aload_n hx hb dX3_inSharedPots_10 rfl (lv_at hl 2 rfl) ?_
  refine va_get (D := (dC, dI)) (ci := 3) (v := .ref op) (C := RX3) (T := TX3) (N := 6) hx hb hts hin3 hown hK hP 0 rfl rfl 1 (by decide) hw0 (fun _ h9 => h9) rfl dX3_inSharedPots_11 ?_
  refine lv_iload_n hx hb dX3_inSharedPots_14 rfl (lv_at hl 0 rfl) ?_
  refine va_iald hx hb hK hP 1 0 rfl rfl (vin (by decide) (by decide)) dX3_inSharedPots_15 ?_
  refine lv_topi (fun x11 e11 => ?_)
  obtain rfl : x11 = 0 := e11.trans (by first | rfl | decide)
  refine lv_if_le (tgt := 60) hx hb dX3_inSharedPots_16 (by decide) (fun c12 => ?_) (fun c12 => absurd c12 (by decide))
  refine lv_iinc (v := 4) (lv' := [(3, .int 4), (2, .int 0), (0, .ref o), (1, .int i0)]) hx hb dX3_inSharedPots_60 hl (k := 0) rfl (by decide) (by decide) rfl (fun ls hl => ?_)
  refine lv_goto (tgt := 4) hx hb dX3_inSharedPots_63 (by decide) ?_
  refine lv_iload_n hx hb dX3_inSharedPots_4 rfl (lv_at hl 0 rfl) ?_
  refine lv_bipush (v := 6) hx hb dX3_inSharedPots_5 (by decide) ?_
  refine lv_icmp_ge (tgt := 66) hx hb dX3_inSharedPots_7 (by decide) (fun c13 => absurd c13 (by decide)) (fun c13 => ?_)
  refine lv_aload_n hx hb dX3_inSharedPots_10 rfl (lv_at hl 2 rfl) ?_
  refine va_get (D := (dC, dI)) (ci := 3) (v := .ref op) (C := RX3) (T := TX3) (N := 6) hx hb hts hin3 hown hK hP 0 rfl rfl 1 (by decide) hw0 (fun _ h9 => h9) rfl dX3_inSharedPots_11 ?_
  refine lv_iload_n hx hb dX3_inSharedPots_14 rfl (lv_at hl 0 rfl) ?_
  refine va_iald hx hb hK hP 1 0 rfl rfl (vin (by decide) (by decide)) dX3_inSharedPots_15 ?_
  refine lv_topi (fun x14 e14 => ?_)
  obtain rfl : x14 = 0 := e14.trans (by first | rfl | decide)
  refine lv_if_le (tgt := 60) hx hb dX3_inSharedPots_16 (by decide) (fun c15 => ?_) (fun c15 => absurd c15 (by decide))
  refine lv_iinc (v := 5) (lv' := [(3, .int 5), (2, .int 0), (0, .ref o), (1, .int i0)]) hx hb dX3_inSharedPots_60 hl (k := 0) rfl (by decide) (by decide) rfl (fun ls hl => ?_)
  refine lv_goto (tgt := 4) hx hb dX3_inSharedPots_63 (by decide) ?_
  refine lv_iload_n hx hb dX3_inSharedPots_4 rfl (lv_at hl 0 rfl) ?_
  refine lv_bipush (v := 6) hx hb dX3_inSharedPots_5 (by decide) ?_
  refine lv_icmp_ge (tgt := 66) hx hb dX3_inSharedPots_7 (by decide) (fun c16 => absurd c16 (by decide)) (fun c16 => ?_)
  refine lv_aload_n hx hb dX3_inSharedPots_10 rfl (lv_at hl 2 rfl) ?_
  refine va_get (D := (dC, dI)) (ci := 3) (v := .ref op) (C := RX3) (T := TX3) (N := 6) hx hb hts hin3 hown hK hP 0 rfl rfl 1 (by decide) hw0 (fun _ h9 => h9) rfl dX3_inSharedPots_11 ?_
  refine lv_iload_n hx hb dX3_inSharedPots_14 rfl (lv_at hl 0 rfl) ?_
  refine va_iald hx hb hK hP 1 0 rfl rfl (vin (by decide) (by decide)) dX3_inSharedPots_15 ?_
  refine lv_topi (fun x17 e17 => ?_)
  obtain rfl : x17 = 0 := e17.trans (by first | rfl | decide)
  refine lv_if_le (tgt := 60) hx hb dX3_inSharedPots_16 (by decide) (fun c18 => ?_) (fun c18 => absurd c18 (by decide))
  refine lv_iinc (v := 6) (lv' := [(3, .int 6), (2, .int 0), (0, .ref o), (1, .int i0)]) hx hb dX3_inSharedPots_60 hl (k := 0) rfl (by decide) (by decide) rfl (fun ls hl => ?_)
  refine lv_goto (tgt := 4) hx hb dX3_inSharedPots_63 (by decide) ?_
  refine lv_iload_n hx hb dX3_inSharedPots_4 rfl (lv_at hl 0 rfl) ?_
  refine lv_bipush (v := 6) hx hb dX3_inSharedPots_5 (by decide) ?_
  refine lv_icmp_ge (tgt := 66) hx hb dX3_inSharedPots_7 (by decide) (fun c19 => ?_) (fun c19 => absurd c19 (by decide))
  refine lv_iload_n hx hb dX3_inSharedPots_66 rfl (lv_at hl 1 rfl) ?_
  have hP9 := mx_subP (wc := [(o, .inr (3, [.ref k, .ref op, .int 0, .ref oq, .ref ov, .ref os])), (op, .inl (cI, 6, .inl (upd (upd (upd (upd (upd (upd (fun _ => 0) 5 0) 4 0) 3 0) 2 0) 1 0) 0 0)))]) hP [0, 1] rfl
  have hD9 := hD.sub (ws' := [(o, .inr (3, [.ref k, .ref op, .int 0, .ref oq, .ref ov, .ref os])), (op, .inl (cI, 6, .inl (upd (upd (upd (upd (upd (upd (fun _ => 0) 5 0) 4 0) 3 0) 2 0) 1 0) 0 0)))]) [0, 1] (by decide) rfl
  exact W.iret (v := 0) hx hb hr (fun t ht hW => ⟨⟨0, (), rfl, rfl, by rw [ht]; exact hP9, hD9⟩, hS.F ht⟩) hS.2.2 dX3_inSharedPots_67
set_option maxHeartbeats 4000000 in
set_option maxRecDepth 100000 in
theorem c_X7_shared0 (l : Launch) (dC : Nat → ClassId) (dI : Nat → Nat → Nat) (cI cZ cK : ClassId) (tS aK aV : Nat) (h : Nat) (o : Nat) (f : Nat) (g : Nat) (wk : Nat) (im : Nat) (kt : Nat) (dl : Nat) (j : Nat) (k : Nat) (d : Nat) (op : Nat) (oq : Nat) (ov : Nat) (os : Nat) (i1 : Int32) (sz : Nat) : Ci l yX7_shared (wq yX7_shared cX7_shared 4 (some .int)) ({ frames := 3, cells := 0, slots := 0, locals := 64 }) dC dI cI cZ cK tS aK aV [.ref h, .int 0, .int i1] sz [(h, .inr (7, [.ref k, .ref d, .ref j, .ref o, .ref f, .ref g, .ref wk, .ref im, .ref kt, .ref dl])), (o, .inr (3, [.ref k, .ref op, .int 0, .ref oq, .ref ov, .ref os])), (op, .inl (cI, 6, .inl (fun _ => 0)))] (fun (r : Int32) (_ : Unit) => (r = 0 ∧ (0 ≤ i1.toInt ∧ i1.toInt ≤ 13)) ∨ (r = (-1) ∧ (i1.toInt < 0 ∨ 13 < i1.toInt))) (fun _ => []) := by
  refine Met.ofW (cc := cX7_shared) (maxL := 4) (ret := (some .int)) (by decide) rfl ?_
  intro p e s m args below meth c s₁ B hml hv
  obtain ⟨rfl, hsz, hP, hKx, hD0⟩ := hv
  have hx := B.exec
  have hb := B.bytes
  have hr := B.returns
  have hts := atoms_spec (ws := wq yX7_shared cX7_shared 4 (some .int)) B.pre
  have hown : s.vm.findClass RX7 = some m.cls := findClass_of_methodNamed B.named
  have hlocks := B.notSynchronized
  subst hsz
  have hD := hD0.self (sz := s.heap.size)
  generalize hAe : va_A [(h, .inr (7, [.ref k, .ref d, .ref j, .ref o, .ref f, .ref g, .ref wk, .ref im, .ref kt, .ref dl])), (o, .inr (3, [.ref k, .ref op, .int 0, .ref oq, .ref ov, .ref os])), (op, .inl (cI, 6, .inl (fun _ => 0)))] s.heap.size = A at hD hKx ⊢
  have hA : ∀ q : Nat, s.heap.size ≤ q → A q := fun q h => by rw [← hAe]; exact Or.inr h
  have hS : va_S A s.heap s.heap [] := va_S.rf
  have hP : va_P (dC, dI) vwCl [(h, .inr (7, [.ref k, .ref d, .ref j, .ref o, .ref f, .ref g, .ref wk, .ref im, .ref kt, .ref dl])), (o, .inr (3, [.ref k, .ref op, .int 0, .ref oq, .ref ov, .ref os])), (op, .inl (cI, 6, .inl (fun _ => 0)))] s.heap := hP
  have hl := lv_entry ([.ref h, .int 0, .int i1]) (n := 4) (Nat.le_of_ble_eq_true rfl)
  rw [lg_entry_eq]
  generalize (lg_sl ([.ref h, .int 0, .int i1]) ++ List.replicate (4 - (lg_sl ([.ref h, .int 0, .int i1])).length) Slot.unset).toArray = ls at hl ⊢
  have hl : lv_has ls 4 [(0, .ref h), (1, .int 0), (2, .int i1)] := hl
  have hK := hKx.1
  have hin7 := fun w9 h9 => List.mem_cons_of_mem (Cond.code yX7_shared cX7_shared 4 (some .int)) (inlX7 w9 h9)
  have hw0 := hts (.fieldLink RX7 37 "OneCan" "order" "LOneCan$Order;") (List.mem_cons_of_mem _ wm_142)
  refine lv_aload_n hx hb dX7_shared_0 rfl (lv_at hl 0 rfl) ?_
  refine lv_iload_n hx hb dX7_shared_1 rfl (lv_at hl 1 rfl) ?_
  refine lv_iload_n hx hb dX7_shared_2 rfl (lv_at hl 2 rfl) ?_
  refine mx_i (wr := []) (va_runV (As := [.int 0, .int i1]) (rest := []) ⟨hx, hb, hml, hown, hts⟩ (c_X7_orderRefusal0 l dC dI cI cZ cK tS aK aV h o f g wk im kt dl j k d op oq ov os i1 s.heap.size) (cwV 2 hts (gw_v (fun _ h9 => List.mem_cons_of_mem _ h9) wm_152 wm_153 wm_154 wm_2 wm_155) rfl rfl rfl (by decide +kernel) ⟨Nat.le_of_ble_eq_true rfl, Nat.le_of_ble_eq_true rfl⟩) (mx_preV (C := RX7) (T := TX7) (N := 10) (ci := 7) hKx hP hD hS hA [0, 1, 2] (by decide) rfl rfl rfl) rfl rfl hl.1 rfl (lv_room (Nat.le_of_ble_eq_true rfl)) dX7_shared_3 ⟨Nat.le_of_ble_eq_true rfl, Nat.le_of_ble_eq_true rfl⟩) hP hD hS hA [0, 1, 2] [] rfl rfl (by decide) (by decide) (fun r1 u1 H locs hq1 hP hD hS => ?_)
  replace hP : va_P (dC, dI) vwCl [(h, .inr (7, [.ref k, .ref d, .ref j, .ref o, .ref f, .ref g, .ref wk, .ref im, .ref kt, .ref dl])), (o, .inr (3, [.ref k, .ref op, .int 0, .ref oq, .ref ov, .ref os])), (op, .inl (cI, 6, .inl (upd (upd (upd (upd (upd (upd (fun _ => 0) 5 0) 4 0) 3 0) 2 0) 1 0) 0 0)))] H := hP
  replace hD : va_D A [(h, .inr (7, [.ref k, .ref d, .ref j, .ref o, .ref f, .ref g, .ref wk, .ref im, .ref kt, .ref dl])), (o, .inr (3, [.ref k, .ref op, .int 0, .ref oq, .ref ov, .ref os])), (op, .inl (cI, 6, .inl (upd (upd (upd (upd (upd (upd (fun _ => 0) 5 0) 4 0) 3 0) 2 0) 1 0) 0 0)))] := hD
  rcases hq1 with ⟨rfl, hf1⟩ | ⟨rfl, hf1⟩
  · have hf1 : 0 ≤ i1.toInt ∧ i1.toInt ≤ 13 := hf1
    refine lv_istore_n (lv' := [(3, .int 0), (0, .ref h), (1, .int 0), (2, .int i1)]) hx hb dX7_shared_6 rfl hl (by decide) rfl (fun ls hl => ?_)
    refine lv_iload_n hx hb dX7_shared_7 rfl (lv_at hl 0 rfl) ?_
    refine lv_if_eq (tgt := 15) hx hb dX7_shared_8 (by decide) (fun c2 => ?_) (fun c2 => absurd c2 (by decide))
    refine lv_aload_n hx hb dX7_shared_15 rfl (lv_at hl 1 rfl) ?_
    refine va_get (D := (dC, dI)) (ci := 7) (v := .ref o) (C := RX7) (T := TX7) (N := 10) hx hb hts hin7 hown hK hP 0 rfl rfl 3 (by decide) hw0 (fun _ h9 => h9) rfl dX7_shared_16 ?_
    refine lv_iload_n hx hb dX7_shared_19 rfl (lv_at hl 3 rfl) ?_
    refine mx_i (wr := [(h, .inr (7, [.ref k, .ref d, .ref j, .ref o, .ref f, .ref g, .ref wk, .ref im, .ref kt, .ref dl]))]) (va_runV (As := [.int i1]) (rest := []) ⟨hx, hb, hml, hown, hts⟩ (c_X3_inSharedPots0 l dC dI cI cZ cK tS aK aV o k op oq ov os i1 H.size) (cwV 1 hts (gw_v (fun _ h9 => List.mem_cons_of_mem _ h9) wm_157 wm_158 wm_159 wm_146 wm_160) rfl rfl rfl (by decide +kernel) ⟨Nat.le_of_ble_eq_true rfl, Nat.le_of_ble_eq_true rfl⟩) (mx_preV (C := RX3) (T := TX3) (N := 6) (ci := 3) hKx hP hD hS hA [1, 2] (by decide) rfl rfl rfl) rfl rfl hl.1 rfl (lv_room (Nat.le_of_ble_eq_true rfl)) dX7_shared_20 ⟨Nat.le_of_ble_eq_true rfl, Nat.le_of_ble_eq_true rfl⟩) hP hD hS hA [1, 2] [0] rfl rfl (by decide) (by decide) (fun r3 u3 H locs hq3 hP hD hS => ?_)
    replace hP : va_P (dC, dI) vwCl [(h, .inr (7, [.ref k, .ref d, .ref j, .ref o, .ref f, .ref g, .ref wk, .ref im, .ref kt, .ref dl])), (o, .inr (3, [.ref k, .ref op, .int 0, .ref oq, .ref ov, .ref os])), (op, .inl (cI, 6, .inl (upd (upd (upd (upd (upd (upd (fun _ => 0) 5 0) 4 0) 3 0) 2 0) 1 0) 0 0)))] H := hP
    replace hD : va_D A [(h, .inr (7, [.ref k, .ref d, .ref j, .ref o, .ref f, .ref g, .ref wk, .ref im, .ref kt, .ref dl])), (o, .inr (3, [.ref k, .ref op, .int 0, .ref oq, .ref ov, .ref os])), (op, .inl (cI, 6, .inl (upd (upd (upd (upd (upd (upd (fun _ => 0) 5 0) 4 0) 3 0) 2 0) 1 0) 0 0)))] := hD
    obtain rfl : r3 = 0 := hq3
    have hP9 := mx_subP (wc := []) hP [] rfl
    have hD9 := hD.sub (ws' := []) [] (by decide) rfl
    exact W.iret (v := 0) hx hb hr (fun t ht hW => ⟨⟨0, (), rfl, (by first | exact Or.inl (⟨rfl, by omega⟩) | exact Or.inr (⟨rfl, by omega⟩)), by rw [ht]; exact hP9, hD9⟩, hS.F ht⟩) hS.2.2 dX7_shared_23
  · have hf1 : i1.toInt < 0 ∨ 13 < i1.toInt := hf1
    refine lv_istore_n (lv' := [(3, .int (-1)), (0, .ref h), (1, .int 0), (2, .int i1)]) hx hb dX7_shared_6 rfl hl (by decide) rfl (fun ls hl => ?_)
    refine lv_iload_n hx hb dX7_shared_7 rfl (lv_at hl 0 rfl) ?_
    refine lv_if_eq (tgt := 15) hx hb dX7_shared_8 (by decide) (fun c4 => absurd c4 (by decide)) (fun c4 => ?_)
    refine lv_iload_n hx hb dX7_shared_11 rfl (lv_at hl 0 rfl) ?_
    refine lv_goto (tgt := 23) hx hb dX7_shared_12 (by decide) ?_
    have hP9 := mx_subP (wc := []) hP [] rfl
    have hD9 := hD.sub (ws' := []) [] (by decide) rfl
    exact W.iret (v := (-1)) hx hb hr (fun t ht hW => ⟨⟨(-1), (), rfl, (by first | exact Or.inl (⟨rfl, by omega⟩) | exact Or.inr (⟨rfl, by omega⟩)), by rw [ht]; exact hP9, hD9⟩, hS.F ht⟩) hS.2.2 dX7_shared_23
