set_option maxHeartbeats 4000000 in
set_option maxRecDepth 100000 in
theorem c_X1_run (l : Launch) (dC : Nat → ClassId) (dI : Nat → Nat → Nat) (cI cZ cK : ClassId) (tS : Nat) (aK aV : Nat → Nat) (j : Nat) (i0 : Int32) (k : Nat) (d : Nat) (jd : Nat) (jb : Nat) (jw : Nat) (jl : Nat) (jbad : Int32) (jwhy : Int32) (jleft : Int32) (jday : Int32) (jwarmDay : Int32) (jbagDays : Int32) (jburnt : Int32) (jboiled : Int32) (jfd : Nat → Int32) (jfb : Nat → Int32) (jfw : Nat → Int32) (jfl : Nat → Int32) (ds : Nat) (dsz : Int32) (dk : Nat) (dw : Nat) (dac : Int32) (dwr : Int32) (dfk : Nat → Int32) (dfw : Nat → Int32) (ks : Nat) (kw : Nat) (kc : Nat) (kwd : Int32) (kbg : Int32) (kme : Int32) (kq : Nat) (km : Nat) (kd : Nat) (ksi : Int32) (ka : Nat) (kk : Nat) (kfs : Nat → Int32) (kfw : Nat → Int32) (kfc : Nat → Int32) (kfq : Nat → Int32) (kfm : Nat → Int32) (kfd : Nat → Int32) (sz : Nat) (h_jfd : rg jfd 60 0 13) (h_kfs_4 : 0 ≤ (kfs 4).toInt ∧ (kfs 4).toInt ≤ 13) (h_kfw : rg kfw 14 0 4) (h_dac : 0 ≤ dac.toInt ∧ dac.toInt ≤ 60) : Cv l yX1_run (wq yX1_run cX1_run 4 none) ({ frames := 3, cells := 0, slots := 0, locals := 72 }) dC dI cI cZ cK tS aK aV [.ref j, .int i0] sz [(j, .inr (1, [.ref k, .ref d, .ref jd, .ref jb, .ref jw, .ref jl, .int jbad, .int jwhy, .int jleft, .int jday, .int jwarmDay, .int jbagDays, .int jburnt, .int jboiled])), (jd, .inl (cI, 60, .inl jfd)), (jb, .inl (cI, 60, .inl jfb)), (jw, .inl (cI, 60, .inl jfw)), (jl, .inl (cI, 61, .inl jfl)), (d, .inr (4, [.ref ds, .int dsz, .ref dk, .ref dw, .int dac, .int dwr])), (dk, .inl (cI, 60, .inl dfk)), (dw, .inl (cI, 60, .inl dfw)), (k, .inr (0, [.ref ks, .ref kw, .ref kc, .int kwd, .int kbg, .int kme, .ref kq, .ref km, .ref kd, .int ksi, .ref ka, .ref kk])), (ks, .inl (cI, 5, .inl kfs)), (kw, .inl (cI, 14, .inl kfw)), (kc, .inl (cZ, 14, .inl kfc)), (kq, .inl (cI, 6, .inl kfq)), (km, .inl (cI, 6, .inl kfm)), (kd, .inl (cI, 6, .inl kfd))] (fun (u : (Nat → Nat → Int32) × (Nat → Int32) × (Nat → Int64)) => (0 ≤ (u.2.1 7).toInt ∧ (u.2.1 7).toInt ≤ 13) ∧ rg (u.1 1) 60 0 13) (fun u => [(j, .inr (1, [.ref k, .ref d, .ref jd, .ref jb, .ref jw, .ref jl, .int (u.2.1 4), .int (u.2.1 5), .int (u.2.1 6), .int (u.2.1 7), .int (u.2.1 0), .int (u.2.1 1), .int (u.2.1 2), .int (u.2.1 3)])), (jd, .inl (cI, 60, .inl (u.1 1))), (jb, .inl (cI, 60, .inl (u.1 0))), (jw, .inl (cI, 60, .inl (u.1 3))), (jl, .inl (cI, 61, .inl (u.1 2))), (d, .inr (4, [.ref ds, .int dsz, .ref dk, .ref dw, .int dac, .int dwr])), (dk, .inl (cI, 60, .inl dfk)), (dw, .inl (cI, 60, .inl dfw)), (k, .inr (0, [.ref ks, .ref kw, .ref kc, .int kwd, .int kbg, .int kme, .ref kq, .ref km, .ref kd, .int ksi, .ref ka, .ref kk])), (ks, .inl (cI, 5, .inl kfs)), (kw, .inl (cI, 14, .inl kfw)), (kc, .inl (cZ, 14, .inl kfc)), (kq, .inl (cI, 6, .inl kfq)), (km, .inl (cI, 6, .inl kfm)), (kd, .inl (cI, 6, .inl kfd))]) := by
  refine Met.ofW (cc := cX1_run) (maxL := 4) (ret := none) (by decide) rfl ?_
  intro p e s m args below meth c s₁ B hml hv
  obtain ⟨rfl, hsz, hP, hKx, hD0⟩ := hv
  have hx := B.exec
  have hb := B.bytes
  have hr := B.returns
  have hts := atoms_spec (ws := wq yX1_run cX1_run 4 none) B.pre
  have hown : s.vm.findClass RX1 = some m.cls := findClass_of_methodNamed B.named
  have hlocks := B.notSynchronized
  subst hsz
  have hD := hD0.self (sz := s.heap.size)
  generalize hAe : va_A [(j, .inr (1, [.ref k, .ref d, .ref jd, .ref jb, .ref jw, .ref jl, .int jbad, .int jwhy, .int jleft, .int jday, .int jwarmDay, .int jbagDays, .int jburnt, .int jboiled])), (jd, .inl (cI, 60, .inl jfd)), (jb, .inl (cI, 60, .inl jfb)), (jw, .inl (cI, 60, .inl jfw)), (jl, .inl (cI, 61, .inl jfl)), (d, .inr (4, [.ref ds, .int dsz, .ref dk, .ref dw, .int dac, .int dwr])), (dk, .inl (cI, 60, .inl dfk)), (dw, .inl (cI, 60, .inl dfw)), (k, .inr (0, [.ref ks, .ref kw, .ref kc, .int kwd, .int kbg, .int kme, .ref kq, .ref km, .ref kd, .int ksi, .ref ka, .ref kk])), (ks, .inl (cI, 5, .inl kfs)), (kw, .inl (cI, 14, .inl kfw)), (kc, .inl (cZ, 14, .inl kfc)), (kq, .inl (cI, 6, .inl kfq)), (km, .inl (cI, 6, .inl kfm)), (kd, .inl (cI, 6, .inl kfd))] s.heap.size = A at hD hKx ⊢
  have hA : ∀ q : Nat, s.heap.size ≤ q → A q := fun q h => by rw [← hAe]; exact Or.inr h
  have hS : va_S A s.heap s.heap [] := va_S.rf
  have hP : va_P (dC, dI) vwCl [(j, .inr (1, [.ref k, .ref d, .ref jd, .ref jb, .ref jw, .ref jl, .int jbad, .int jwhy, .int jleft, .int jday, .int jwarmDay, .int jbagDays, .int jburnt, .int jboiled])), (jd, .inl (cI, 60, .inl jfd)), (jb, .inl (cI, 60, .inl jfb)), (jw, .inl (cI, 60, .inl jfw)), (jl, .inl (cI, 61, .inl jfl)), (d, .inr (4, [.ref ds, .int dsz, .ref dk, .ref dw, .int dac, .int dwr])), (dk, .inl (cI, 60, .inl dfk)), (dw, .inl (cI, 60, .inl dfw)), (k, .inr (0, [.ref ks, .ref kw, .ref kc, .int kwd, .int kbg, .int kme, .ref kq, .ref km, .ref kd, .int ksi, .ref ka, .ref kk])), (ks, .inl (cI, 5, .inl kfs)), (kw, .inl (cI, 14, .inl kfw)), (kc, .inl (cZ, 14, .inl kfc)), (kq, .inl (cI, 6, .inl kfq)), (km, .inl (cI, 6, .inl kfm)), (kd, .inl (cI, 6, .inl kfd))] s.heap := hP
  have hl := lv_entry ([.ref j, .int i0]) (n := 4) (Nat.le_of_ble_eq_true rfl)
  rw [lg_entry_eq]
  generalize (lg_sl ([.ref j, .int i0]) ++ List.replicate (4 - (lg_sl ([.ref j, .int i0])).length) Slot.unset).toArray = ls at hl ⊢
  have hl : lv_has ls 4 [(0, .ref j), (1, .int i0)] := hl
  have hK := hKx.1
  have hin1 := fun w9 h9 => List.mem_cons_of_mem (Cond.code yX1_run cX1_run 4 none) (inlX1 w9 h9)
  have hin0 := fun w9 h9 => List.mem_cons_of_mem (Cond.code yX1_run cX1_run 4 none) (inlX0 w9 h9)
  have hin4 := fun w9 h9 => List.mem_cons_of_mem (Cond.code yX1_run cX1_run 4 none) (inlX4 w9 h9)
  have hw0 := hts (.fieldLink RX1 32 "OneCan$Course" "bad" "I") (List.mem_cons_of_mem _ wm_360)
  have hw1 := hts (.fieldLink RX1 36 "OneCan$Course" "why" "I") (List.mem_cons_of_mem _ wm_361)
  have hw2 := hts (.fieldLink RX1 24 "OneCan$Course" "camp" "LOneCan$Camp;") (List.mem_cons_of_mem _ wm_72)
  have hw3 := hts (.fieldLink RX1 39 "OneCan$Camp" "settings" "[I") (List.mem_cons_of_mem _ wm_362)
  have hw4 := hts (.fieldLink RX1 44 "OneCan$Course" "left" "I") (List.mem_cons_of_mem _ wm_363)
  have hw5 := hts (.fieldLink RX1 47 "OneCan$Course" "day" "I") (List.mem_cons_of_mem _ wm_364)
  have hw6 := hts (.fieldLink RX1 50 "OneCan$Camp" "warmDay" "I") (List.mem_cons_of_mem _ wm_365)
  have hw7 := hts (.fieldLink RX1 53 "OneCan$Course" "warmDay" "I") (List.mem_cons_of_mem _ wm_366)
  have hw8 := hts (.fieldLink RX1 54 "OneCan$Camp" "bagDays" "I") (List.mem_cons_of_mem _ wm_367)
  have hw9 := hts (.fieldLink RX1 57 "OneCan$Course" "bagDays" "I") (List.mem_cons_of_mem _ wm_368)
  have hw10 := hts (.fieldLink RX1 58 "OneCan$Course" "burnt" "I") (List.mem_cons_of_mem _ wm_369)
  have hw11 := hts (.fieldLink RX1 61 "OneCan$Course" "boiled" "I") (List.mem_cons_of_mem _ wm_370)
  have hw12 := hts (.fieldLink RX1 21 "OneCan$Course" "lefts" "[I") (List.mem_cons_of_mem _ wm_71)
  have hw13 := hts (.fieldLink RX1 28 "OneCan$Course" "pad" "LOneCan$Pad;") (List.mem_cons_of_mem _ wm_73)
  have hw14 := hts (.fieldLink RX1 64 "OneCan$Pad" "acts" "I") (List.mem_cons_of_mem _ wm_371)
  refine lv_aload_n hx hb dX1_run_0 rfl (lv_at hl 0 rfl) ?_
  refine lv_bipush (v := (-6)) hx hb dX1_run_1 (by decide) ?_
  refine va_put (D := (dC, dI)) (ci := 1) (v := .int (-6)) (ty := .int) (C := RX1) (T := TX1) (N := 14) hx hb hts hin1 tyX1 tyX1_ok nmX1 hown hK hP hD hS 0 rfl rfl 6 (by decide) hw0 (fun _ h9 => h9) rfl (by decide +kernel) rfl rfl (Nat.le_of_ble_eq_true rfl) dX1_run_3 (fun H locs hP hD hS => ?_)
  replace hP : va_P (dC, dI) vwCl [(j, .inr (1, [.ref k, .ref d, .ref jd, .ref jb, .ref jw, .ref jl, .int (-6), .int jwhy, .int jleft, .int jday, .int jwarmDay, .int jbagDays, .int jburnt, .int jboiled])), (jd, .inl (cI, 60, .inl jfd)), (jb, .inl (cI, 60, .inl jfb)), (jw, .inl (cI, 60, .inl jfw)), (jl, .inl (cI, 61, .inl jfl)), (d, .inr (4, [.ref ds, .int dsz, .ref dk, .ref dw, .int dac, .int dwr])), (dk, .inl (cI, 60, .inl dfk)), (dw, .inl (cI, 60, .inl dfw)), (k, .inr (0, [.ref ks, .ref kw, .ref kc, .int kwd, .int kbg, .int kme, .ref kq, .ref km, .ref kd, .int ksi, .ref ka, .ref kk])), (ks, .inl (cI, 5, .inl kfs)), (kw, .inl (cI, 14, .inl kfw)), (kc, .inl (cZ, 14, .inl kfc)), (kq, .inl (cI, 6, .inl kfq)), (km, .inl (cI, 6, .inl kfm)), (kd, .inl (cI, 6, .inl kfd))] H := hP
  replace hD : va_D A [(j, .inr (1, [.ref k, .ref d, .ref jd, .ref jb, .ref jw, .ref jl, .int (-6), .int jwhy, .int jleft, .int jday, .int jwarmDay, .int jbagDays, .int jburnt, .int jboiled])), (jd, .inl (cI, 60, .inl jfd)), (jb, .inl (cI, 60, .inl jfb)), (jw, .inl (cI, 60, .inl jfw)), (jl, .inl (cI, 61, .inl jfl)), (d, .inr (4, [.ref ds, .int dsz, .ref dk, .ref dw, .int dac, .int dwr])), (dk, .inl (cI, 60, .inl dfk)), (dw, .inl (cI, 60, .inl dfw)), (k, .inr (0, [.ref ks, .ref kw, .ref kc, .int kwd, .int kbg, .int kme, .ref kq, .ref km, .ref kd, .int ksi, .ref ka, .ref kk])), (ks, .inl (cI, 5, .inl kfs)), (kw, .inl (cI, 14, .inl kfw)), (kc, .inl (cZ, 14, .inl kfc)), (kq, .inl (cI, 6, .inl kfq)), (km, .inl (cI, 6, .inl kfm)), (kd, .inl (cI, 6, .inl kfd))] := hD
  refine lv_aload_n hx hb dX1_run_6 rfl (lv_at hl 0 rfl) ?_
  refine lv_bipush (v := (-6)) hx hb dX1_run_7 (by decide) ?_
  refine va_put (D := (dC, dI)) (ci := 1) (v := .int (-6)) (ty := .int) (C := RX1) (T := TX1) (N := 14) hx hb hts hin1 tyX1 tyX1_ok nmX1 hown hK hP hD hS 0 rfl rfl 7 (by decide) hw1 (fun _ h9 => h9) rfl (by decide +kernel) rfl rfl (Nat.le_of_ble_eq_true rfl) dX1_run_9 (fun H locs hP hD hS => ?_)
  replace hP : va_P (dC, dI) vwCl [(j, .inr (1, [.ref k, .ref d, .ref jd, .ref jb, .ref jw, .ref jl, .int (-6), .int (-6), .int jleft, .int jday, .int jwarmDay, .int jbagDays, .int jburnt, .int jboiled])), (jd, .inl (cI, 60, .inl jfd)), (jb, .inl (cI, 60, .inl jfb)), (jw, .inl (cI, 60, .inl jfw)), (jl, .inl (cI, 61, .inl jfl)), (d, .inr (4, [.ref ds, .int dsz, .ref dk, .ref dw, .int dac, .int dwr])), (dk, .inl (cI, 60, .inl dfk)), (dw, .inl (cI, 60, .inl dfw)), (k, .inr (0, [.ref ks, .ref kw, .ref kc, .int kwd, .int kbg, .int kme, .ref kq, .ref km, .ref kd, .int ksi, .ref ka, .ref kk])), (ks, .inl (cI, 5, .inl kfs)), (kw, .inl (cI, 14, .inl kfw)), (kc, .inl (cZ, 14, .inl kfc)), (kq, .inl (cI, 6, .inl kfq)), (km, .inl (cI, 6, .inl kfm)), (kd, .inl (cI, 6, .inl kfd))] H := hP
  replace hD : va_D A [(j, .inr (1, [.ref k, .ref d, .ref jd, .ref jb, .ref jw, .ref jl, .int (-6), .int (-6), .int jleft, .int jday, .int jwarmDay, .int jbagDays, .int jburnt, .int jboiled])), (jd, .inl (cI, 60, .inl jfd)), (jb, .inl (cI, 60, .inl jfb)), (jw, .inl (cI, 60, .inl jfw)), (jl, .inl (cI, 61, .inl jfl)), (d, .inr (4, [.ref ds, .int dsz, .ref dk, .ref dw, .int dac, .int dwr])), (dk, .inl (cI, 60, .inl dfk)), (dw, .inl (cI, 60, .inl dfw)), (k, .inr (0, [.ref ks, .ref kw, .ref kc, .int kwd, .int kbg, .int kme, .ref kq, .ref km, .ref kd, .int ksi, .ref ka, .ref kk])), (ks, .inl (cI, 5, .inl kfs)), (kw, .inl (cI, 14, .inl kfw)), (kc, .inl (cZ, 14, .inl kfc)), (kq, .inl (cI, 6, .inl kfq)), (km, .inl (cI, 6, .inl kfm)), (kd, .inl (cI, 6, .inl kfd))] := hD
  refine lv_aload_n hx hb dX1_run_12 rfl (lv_at hl 0 rfl) ?_
  refine lv_aload_n hx hb dX1_run_13 rfl (lv_at hl 0 rfl) ?_
  refine va_get (D := (dC, dI)) (ci := 1) (v := .ref k) (C := RX1) (T := TX1) (N := 14) hx hb hts hin1 hown hK hP 0 rfl rfl 0 (by decide) hw2 (fun _ h9 => h9) rfl dX1_run_14 ?_
  refine va_get (D := (dC, dI)) (ci := 0) (v := .ref ks) (C := RX0) (T := TX0) (N := 12) hx hb hts hin0 hown hK hP 8 rfl rfl 0 (by decide) hw3 (fun _ h9 => h9) rfl dX1_run_17 ?_
  refine lv_iconst (v := 0) hx hb dX1_run_20 (by decide) ?_
  refine va_iald hx hb hK hP 9 0 rfl rfl (vin (by decide) (by decide)) dX1_run_21 ?_
  refine lv_topi (fun x1 e1 => ?_)
  refine va_put (D := (dC, dI)) (ci := 1) (v := .int x1) (ty := .int) (C := RX1) (T := TX1) (N := 14) hx hb hts hin1 tyX1 tyX1_ok nmX1 hown hK hP hD hS 0 rfl rfl 8 (by decide) hw4 (fun _ h9 => h9) rfl (by decide +kernel) rfl rfl (Nat.le_of_ble_eq_true rfl) dX1_run_22 (fun H locs hP hD hS => ?_)
  replace hP : va_P (dC, dI) vwCl [(j, .inr (1, [.ref k, .ref d, .ref jd, .ref jb, .ref jw, .ref jl, .int (-6), .int (-6), .int x1, .int jday, .int jwarmDay, .int jbagDays, .int jburnt, .int jboiled])), (jd, .inl (cI, 60, .inl jfd)), (jb, .inl (cI, 60, .inl jfb)), (jw, .inl (cI, 60, .inl jfw)), (jl, .inl (cI, 61, .inl jfl)), (d, .inr (4, [.ref ds, .int dsz, .ref dk, .ref dw, .int dac, .int dwr])), (dk, .inl (cI, 60, .inl dfk)), (dw, .inl (cI, 60, .inl dfw)), (k, .inr (0, [.ref ks, .ref kw, .ref kc, .int kwd, .int kbg, .int kme, .ref kq, .ref km, .ref kd, .int ksi, .ref ka, .ref kk])), (ks, .inl (cI, 5, .inl kfs)), (kw, .inl (cI, 14, .inl kfw)), (kc, .inl (cZ, 14, .inl kfc)), (kq, .inl (cI, 6, .inl kfq)), (km, .inl (cI, 6, .inl kfm)), (kd, .inl (cI, 6, .inl kfd))] H := hP
  replace hD : va_D A [(j, .inr (1, [.ref k, .ref d, .ref jd, .ref jb, .ref jw, .ref jl, .int (-6), .int (-6), .int x1, .int jday, .int jwarmDay, .int jbagDays, .int jburnt, .int jboiled])), (jd, .inl (cI, 60, .inl jfd)), (jb, .inl (cI, 60, .inl jfb)), (jw, .inl (cI, 60, .inl jfw)), (jl, .inl (cI, 61, .inl jfl)), (d, .inr (4, [.ref ds, .int dsz, .ref dk, .ref dw, .int dac, .int dwr])), (dk, .inl (cI, 60, .inl dfk)), (dw, .inl (cI, 60, .inl dfw)), (k, .inr (0, [.ref ks, .ref kw, .ref kc, .int kwd, .int kbg, .int kme, .ref kq, .ref km, .ref kd, .int ksi, .ref ka, .ref kk])), (ks, .inl (cI, 5, .inl kfs)), (kw, .inl (cI, 14, .inl kfw)), (kc, .inl (cZ, 14, .inl kfc)), (kq, .inl (cI, 6, .inl kfq)), (km, .inl (cI, 6, .inl kfm)), (kd, .inl (cI, 6, .inl kfd))] := hD
  refine lv_aload_n hx hb dX1_run_25 rfl (lv_at hl 0 rfl) ?_
  refine lv_aload_n hx hb dX1_run_26 rfl (lv_at hl 0 rfl) ?_
  refine va_get (D := (dC, dI)) (ci := 1) (v := .ref k) (C := RX1) (T := TX1) (N := 14) hx hb hts hin1 hown hK hP 0 rfl rfl 0 (by decide) hw2 (fun _ h9 => h9) rfl dX1_run_27 ?_
  refine va_get (D := (dC, dI)) (ci := 0) (v := .ref ks) (C := RX0) (T := TX0) (N := 12) hx hb hts hin0 hown hK hP 8 rfl rfl 0 (by decide) hw3 (fun _ h9 => h9) rfl dX1_run_30 ?_
  refine lv_iconst (v := 4) hx hb dX1_run_33 (by decide) ?_
  refine va_iald hx hb hK hP 9 0 rfl rfl (vin (by decide) (by decide)) dX1_run_34 ?_
  refine lv_topi (fun y2 e2 => ?_)
  obtain rfl : kfs 4 = y2 := e2.symm
  refine va_put (D := (dC, dI)) (ci := 1) (v := .int (kfs 4)) (ty := .int) (C := RX1) (T := TX1) (N := 14) hx hb hts hin1 tyX1 tyX1_ok nmX1 hown hK hP hD hS 0 rfl rfl 9 (by decide) hw5 (fun _ h9 => h9) rfl (by decide +kernel) rfl rfl (Nat.le_of_ble_eq_true rfl) dX1_run_35 (fun H locs hP hD hS => ?_)
  replace hP : va_P (dC, dI) vwCl [(j, .inr (1, [.ref k, .ref d, .ref jd, .ref jb, .ref jw, .ref jl, .int (-6), .int (-6), .int x1, .int (kfs 4), .int jwarmDay, .int jbagDays, .int jburnt, .int jboiled])), (jd, .inl (cI, 60, .inl jfd)), (jb, .inl (cI, 60, .inl jfb)), (jw, .inl (cI, 60, .inl jfw)), (jl, .inl (cI, 61, .inl jfl)), (d, .inr (4, [.ref ds, .int dsz, .ref dk, .ref dw, .int dac, .int dwr])), (dk, .inl (cI, 60, .inl dfk)), (dw, .inl (cI, 60, .inl dfw)), (k, .inr (0, [.ref ks, .ref kw, .ref kc, .int kwd, .int kbg, .int kme, .ref kq, .ref km, .ref kd, .int ksi, .ref ka, .ref kk])), (ks, .inl (cI, 5, .inl kfs)), (kw, .inl (cI, 14, .inl kfw)), (kc, .inl (cZ, 14, .inl kfc)), (kq, .inl (cI, 6, .inl kfq)), (km, .inl (cI, 6, .inl kfm)), (kd, .inl (cI, 6, .inl kfd))] H := hP
  replace hD : va_D A [(j, .inr (1, [.ref k, .ref d, .ref jd, .ref jb, .ref jw, .ref jl, .int (-6), .int (-6), .int x1, .int (kfs 4), .int jwarmDay, .int jbagDays, .int jburnt, .int jboiled])), (jd, .inl (cI, 60, .inl jfd)), (jb, .inl (cI, 60, .inl jfb)), (jw, .inl (cI, 60, .inl jfw)), (jl, .inl (cI, 61, .inl jfl)), (d, .inr (4, [.ref ds, .int dsz, .ref dk, .ref dw, .int dac, .int dwr])), (dk, .inl (cI, 60, .inl dfk)), (dw, .inl (cI, 60, .inl dfw)), (k, .inr (0, [.ref ks, .ref kw, .ref kc, .int kwd, .int kbg, .int kme, .ref kq, .ref km, .ref kd, .int ksi, .ref ka, .ref kk])), (ks, .inl (cI, 5, .inl kfs)), (kw, .inl (cI, 14, .inl kfw)), (kc, .inl (cZ, 14, .inl kfc)), (kq, .inl (cI, 6, .inl kfq)), (km, .inl (cI, 6, .inl kfm)), (kd, .inl (cI, 6, .inl kfd))] := hD
  refine lv_aload_n hx hb dX1_run_38 rfl (lv_at hl 0 rfl) ?_
  refine lv_aload_n hx hb dX1_run_39 rfl (lv_at hl 0 rfl) ?_
  refine va_get (D := (dC, dI)) (ci := 1) (v := .ref k) (C := RX1) (T := TX1) (N := 14) hx hb hts hin1 hown hK hP 0 rfl rfl 0 (by decide) hw2 (fun _ h9 => h9) rfl dX1_run_40 ?_
  refine va_get (D := (dC, dI)) (ci := 0) (v := .int kwd) (C := RX0) (T := TX0) (N := 12) hx hb hts hin0 hown hK hP 8 rfl rfl 3 (by decide) hw6 (fun _ h9 => h9) rfl dX1_run_43 ?_
  refine va_put (D := (dC, dI)) (ci := 1) (v := .int kwd) (ty := .int) (C := RX1) (T := TX1) (N := 14) hx hb hts hin1 tyX1 tyX1_ok nmX1 hown hK hP hD hS 0 rfl rfl 10 (by decide) hw7 (fun _ h9 => h9) rfl (by decide +kernel) rfl rfl (Nat.le_of_ble_eq_true rfl) dX1_run_46 (fun H locs hP hD hS => ?_)
  replace hP : va_P (dC, dI) vwCl [(j, .inr (1, [.ref k, .ref d, .ref jd, .ref jb, .ref jw, .ref jl, .int (-6), .int (-6), .int x1, .int (kfs 4), .int kwd, .int jbagDays, .int jburnt, .int jboiled])), (jd, .inl (cI, 60, .inl jfd)), (jb, .inl (cI, 60, .inl jfb)), (jw, .inl (cI, 60, .inl jfw)), (jl, .inl (cI, 61, .inl jfl)), (d, .inr (4, [.ref ds, .int dsz, .ref dk, .ref dw, .int dac, .int dwr])), (dk, .inl (cI, 60, .inl dfk)), (dw, .inl (cI, 60, .inl dfw)), (k, .inr (0, [.ref ks, .ref kw, .ref kc, .int kwd, .int kbg, .int kme, .ref kq, .ref km, .ref kd, .int ksi, .ref ka, .ref kk])), (ks, .inl (cI, 5, .inl kfs)), (kw, .inl (cI, 14, .inl kfw)), (kc, .inl (cZ, 14, .inl kfc)), (kq, .inl (cI, 6, .inl kfq)), (km, .inl (cI, 6, .inl kfm)), (kd, .inl (cI, 6, .inl kfd))] H := hP
  replace hD : va_D A [(j, .inr (1, [.ref k, .ref d, .ref jd, .ref jb, .ref jw, .ref jl, .int (-6), .int (-6), .int x1, .int (kfs 4), .int kwd, .int jbagDays, .int jburnt, .int jboiled])), (jd, .inl (cI, 60, .inl jfd)), (jb, .inl (cI, 60, .inl jfb)), (jw, .inl (cI, 60, .inl jfw)), (jl, .inl (cI, 61, .inl jfl)), (d, .inr (4, [.ref ds, .int dsz, .ref dk, .ref dw, .int dac, .int dwr])), (dk, .inl (cI, 60, .inl dfk)), (dw, .inl (cI, 60, .inl dfw)), (k, .inr (0, [.ref ks, .ref kw, .ref kc, .int kwd, .int kbg, .int kme, .ref kq, .ref km, .ref kd, .int ksi, .ref ka, .ref kk])), (ks, .inl (cI, 5, .inl kfs)), (kw, .inl (cI, 14, .inl kfw)), (kc, .inl (cZ, 14, .inl kfc)), (kq, .inl (cI, 6, .inl kfq)), (km, .inl (cI, 6, .inl kfm)), (kd, .inl (cI, 6, .inl kfd))] := hD
  refine lv_aload_n hx hb dX1_run_49 rfl (lv_at hl 0 rfl) ?_
  refine lv_aload_n hx hb dX1_run_50 rfl (lv_at hl 0 rfl) ?_
  refine va_get (D := (dC, dI)) (ci := 1) (v := .ref k) (C := RX1) (T := TX1) (N := 14) hx hb hts hin1 hown hK hP 0 rfl rfl 0 (by decide) hw2 (fun _ h9 => h9) rfl dX1_run_51 ?_
  refine va_get (D := (dC, dI)) (ci := 0) (v := .int kbg) (C := RX0) (T := TX0) (N := 12) hx hb hts hin0 hown hK hP 8 rfl rfl 4 (by decide) hw8 (fun _ h9 => h9) rfl dX1_run_54 ?_
  refine va_put (D := (dC, dI)) (ci := 1) (v := .int kbg) (ty := .int) (C := RX1) (T := TX1) (N := 14) hx hb hts hin1 tyX1 tyX1_ok nmX1 hown hK hP hD hS 0 rfl rfl 11 (by decide) hw9 (fun _ h9 => h9) rfl (by decide +kernel) rfl rfl (Nat.le_of_ble_eq_true rfl) dX1_run_57 (fun H locs hP hD hS => ?_)
  replace hP : va_P (dC, dI) vwCl [(j, .inr (1, [.ref k, .ref d, .ref jd, .ref jb, .ref jw, .ref jl, .int (-6), .int (-6), .int x1, .int (kfs 4), .int kwd, .int kbg, .int jburnt, .int jboiled])), (jd, .inl (cI, 60, .inl jfd)), (jb, .inl (cI, 60, .inl jfb)), (jw, .inl (cI, 60, .inl jfw)), (jl, .inl (cI, 61, .inl jfl)), (d, .inr (4, [.ref ds, .int dsz, .ref dk, .ref dw, .int dac, .int dwr])), (dk, .inl (cI, 60, .inl dfk)), (dw, .inl (cI, 60, .inl dfw)), (k, .inr (0, [.ref ks, .ref kw, .ref kc, .int kwd, .int kbg, .int kme, .ref kq, .ref km, .ref kd, .int ksi, .ref ka, .ref kk])), (ks, .inl (cI, 5, .inl kfs)), (kw, .inl (cI, 14, .inl kfw)), (kc, .inl (cZ, 14, .inl kfc)), (kq, .inl (cI, 6, .inl kfq)), (km, .inl (cI, 6, .inl kfm)), (kd, .inl (cI, 6, .inl kfd))] H := hP
  replace hD : va_D A [(j, .inr (1, [.ref k, .ref d, .ref jd, .ref jb, .ref jw, .ref jl, .int (-6), .int (-6), .int x1, .int (kfs 4), .int kwd, .int kbg, .int jburnt, .int jboiled])), (jd, .inl (cI, 60, .inl jfd)), (jb, .inl (cI, 60, .inl jfb)), (jw, .inl (cI, 60, .inl jfw)), (jl, .inl (cI, 61, .inl jfl)), (d, .inr (4, [.ref ds, .int dsz, .ref dk, .ref dw, .int dac, .int dwr])), (dk, .inl (cI, 60, .inl dfk)), (dw, .inl (cI, 60, .inl dfw)), (k, .inr (0, [.ref ks, .ref kw, .ref kc, .int kwd, .int kbg, .int kme, .ref kq, .ref km, .ref kd, .int ksi, .ref ka, .ref kk])), (ks, .inl (cI, 5, .inl kfs)), (kw, .inl (cI, 14, .inl kfw)), (kc, .inl (cZ, 14, .inl kfc)), (kq, .inl (cI, 6, .inl kfq)), (km, .inl (cI, 6, .inl kfm)), (kd, .inl (cI, 6, .inl kfd))] := hD
  refine lv_aload_n hx hb dX1_run_60 rfl (lv_at hl 0 rfl) ?_
  refine lv_iconst (v := 0) hx hb dX1_run_61 (by decide) ?_
  refine va_put (D := (dC, dI)) (ci := 1) (v := .int 0) (ty := .int) (C := RX1) (T := TX1) (N := 14) hx hb hts hin1 tyX1 tyX1_ok nmX1 hown hK hP hD hS 0 rfl rfl 12 (by decide) hw10 (fun _ h9 => h9) rfl (by decide +kernel) rfl rfl (Nat.le_of_ble_eq_true rfl) dX1_run_62 (fun H locs hP hD hS => ?_)
  replace hP : va_P (dC, dI) vwCl [(j, .inr (1, [.ref k, .ref d, .ref jd, .ref jb, .ref jw, .ref jl, .int (-6), .int (-6), .int x1, .int (kfs 4), .int kwd, .int kbg, .int 0, .int jboiled])), (jd, .inl (cI, 60, .inl jfd)), (jb, .inl (cI, 60, .inl jfb)), (jw, .inl (cI, 60, .inl jfw)), (jl, .inl (cI, 61, .inl jfl)), (d, .inr (4, [.ref ds, .int dsz, .ref dk, .ref dw, .int dac, .int dwr])), (dk, .inl (cI, 60, .inl dfk)), (dw, .inl (cI, 60, .inl dfw)), (k, .inr (0, [.ref ks, .ref kw, .ref kc, .int kwd, .int kbg, .int kme, .ref kq, .ref km, .ref kd, .int ksi, .ref ka, .ref kk])), (ks, .inl (cI, 5, .inl kfs)), (kw, .inl (cI, 14, .inl kfw)), (kc, .inl (cZ, 14, .inl kfc)), (kq, .inl (cI, 6, .inl kfq)), (km, .inl (cI, 6, .inl kfm)), (kd, .inl (cI, 6, .inl kfd))] H := hP
  replace hD : va_D A [(j, .inr (1, [.ref k, .ref d, .ref jd, .ref jb, .ref jw, .ref jl, .int (-6), .int (-6), .int x1, .int (kfs 4), .int kwd, .int kbg, .int 0, .int jboiled])), (jd, .inl (cI, 60, .inl jfd)), (jb, .inl (cI, 60, .inl jfb)), (jw, .inl (cI, 60, .inl jfw)), (jl, .inl (cI, 61, .inl jfl)), (d, .inr (4, [.ref ds, .int dsz, .ref dk, .ref dw, .int dac, .int dwr])), (dk, .inl (cI, 60, .inl dfk)), (dw, .inl (cI, 60, .inl dfw)), (k, .inr (0, [.ref ks, .ref kw, .ref kc, .int kwd, .int kbg, .int kme, .ref kq, .ref km, .ref kd, .int ksi, .ref ka, .ref kk])), (ks, .inl (cI, 5, .inl kfs)), (kw, .inl (cI, 14, .inl kfw)), (kc, .inl (cZ, 14, .inl kfc)), (kq, .inl (cI, 6, .inl kfq)), (km, .inl (cI, 6, .inl kfm)), (kd, .inl (cI, 6, .inl kfd))] := hD
  refine lv_aload_n hx hb dX1_run_65 rfl (lv_at hl 0 rfl) ?_
  refine lv_iconst (v := 0) hx hb dX1_run_66 (by decide) ?_
  refine va_put (D := (dC, dI)) (ci := 1) (v := .int 0) (ty := .int) (C := RX1) (T := TX1) (N := 14) hx hb hts hin1 tyX1 tyX1_ok nmX1 hown hK hP hD hS 0 rfl rfl 13 (by decide) hw11 (fun _ h9 => h9) rfl (by decide +kernel) rfl rfl (Nat.le_of_ble_eq_true rfl) dX1_run_67 (fun H locs hP hD hS => ?_)
  replace hP : va_P (dC, dI) vwCl [(j, .inr (1, [.ref k, .ref d, .ref jd, .ref jb, .ref jw, .ref jl, .int (-6), .int (-6), .int x1, .int (kfs 4), .int kwd, .int kbg, .int 0, .int 0])), (jd, .inl (cI, 60, .inl jfd)), (jb, .inl (cI, 60, .inl jfb)), (jw, .inl (cI, 60, .inl jfw)), (jl, .inl (cI, 61, .inl jfl)), (d, .inr (4, [.ref ds, .int dsz, .ref dk, .ref dw, .int dac, .int dwr])), (dk, .inl (cI, 60, .inl dfk)), (dw, .inl (cI, 60, .inl dfw)), (k, .inr (0, [.ref ks, .ref kw, .ref kc, .int kwd, .int kbg, .int kme, .ref kq, .ref km, .ref kd, .int ksi, .ref ka, .ref kk])), (ks, .inl (cI, 5, .inl kfs)), (kw, .inl (cI, 14, .inl kfw)), (kc, .inl (cZ, 14, .inl kfc)), (kq, .inl (cI, 6, .inl kfq)), (km, .inl (cI, 6, .inl kfm)), (kd, .inl (cI, 6, .inl kfd))] H := hP
  replace hD : va_D A [(j, .inr (1, [.ref k, .ref d, .ref jd, .ref jb, .ref jw, .ref jl, .int (-6), .int (-6), .int x1, .int (kfs 4), .int kwd, .int kbg, .int 0, .int 0])), (jd, .inl (cI, 60, .inl jfd)), (jb, .inl (cI, 60, .inl jfb)), (jw, .inl (cI, 60, .inl jfw)), (jl, .inl (cI, 61, .inl jfl)), (d, .inr (4, [.ref ds, .int dsz, .ref dk, .ref dw, .int dac, .int dwr])), (dk, .inl (cI, 60, .inl dfk)), (dw, .inl (cI, 60, .inl dfw)), (k, .inr (0, [.ref ks, .ref kw, .ref kc, .int kwd, .int kbg, .int kme, .ref kq, .ref km, .ref kd, .int ksi, .ref ka, .ref kk])), (ks, .inl (cI, 5, .inl kfs)), (kw, .inl (cI, 14, .inl kfw)), (kc, .inl (cZ, 14, .inl kfc)), (kq, .inl (cI, 6, .inl kfq)), (km, .inl (cI, 6, .inl kfm)), (kd, .inl (cI, 6, .inl kfd))] := hD
  refine lv_aload_n hx hb dX1_run_70 rfl (lv_at hl 0 rfl) ?_
  refine va_get (D := (dC, dI)) (ci := 1) (v := .ref jl) (C := RX1) (T := TX1) (N := 14) hx hb hts hin1 hown hK hP 0 rfl rfl 5 (by decide) hw12 (fun _ h9 => h9) rfl dX1_run_71 ?_
  refine lv_iconst (v := 0) hx hb dX1_run_74 (by decide) ?_
  refine lv_aload_n hx hb dX1_run_75 rfl (lv_at hl 0 rfl) ?_
  refine va_get (D := (dC, dI)) (ci := 1) (v := .int x1) (C := RX1) (T := TX1) (N := 14) hx hb hts hin1 hown hK hP 0 rfl rfl 8 (by decide) hw4 (fun _ h9 => h9) rfl dX1_run_76 ?_
  refine va_iast hx hb hK hP hD hS 4 0 rfl rfl (vin (by decide) (by decide)) dX1_run_79 (fun H locs hP hD hS => ?_)
  replace hP : va_P (dC, dI) vwCl [(j, .inr (1, [.ref k, .ref d, .ref jd, .ref jb, .ref jw, .ref jl, .int (-6), .int (-6), .int x1, .int (kfs 4), .int kwd, .int kbg, .int 0, .int 0])), (jd, .inl (cI, 60, .inl jfd)), (jb, .inl (cI, 60, .inl jfb)), (jw, .inl (cI, 60, .inl jfw)), (jl, .inl (cI, 61, .inl (upd jfl 0 x1))), (d, .inr (4, [.ref ds, .int dsz, .ref dk, .ref dw, .int dac, .int dwr])), (dk, .inl (cI, 60, .inl dfk)), (dw, .inl (cI, 60, .inl dfw)), (k, .inr (0, [.ref ks, .ref kw, .ref kc, .int kwd, .int kbg, .int kme, .ref kq, .ref km, .ref kd, .int ksi, .ref ka, .ref kk])), (ks, .inl (cI, 5, .inl kfs)), (kw, .inl (cI, 14, .inl kfw)), (kc, .inl (cZ, 14, .inl kfc)), (kq, .inl (cI, 6, .inl kfq)), (km, .inl (cI, 6, .inl kfm)), (kd, .inl (cI, 6, .inl kfd))] H := hP
  replace hD : va_D A [(j, .inr (1, [.ref k, .ref d, .ref jd, .ref jb, .ref jw, .ref jl, .int (-6), .int (-6), .int x1, .int (kfs 4), .int kwd, .int kbg, .int 0, .int 0])), (jd, .inl (cI, 60, .inl jfd)), (jb, .inl (cI, 60, .inl jfb)), (jw, .inl (cI, 60, .inl jfw)), (jl, .inl (cI, 61, .inl (upd jfl 0 x1))), (d, .inr (4, [.ref ds, .int dsz, .ref dk, .ref dw, .int dac, .int dwr])), (dk, .inl (cI, 60, .inl dfk)), (dw, .inl (cI, 60, .inl dfw)), (k, .inr (0, [.ref ks, .ref kw, .ref kc, .int kwd, .int kbg, .int kme, .ref kq, .ref km, .ref kd, .int ksi, .ref ka, .ref kk])), (ks, .inl (cI, 5, .inl kfs)), (kw, .inl (cI, 14, .inl kfw)), (kc, .inl (cZ, 14, .inl kfc)), (kq, .inl (cI, 6, .inl kfq)), (km, .inl (cI, 6, .inl kfm)), (kd, .inl (cI, 6, .inl kfd))] := hD
  refine lv_iconst (v := 0) hx hb dX1_run_80 (by decide) ?_
  refine lv_istore_n (lv' := [(2, .int 0), (0, .ref j), (1, .int i0)]) hx hb dX1_run_81 rfl hl (by decide) rfl (fun ls hl => ?_)
  have z4 : (0 : Int32).toInt = 0 := rfl
  have z5 : (-6 : Int32).toInt = -6 := rfl
  have z6 : (-6 : Int32).toInt = -6 := rfl
  have z7 : (0 : Int32).toInt = 0 := rfl
  have z8 : (0 : Int32).toInt = 0 := rfl
  have hl0 := hl
  clear hl
  have hP0 := hP
  clear hP
  have hD0 := hD
  clear hD
  obtain ⟨y2, ybad, ywhy, yleft, yday, ywarmDay, ybagDays, yburnt, yboiled, yfd, yfb, yfw, yfl, ex, h_yfd, hl, hP, hD⟩ : ∃ (y2 ybad ywhy yleft yday ywarmDay ybagDays yburnt yboiled : Int32) (yfd yfb yfw yfl : Nat → Int32), (0 ≤ y2.toInt ∧ y2.toInt ≤ dac.toInt ∧ 0 ≤ yday.toInt ∧ yday.toInt ≤ 13) ∧ rg yfd 60 0 13 ∧ lv_has ls 4 [(2, .int y2), (0, .ref j), (1, .int i0)] ∧ va_P (dC, dI) vwCl [(j, .inr (1, [.ref k, .ref d, .ref jd, .ref jb, .ref jw, .ref jl, .int ybad, .int ywhy, .int yleft, .int yday, .int ywarmDay, .int ybagDays, .int yburnt, .int yboiled])), (jd, .inl (cI, 60, .inl yfd)), (jb, .inl (cI, 60, .inl yfb)), (jw, .inl (cI, 60, .inl yfw)), (jl, .inl (cI, 61, .inl yfl)), (d, .inr (4, [.ref ds, .int dsz, .ref dk, .ref dw, .int dac, .int dwr])), (dk, .inl (cI, 60, .inl dfk)), (dw, .inl (cI, 60, .inl dfw)), (k, .inr (0, [.ref ks, .ref kw, .ref kc, .int kwd, .int kbg, .int kme, .ref kq, .ref km, .ref kd, .int ksi, .ref ka, .ref kk])), (ks, .inl (cI, 5, .inl kfs)), (kw, .inl (cI, 14, .inl kfw)), (kc, .inl (cZ, 14, .inl kfc)), (kq, .inl (cI, 6, .inl kfq)), (km, .inl (cI, 6, .inl kfm)), (kd, .inl (cI, 6, .inl kfd))] H ∧ va_D A [(j, .inr (1, [.ref k, .ref d, .ref jd, .ref jb, .ref jw, .ref jl, .int ybad, .int ywhy, .int yleft, .int yday, .int ywarmDay, .int ybagDays, .int yburnt, .int yboiled])), (jd, .inl (cI, 60, .inl yfd)), (jb, .inl (cI, 60, .inl yfb)), (jw, .inl (cI, 60, .inl yfw)), (jl, .inl (cI, 61, .inl yfl)), (d, .inr (4, [.ref ds, .int dsz, .ref dk, .ref dw, .int dac, .int dwr])), (dk, .inl (cI, 60, .inl dfk)), (dw, .inl (cI, 60, .inl dfw)), (k, .inr (0, [.ref ks, .ref kw, .ref kc, .int kwd, .int kbg, .int kme, .ref kq, .ref km, .ref kd, .int ksi, .ref ka, .ref kk])), (ks, .inl (cI, 5, .inl kfs)), (kw, .inl (cI, 14, .inl kfw)), (kc, .inl (cZ, 14, .inl kfc)), (kq, .inl (cI, 6, .inl kfq)), (km, .inl (cI, 6, .inl kfm)), (kd, .inl (cI, 6, .inl kfd))] := ⟨0, (-6), (-6), x1, (kfs 4), kwd, kbg, 0, 0, jfd, jfb, jfw, (upd jfl 0 x1), by omega, h_jfd, hl0, hP0, hD0⟩
  clear hl0 hP0 hD0
  obtain ⟨n3, hn⟩ : ∃ n : Nat, (n : Int) = dac.toInt - y2.toInt := ⟨(dac.toInt - y2.toInt).toNat, by omega⟩
  induction n3 generalizing y2 ybad ywhy yleft yday ywarmDay ybagDays yburnt yboiled yfd yfb yfw yfl ls H locs with
  | zero =>
    skip
    refine lv_iload_n hx hb dX1_run_82 rfl (lv_at hl 0 rfl) ?_
    refine lv_aload_n hx hb dX1_run_83 rfl (lv_at hl 1 rfl) ?_
    refine va_get (D := (dC, dI)) (ci := 1) (v := .ref d) (C := RX1) (T := TX1) (N := 14) hx hb hts hin1 hown hK hP 0 rfl rfl 1 (by decide) hw13 (fun _ h9 => h9) rfl dX1_run_84 ?_
    refine va_get (D := (dC, dI)) (ci := 4) (v := .int dac) (C := RX4) (T := TX4) (N := 6) hx hb hts hin4 hown hK hP 5 rfl rfl 4 (by decide) hw14 (fun _ h9 => h9) rfl dX1_run_87 ?_
    refine lv_icmp_ge (tgt := 142) hx hb dX1_run_90 (by decide) (fun c9 => ?_) (fun c9 => by exfalso; have t9 : y2.toInt < dac.toInt := (tnle c9); omega)
    have hP9 := mx_subP (wc := [(j, .inr (1, [.ref k, .ref d, .ref jd, .ref jb, .ref jw, .ref jl, .int ybad, .int ywhy, .int yleft, .int yday, .int ywarmDay, .int ybagDays, .int yburnt, .int yboiled])), (jd, .inl (cI, 60, .inl yfd)), (jb, .inl (cI, 60, .inl yfb)), (jw, .inl (cI, 60, .inl yfw)), (jl, .inl (cI, 61, .inl yfl)), (d, .inr (4, [.ref ds, .int dsz, .ref dk, .ref dw, .int dac, .int dwr])), (dk, .inl (cI, 60, .inl dfk)), (dw, .inl (cI, 60, .inl dfw)), (k, .inr (0, [.ref ks, .ref kw, .ref kc, .int kwd, .int kbg, .int kme, .ref kq, .ref km, .ref kd, .int ksi, .ref ka, .ref kk])), (ks, .inl (cI, 5, .inl kfs)), (kw, .inl (cI, 14, .inl kfw)), (kc, .inl (cZ, 14, .inl kfc)), (kq, .inl (cI, 6, .inl kfq)), (km, .inl (cI, 6, .inl kfm)), (kd, .inl (cI, 6, .inl kfd))]) hP [0, 1, 2, 3, 4, 5, 6, 7, 8, 9, 10, 11, 12, 13, 14] rfl
    have hD9 := hD.sub (ws' := [(j, .inr (1, [.ref k, .ref d, .ref jd, .ref jb, .ref jw, .ref jl, .int ybad, .int ywhy, .int yleft, .int yday, .int ywarmDay, .int ybagDays, .int yburnt, .int yboiled])), (jd, .inl (cI, 60, .inl yfd)), (jb, .inl (cI, 60, .inl yfb)), (jw, .inl (cI, 60, .inl yfw)), (jl, .inl (cI, 61, .inl yfl)), (d, .inr (4, [.ref ds, .int dsz, .ref dk, .ref dw, .int dac, .int dwr])), (dk, .inl (cI, 60, .inl dfk)), (dw, .inl (cI, 60, .inl dfw)), (k, .inr (0, [.ref ks, .ref kw, .ref kc, .int kwd, .int kbg, .int kme, .ref kq, .ref km, .ref kd, .int ksi, .ref ka, .ref kk])), (ks, .inl (cI, 5, .inl kfs)), (kw, .inl (cI, 14, .inl kfw)), (kc, .inl (cZ, 14, .inl kfc)), (kq, .inl (cI, 6, .inl kfq)), (km, .inl (cI, 6, .inl kfm)), (kd, .inl (cI, 6, .inl kfd))]) [0, 1, 2, 3, 4, 5, 6, 7, 8, 9, 10, 11, 12, 13, 14] (by decide) rfl
    exact W.vret hx hb hr (fun t ht hW => ⟨⟨((fun u9 => ([yfb, yfd, yfl, yfw] : List (Nat → Int32)).getD u9 (fun _ => 0)), (fun u9 => ([ywarmDay, ybagDays, yburnt, yboiled, ybad, ywhy, yleft, yday] : List Int32).getD u9 0), (fun u9 => ([] : List Int64).getD u9 0)), rfl, ⟨(show 0 ≤ (yday).toInt ∧ (yday).toInt ≤ 13 from (by omega)), h_yfd⟩, by rw [ht]; exact hP9, hD9⟩, hS.F ht⟩) hS.2.2 dX1_run_142
  | succ n3 ih =>
    skip
    refine lv_iload_n hx hb dX1_run_82 rfl (lv_at hl 0 rfl) ?_
    refine lv_aload_n hx hb dX1_run_83 rfl (lv_at hl 1 rfl) ?_
    refine va_get (D := (dC, dI)) (ci := 1) (v := .ref d) (C := RX1) (T := TX1) (N := 14) hx hb hts hin1 hown hK hP 0 rfl rfl 1 (by decide) hw13 (fun _ h9 => h9) rfl dX1_run_84 ?_
    refine va_get (D := (dC, dI)) (ci := 4) (v := .int dac) (C := RX4) (T := TX4) (N := 6) hx hb hts hin4 hown hK hP 5 rfl rfl 4 (by decide) hw14 (fun _ h9 => h9) rfl dX1_run_87 ?_
    refine lv_icmp_ge (tgt := 142) hx hb dX1_run_90 (by decide) (fun c10 => by exfalso; have t10 : dac.toInt ≤ y2.toInt := (tle c10); omega) (fun c10 => ?_)
    refine lv_aload_n hx hb dX1_run_93 rfl (lv_at hl 1 rfl) ?_
    refine va_get (D := (dC, dI)) (ci := 1) (v := .int ybad) (C := RX1) (T := TX1) (N := 14) hx hb hts hin1 hown hK hP 0 rfl rfl 6 (by decide) hw0 (fun _ h9 => h9) rfl dX1_run_94 ?_
    refine lv_bipush (v := (-6)) hx hb dX1_run_97 (by decide) ?_
    refine lv_icmp_ne (tgt := 142) hx hb dX1_run_99 (by decide) (fun c11 => ?_) (fun c11 => ?_)
    · have t11 : ybad.toInt ≠ (-6 : Int) := (tne c11)
      have hP9 := mx_subP (wc := [(j, .inr (1, [.ref k, .ref d, .ref jd, .ref jb, .ref jw, .ref jl, .int ybad, .int ywhy, .int yleft, .int yday, .int ywarmDay, .int ybagDays, .int yburnt, .int yboiled])), (jd, .inl (cI, 60, .inl yfd)), (jb, .inl (cI, 60, .inl yfb)), (jw, .inl (cI, 60, .inl yfw)), (jl, .inl (cI, 61, .inl yfl)), (d, .inr (4, [.ref ds, .int dsz, .ref dk, .ref dw, .int dac, .int dwr])), (dk, .inl (cI, 60, .inl dfk)), (dw, .inl (cI, 60, .inl dfw)), (k, .inr (0, [.ref ks, .ref kw, .ref kc, .int kwd, .int kbg, .int kme, .ref kq, .ref km, .ref kd, .int ksi, .ref ka, .ref kk])), (ks, .inl (cI, 5, .inl kfs)), (kw, .inl (cI, 14, .inl kfw)), (kc, .inl (cZ, 14, .inl kfc)), (kq, .inl (cI, 6, .inl kfq)), (km, .inl (cI, 6, .inl kfm)), (kd, .inl (cI, 6, .inl kfd))]) hP [0, 1, 2, 3, 4, 5, 6, 7, 8, 9, 10, 11, 12, 13, 14] rfl
      have hD9 := hD.sub (ws' := [(j, .inr (1, [.ref k, .ref d, .ref jd, .ref jb, .ref jw, .ref jl, .int ybad, .int ywhy, .int yleft, .int yday, .int ywarmDay, .int ybagDays, .int yburnt, .int yboiled])), (jd, .inl (cI, 60, .inl yfd)), (jb, .inl (cI, 60, .inl yfb)), (jw, .inl (cI, 60, .inl yfw)), (jl, .inl (cI, 61, .inl yfl)), (d, .inr (4, [.ref ds, .int dsz, .ref dk, .ref dw, .int dac, .int dwr])), (dk, .inl (cI, 60, .inl dfk)), (dw, .inl (cI, 60, .inl dfw)), (k, .inr (0, [.ref ks, .ref kw, .ref kc, .int kwd, .int kbg, .int kme, .ref kq, .ref km, .ref kd, .int ksi, .ref ka, .ref kk])), (ks, .inl (cI, 5, .inl kfs)), (kw, .inl (cI, 14, .inl kfw)), (kc, .inl (cZ, 14, .inl kfc)), (kq, .inl (cI, 6, .inl kfq)), (km, .inl (cI, 6, .inl kfm)), (kd, .inl (cI, 6, .inl kfd))]) [0, 1, 2, 3, 4, 5, 6, 7, 8, 9, 10, 11, 12, 13, 14] (by decide) rfl
      exact W.vret hx hb hr (fun t ht hW => ⟨⟨((fun u9 => ([yfb, yfd, yfl, yfw] : List (Nat → Int32)).getD u9 (fun _ => 0)), (fun u9 => ([ywarmDay, ybagDays, yburnt, yboiled, ybad, ywhy, yleft, yday] : List Int32).getD u9 0), (fun u9 => ([] : List Int64).getD u9 0)), rfl, ⟨(show 0 ≤ (yday).toInt ∧ (yday).toInt ≤ 13 from (by omega)), h_yfd⟩, by rw [ht]; exact hP9, hD9⟩, hS.F ht⟩) hS.2.2 dX1_run_142
    · have t11 : ybad.toInt = (-6 : Int) := (teq c11)
      refine lv_aload_n hx hb dX1_run_102 rfl (lv_at hl 1 rfl) ?_
      refine lv_iload_n hx hb dX1_run_103 rfl (lv_at hl 0 rfl) ?_
      refine mx_v (wr := [(jl, .inl (cI, 61, .inl yfl)), (kc, .inl (cZ, 14, .inl kfc)), (kd, .inl (cI, 6, .inl kfd))]) (va_runV (As := [.int y2]) (rest := []) ⟨hx, hb, hml, hown, hts⟩ (c_X1_ready l dC dI cI cZ cK tS aK aV j y2 k d jd jb jw jl ybad ywhy yleft yday ywarmDay ybagDays yburnt yboiled yfd yfb yfw ds dsz dk dw dac dwr dfk dfw ks kw kc kwd kbg kme kq km kd ksi ka kk kfs kfw kfq kfm H.size h_yfd (by first | omega | decide | assumption | trivial) h_kfw (by first | omega | decide | assumption | trivial) (by first | omega | decide | assumption | trivial)) (cwV 1 hts (gw_v (fun _ h9 => List.mem_cons_of_mem _ h9) wm_372 wm_373 wm_374 wm_22 wm_375) rfl rfl rfl (by decide +kernel) ⟨Nat.le_of_ble_eq_true rfl, Nat.le_of_ble_eq_true rfl⟩) (mx_preV (C := RX1) (T := TX1) (N := 14) (ci := 1) hKx hP hD hS hA [0, 1, 2, 3, 5, 6, 7, 8, 9, 10, 12, 13] (by decide) rfl rfl rfl) rfl rfl hl.1 rfl (lv_room (Nat.le_of_ble_eq_true rfl)) dX1_run_104 ⟨Nat.le_of_ble_eq_true rfl, Nat.le_of_ble_eq_true rfl⟩) hP hD hS hA [0, 1, 2, 3, 5, 6, 7, 8, 9, 10, 12, 13] [4, 11, 14] rfl rfl (by decide) (by decide) (fun u12 H locs hq12 hP hD hS => ?_)
      replace hP : va_P (dC, dI) vwCl [(jl, .inl (cI, 61, .inl yfl)), (kc, .inl (cZ, 14, .inl kfc)), (kd, .inl (cI, 6, .inl kfd)), (j, .inr (1, [.ref k, .ref d, .ref jd, .ref jb, .ref jw, .ref jl, .int ybad, .int ywhy, .int yleft, .int yday, .int ywarmDay, .int ybagDays, .int yburnt, .int yboiled])), (jd, .inl (cI, 60, .inl (u12.1 1))), (jb, .inl (cI, 60, .inl (u12.1 0))), (jw, .inl (cI, 60, .inl (u12.1 2))), (d, .inr (4, [.ref ds, .int dsz, .ref dk, .ref dw, .int dac, .int dwr])), (dk, .inl (cI, 60, .inl dfk)), (dw, .inl (cI, 60, .inl dfw)), (k, .inr (0, [.ref ks, .ref kw, .ref kc, .int kwd, .int kbg, .int kme, .ref kq, .ref km, .ref kd, .int ksi, .ref ka, .ref kk])), (ks, .inl (cI, 5, .inl kfs)), (kw, .inl (cI, 14, .inl kfw)), (kq, .inl (cI, 6, .inl kfq)), (km, .inl (cI, 6, .inl kfm))] H := hP
      replace hD : va_D A [(jl, .inl (cI, 61, .inl yfl)), (kc, .inl (cZ, 14, .inl kfc)), (kd, .inl (cI, 6, .inl kfd)), (j, .inr (1, [.ref k, .ref d, .ref jd, .ref jb, .ref jw, .ref jl, .int ybad, .int ywhy, .int yleft, .int yday, .int ywarmDay, .int ybagDays, .int yburnt, .int yboiled])), (jd, .inl (cI, 60, .inl (u12.1 1))), (jb, .inl (cI, 60, .inl (u12.1 0))), (jw, .inl (cI, 60, .inl (u12.1 2))), (d, .inr (4, [.ref ds, .int dsz, .ref dk, .ref dw, .int dac, .int dwr])), (dk, .inl (cI, 60, .inl dfk)), (dw, .inl (cI, 60, .inl dfw)), (k, .inr (0, [.ref ks, .ref kw, .ref kc, .int kwd, .int kbg, .int kme, .ref kq, .ref km, .ref kd, .int ksi, .ref ka, .ref kk])), (ks, .inl (cI, 5, .inl kfs)), (kw, .inl (cI, 14, .inl kfw)), (kq, .inl (cI, 6, .inl kfq)), (km, .inl (cI, 6, .inl kfm))] := hD
      have hu12_0 := hq12
      refine lv_aload_n hx hb dX1_run_107 rfl (lv_at hl 1 rfl) ?_
      refine lv_iload_n hx hb dX1_run_108 rfl (lv_at hl 0 rfl) ?_
      refine lv_iload_n hx hb dX1_run_109 rfl (lv_at hl 2 rfl) ?_
      refine mx_i (wr := [(jl, .inl (cI, 61, .inl yfl)), (jd, .inl (cI, 60, .inl (u12.1 1))), (jw, .inl (cI, 60, .inl (u12.1 2))), (kw, .inl (cI, 14, .inl kfw)), (kq, .inl (cI, 6, .inl kfq)), (km, .inl (cI, 6, .inl kfm))]) (va_runV (As := [.int y2, .int i0]) (rest := []) ⟨hx, hb, hml, hown, hts⟩ (c_X1_hindrance l dC dI cI cZ cK tS aK aV j y2 i0 k d jd jb jw jl ybad ywhy yleft yday ywarmDay ybagDays yburnt yboiled (u12.1 0) ds dsz dk dw dac dwr dfk dfw ks kw kc kwd kbg kme kq km kd ksi ka kk kfs kfc kfd H.size (by first | omega | decide | assumption | trivial) (by first | omega | decide | assumption | trivial) (by first | omega | decide | assumption | trivial)) (cwV 2 hts (gw_v (fun _ h9 => List.mem_cons_of_mem _ h9) wm_401 wm_402 wm_403 wm_22 wm_404) rfl rfl rfl (by decide +kernel) ⟨Nat.le_of_ble_eq_true rfl, Nat.le_of_ble_eq_true rfl⟩) (mx_preV (C := RX1) (T := TX1) (N := 14) (ci := 1) hKx hP hD hS hA [3, 5, 7, 8, 9, 10, 11, 1, 2] (by decide) rfl rfl rfl) rfl rfl hl.1 rfl (lv_room (Nat.le_of_ble_eq_true rfl)) dX1_run_110 ⟨Nat.le_of_ble_eq_true rfl, Nat.le_of_ble_eq_true rfl⟩) hP hD hS hA [3, 5, 7, 8, 9, 10, 11, 1, 2] [0, 4, 6, 12, 13, 14] rfl rfl (by decide) (by decide) (fun r13 u13 H locs hq13 hP hD hS => ?_)
      replace hP : va_P (dC, dI) vwCl [(jl, .inl (cI, 61, .inl yfl)), (jd, .inl (cI, 60, .inl (u12.1 1))), (jw, .inl (cI, 60, .inl (u12.1 2))), (kw, .inl (cI, 14, .inl kfw)), (kq, .inl (cI, 6, .inl kfq)), (km, .inl (cI, 6, .inl kfm)), (j, .inr (1, [.ref k, .ref d, .ref jd, .ref jb, .ref jw, .ref jl, .int ybad, .int ywhy, .int yleft, .int yday, .int ywarmDay, .int ybagDays, .int yburnt, .int yboiled])), (jb, .inl (cI, 60, .inl (u12.1 0))), (d, .inr (4, [.ref ds, .int dsz, .ref dk, .ref dw, .int dac, .int dwr])), (dk, .inl (cI, 60, .inl dfk)), (dw, .inl (cI, 60, .inl dfw)), (k, .inr (0, [.ref ks, .ref kw, .ref kc, .int kwd, .int kbg, .int kme, .ref kq, .ref km, .ref kd, .int ksi, .ref ka, .ref kk])), (ks, .inl (cI, 5, .inl kfs)), (kc, .inl (cZ, 14, .inl kfc)), (kd, .inl (cI, 6, .inl kfd))] H := hP
      replace hD : va_D A [(jl, .inl (cI, 61, .inl yfl)), (jd, .inl (cI, 60, .inl (u12.1 1))), (jw, .inl (cI, 60, .inl (u12.1 2))), (kw, .inl (cI, 14, .inl kfw)), (kq, .inl (cI, 6, .inl kfq)), (km, .inl (cI, 6, .inl kfm)), (j, .inr (1, [.ref k, .ref d, .ref jd, .ref jb, .ref jw, .ref jl, .int ybad, .int ywhy, .int yleft, .int yday, .int ywarmDay, .int ybagDays, .int yburnt, .int yboiled])), (jb, .inl (cI, 60, .inl (u12.1 0))), (d, .inr (4, [.ref ds, .int dsz, .ref dk, .ref dw, .int dac, .int dwr])), (dk, .inl (cI, 60, .inl dfk)), (dw, .inl (cI, 60, .inl dfw)), (k, .inr (0, [.ref ks, .ref kw, .ref kc, .int kwd, .int kbg, .int kme, .ref kq, .ref km, .ref kd, .int ksi, .ref ka, .ref kk])), (ks, .inl (cI, 5, .inl kfs)), (kc, .inl (cZ, 14, .inl kfc)), (kd, .inl (cI, 6, .inl kfd))] := hD
      have hr13 := hq13
      refine lv_istore_n (lv' := [(3, .int r13), (2, .int y2), (0, .ref j), (1, .int i0)]) hx hb dX1_run_113 rfl hl (by decide) rfl (fun ls hl => ?_)
      refine lv_iload_n hx hb dX1_run_114 rfl (lv_at hl 0 rfl) ?_
      refine lv_if_eq (tgt := 131) hx hb dX1_run_115 (by decide) (fun c14 => ?_) (fun c14 => ?_)
      · have t14 : r13.toInt = (0 : Int) := (teq c14)
        refine lv_aload_n hx hb dX1_run_131 rfl (lv_at hl 2 rfl) ?_
        refine lv_iload_n hx hb dX1_run_132 rfl (lv_at hl 1 rfl) ?_
        refine mx_v (wr := [(jd, .inl (cI, 60, .inl (u12.1 1))), (jw, .inl (cI, 60, .inl (u12.1 2))), (kw, .inl (cI, 14, .inl kfw)), (kq, .inl (cI, 6, .inl kfq)), (km, .inl (cI, 6, .inl kfm)), (dw, .inl (cI, 60, .inl dfw)), (k, .inr (0, [.ref ks, .ref kw, .ref kc, .int kwd, .int kbg, .int kme, .ref kq, .ref km, .ref kd, .int ksi, .ref ka, .ref kk])), (ks, .inl (cI, 5, .inl kfs)), (kc, .inl (cZ, 14, .inl kfc)), (kd, .inl (cI, 6, .inl kfd))]) (va_runV (As := [.int y2]) (rest := []) ⟨hx, hb, hml, hown, hts⟩ (c_X1_carryOut l dC dI cI cZ cK tS aK aV j y2 k d jd jb jw jl ybad ywhy yleft yday ywarmDay ybagDays yburnt yboiled (u12.1 0) yfl ds dsz dk dw dac dwr dfk H.size (by first | omega | decide | assumption | trivial) (by first | omega | decide | assumption | trivial) (by first | omega | decide | assumption | trivial)) (cwV 1 hts (gw_v (fun _ h9 => List.mem_cons_of_mem _ h9) wm_422 wm_423 wm_424 wm_22 wm_425) rfl rfl rfl (by decide +kernel) ⟨Nat.le_of_ble_eq_true rfl, Nat.le_of_ble_eq_true rfl⟩) (mx_preV (C := RX1) (T := TX1) (N := 14) (ci := 1) hKx hP hD hS hA [6, 7, 0, 8, 9] (by decide) rfl rfl rfl) rfl rfl hl.1 rfl (lv_room (Nat.le_of_ble_eq_true rfl)) dX1_run_133 ⟨Nat.le_of_ble_eq_true rfl, Nat.le_of_ble_eq_true rfl⟩) hP hD hS hA [6, 7, 0, 8, 9] [1, 2, 3, 4, 5, 10, 11, 12, 13, 14] rfl rfl (by decide) (by decide) (fun u15 H locs hq15 hP hD hS => ?_)
        replace hP : va_P (dC, dI) vwCl [(jd, .inl (cI, 60, .inl (u12.1 1))), (jw, .inl (cI, 60, .inl (u12.1 2))), (kw, .inl (cI, 14, .inl kfw)), (kq, .inl (cI, 6, .inl kfq)), (km, .inl (cI, 6, .inl kfm)), (dw, .inl (cI, 60, .inl dfw)), (k, .inr (0, [.ref ks, .ref kw, .ref kc, .int kwd, .int kbg, .int kme, .ref kq, .ref km, .ref kd, .int ksi, .ref ka, .ref kk])), (ks, .inl (cI, 5, .inl kfs)), (kc, .inl (cZ, 14, .inl kfc)), (kd, .inl (cI, 6, .inl kfd)), (j, .inr (1, [.ref k, .ref d, .ref jd, .ref jb, .ref jw, .ref jl, .int ybad, .int ywhy, .int (u15.2.1 4), .int (u15.2.1 5), .int (u15.2.1 0), .int (u15.2.1 1), .int (u15.2.1 2), .int (u15.2.1 3)])), (jb, .inl (cI, 60, .inl (u12.1 0))), (jl, .inl (cI, 61, .inl (u15.1 0))), (d, .inr (4, [.ref ds, .int dsz, .ref dk, .ref dw, .int dac, .int dwr])), (dk, .inl (cI, 60, .inl dfk))] H := hP
        replace hD : va_D A [(jd, .inl (cI, 60, .inl (u12.1 1))), (jw, .inl (cI, 60, .inl (u12.1 2))), (kw, .inl (cI, 14, .inl kfw)), (kq, .inl (cI, 6, .inl kfq)), (km, .inl (cI, 6, .inl kfm)), (dw, .inl (cI, 60, .inl dfw)), (k, .inr (0, [.ref ks, .ref kw, .ref kc, .int kwd, .int kbg, .int kme, .ref kq, .ref km, .ref kd, .int ksi, .ref ka, .ref kk])), (ks, .inl (cI, 5, .inl kfs)), (kc, .inl (cZ, 14, .inl kfc)), (kd, .inl (cI, 6, .inl kfd)), (j, .inr (1, [.ref k, .ref d, .ref jd, .ref jb, .ref jw, .ref jl, .int ybad, .int ywhy, .int (u15.2.1 4), .int (u15.2.1 5), .int (u15.2.1 0), .int (u15.2.1 1), .int (u15.2.1 2), .int (u15.2.1 3)])), (jb, .inl (cI, 60, .inl (u12.1 0))), (jl, .inl (cI, 61, .inl (u15.1 0))), (d, .inr (4, [.ref ds, .int dsz, .ref dk, .ref dw, .int dac, .int dwr])), (dk, .inl (cI, 60, .inl dfk))] := hD
        have hu15_0 := hq15
        obtain ⟨x16, e16⟩ : ∃ y : Int32, y = y2 + Int32.ofInt 1 := ⟨_, rfl⟩
        refine lv_iinc (v := x16) (lv' := [(2, .int x16), (3, .int r13), (0, .ref j), (1, .int i0)]) hx hb dX1_run_136 hl (k := 1) rfl e16.symm (by decide) rfl (fun ls hl => ?_)
        have f16 : x16.toInt = y2.toInt + 1 := by rw [e16]; exact tinc (by decide) (by have t8 := tb y2; omega) (by have t8 := tb y2; omega)
        refine lv_goto (tgt := 82) hx hb dX1_run_139 (by decide) ?_
        exact ih (H := H) (locs := locs) (ls := ls) (y2 := x16) (yfd := (u12.1 1)) (yfb := (u12.1 0)) (yfw := (u12.1 2)) (yfl := (u15.1 0)) (ybad := ybad) (ywhy := ywhy) (yleft := (u15.2.1 4)) (yday := (u15.2.1 5)) (ywarmDay := (u15.2.1 0)) (ybagDays := (u15.2.1 1)) (yburnt := (u15.2.1 2)) (yboiled := (u15.2.1 3)) hS (by omega) hu12_0 (show lv_has ls 4 [(2, .int x16), (0, .ref j), (1, .int i0)] from lv_sub hl [0, 2, 3] rfl) (mx_subP (wc := [(j, .inr (1, [.ref k, .ref d, .ref jd, .ref jb, .ref jw, .ref jl, .int ybad, .int ywhy, .int (u15.2.1 4), .int (u15.2.1 5), .int (u15.2.1 0), .int (u15.2.1 1), .int (u15.2.1 2), .int (u15.2.1 3)])), (jd, .inl (cI, 60, .inl (u12.1 1))), (jb, .inl (cI, 60, .inl (u12.1 0))), (jw, .inl (cI, 60, .inl (u12.1 2))), (jl, .inl (cI, 61, .inl (u15.1 0))), (d, .inr (4, [.ref ds, .int dsz, .ref dk, .ref dw, .int dac, .int dwr])), (dk, .inl (cI, 60, .inl dfk)), (dw, .inl (cI, 60, .inl dfw)), (k, .inr (0, [.ref ks, .ref kw, .ref kc, .int kwd, .int kbg, .int kme, .ref kq, .ref km, .ref kd, .int ksi, .ref ka, .ref kk])), (ks, .inl (cI, 5, .inl kfs)), (kw, .inl (cI, 14, .inl kfw)), (kc, .inl (cZ, 14, .inl kfc)), (kq, .inl (cI, 6, .inl kfq)), (km, .inl (cI, 6, .inl kfm)), (kd, .inl (cI, 6, .inl kfd))]) hP [10, 0, 11, 1, 12, 13, 14, 5, 6, 7, 2, 8, 3, 4, 9] rfl) (hD.sub (ws' := [(j, .inr (1, [.ref k, .ref d, .ref jd, .ref jb, .ref jw, .ref jl, .int ybad, .int ywhy, .int (u15.2.1 4), .int (u15.2.1 5), .int (u15.2.1 0), .int (u15.2.1 1), .int (u15.2.1 2), .int (u15.2.1 3)])), (jd, .inl (cI, 60, .inl (u12.1 1))), (jb, .inl (cI, 60, .inl (u12.1 0))), (jw, .inl (cI, 60, .inl (u12.1 2))), (jl, .inl (cI, 61, .inl (u15.1 0))), (d, .inr (4, [.ref ds, .int dsz, .ref dk, .ref dw, .int dac, .int dwr])), (dk, .inl (cI, 60, .inl dfk)), (dw, .inl (cI, 60, .inl dfw)), (k, .inr (0, [.ref ks, .ref kw, .ref kc, .int kwd, .int kbg, .int kme, .ref kq, .ref km, .ref kd, .int ksi, .ref ka, .ref kk])), (ks, .inl (cI, 5, .inl kfs)), (kw, .inl (cI, 14, .inl kfw)), (kc, .inl (cZ, 14, .inl kfc)), (kq, .inl (cI, 6, .inl kfq)), (km, .inl (cI, 6, .inl kfm)), (kd, .inl (cI, 6, .inl kfd))]) [10, 0, 11, 1, 12, 13, 14, 5, 6, 7, 2, 8, 3, 4, 9] (by decide) rfl) (by omega)
      · have t14 : r13.toInt ≠ (0 : Int) := (tne c14)
        refine lv_aload_n hx hb dX1_run_118 rfl (lv_at hl 2 rfl) ?_
        refine lv_iload_n hx hb dX1_run_119 rfl (lv_at hl 1 rfl) ?_
        refine va_put (D := (dC, dI)) (ci := 1) (v := .int y2) (ty := .int) (C := RX1) (T := TX1) (N := 14) hx hb hts hin1 tyX1 tyX1_ok nmX1 hown hK hP hD hS 6 rfl rfl 6 (by decide) hw0 (fun _ h9 => h9) rfl (by decide +kernel) rfl rfl (Nat.le_of_ble_eq_true rfl) dX1_run_120 (fun H locs hP hD hS => ?_)
        replace hP : va_P (dC, dI) vwCl [(jl, .inl (cI, 61, .inl yfl)), (jd, .inl (cI, 60, .inl (u12.1 1))), (jw, .inl (cI, 60, .inl (u12.1 2))), (kw, .inl (cI, 14, .inl kfw)), (kq, .inl (cI, 6, .inl kfq)), (km, .inl (cI, 6, .inl kfm)), (j, .inr (1, [.ref k, .ref d, .ref jd, .ref jb, .ref jw, .ref jl, .int y2, .int ywhy, .int yleft, .int yday, .int ywarmDay, .int ybagDays, .int yburnt, .int yboiled])), (jb, .inl (cI, 60, .inl (u12.1 0))), (d, .inr (4, [.ref ds, .int dsz, .ref dk, .ref dw, .int dac, .int dwr])), (dk, .inl (cI, 60, .inl dfk)), (dw, .inl (cI, 60, .inl dfw)), (k, .inr (0, [.ref ks, .ref kw, .ref kc, .int kwd, .int kbg, .int kme, .ref kq, .ref km, .ref kd, .int ksi, .ref ka, .ref kk])), (ks, .inl (cI, 5, .inl kfs)), (kc, .inl (cZ, 14, .inl kfc)), (kd, .inl (cI, 6, .inl kfd))] H := hP
        replace hD : va_D A [(jl, .inl (cI, 61, .inl yfl)), (jd, .inl (cI, 60, .inl (u12.1 1))), (jw, .inl (cI, 60, .inl (u12.1 2))), (kw, .inl (cI, 14, .inl kfw)), (kq, .inl (cI, 6, .inl kfq)), (km, .inl (cI, 6, .inl kfm)), (j, .inr (1, [.ref k, .ref d, .ref jd, .ref jb, .ref jw, .ref jl, .int y2, .int ywhy, .int yleft, .int yday, .int ywarmDay, .int ybagDays, .int yburnt, .int yboiled])), (jb, .inl (cI, 60, .inl (u12.1 0))), (d, .inr (4, [.ref ds, .int dsz, .ref dk, .ref dw, .int dac, .int dwr])), (dk, .inl (cI, 60, .inl dfk)), (dw, .inl (cI, 60, .inl dfw)), (k, .inr (0, [.ref ks, .ref kw, .ref kc, .int kwd, .int kbg, .int kme, .ref kq, .ref km, .ref kd, .int ksi, .ref ka, .ref kk])), (ks, .inl (cI, 5, .inl kfs)), (kc, .inl (cZ, 14, .inl kfc)), (kd, .inl (cI, 6, .inl kfd))] := hD
        refine lv_aload_n hx hb dX1_run_123 rfl (lv_at hl 2 rfl) ?_
        refine lv_iload_n hx hb dX1_run_124 rfl (lv_at hl 0 rfl) ?_
        refine va_put (D := (dC, dI)) (ci := 1) (v := .int r13) (ty := .int) (C := RX1) (T := TX1) (N := 14) hx hb hts hin1 tyX1 tyX1_ok nmX1 hown hK hP hD hS 6 rfl rfl 7 (by decide) hw1 (fun _ h9 => h9) rfl (by decide +kernel) rfl rfl (Nat.le_of_ble_eq_true rfl) dX1_run_125 (fun H locs hP hD hS => ?_)
        replace hP : va_P (dC, dI) vwCl [(jl, .inl (cI, 61, .inl yfl)), (jd, .inl (cI, 60, .inl (u12.1 1))), (jw, .inl (cI, 60, .inl (u12.1 2))), (kw, .inl (cI, 14, .inl kfw)), (kq, .inl (cI, 6, .inl kfq)), (km, .inl (cI, 6, .inl kfm)), (j, .inr (1, [.ref k, .ref d, .ref jd, .ref jb, .ref jw, .ref jl, .int y2, .int r13, .int yleft, .int yday, .int ywarmDay, .int ybagDays, .int yburnt, .int yboiled])), (jb, .inl (cI, 60, .inl (u12.1 0))), (d, .inr (4, [.ref ds, .int dsz, .ref dk, .ref dw, .int dac, .int dwr])), (dk, .inl (cI, 60, .inl dfk)), (dw, .inl (cI, 60, .inl dfw)), (k, .inr (0, [.ref ks, .ref kw, .ref kc, .int kwd, .int kbg, .int kme, .ref kq, .ref km, .ref kd, .int ksi, .ref ka, .ref kk])), (ks, .inl (cI, 5, .inl kfs)), (kc, .inl (cZ, 14, .inl kfc)), (kd, .inl (cI, 6, .inl kfd))] H := hP
        replace hD : va_D A [(jl, .inl (cI, 61, .inl yfl)), (jd, .inl (cI, 60, .inl (u12.1 1))), (jw, .inl (cI, 60, .inl (u12.1 2))), (kw, .inl (cI, 14, .inl kfw)), (kq, .inl (cI, 6, .inl kfq)), (km, .inl (cI, 6, .inl kfm)), (j, .inr (1, [.ref k, .ref d, .ref jd, .ref jb, .ref jw, .ref jl, .int y2, .int r13, .int yleft, .int yday, .int ywarmDay, .int ybagDays, .int yburnt, .int yboiled])), (jb, .inl (cI, 60, .inl (u12.1 0))), (d, .inr (4, [.ref ds, .int dsz, .ref dk, .ref dw, .int dac, .int dwr])), (dk, .inl (cI, 60, .inl dfk)), (dw, .inl (cI, 60, .inl dfw)), (k, .inr (0, [.ref ks, .ref kw, .ref kc, .int kwd, .int kbg, .int kme, .ref kq, .ref km, .ref kd, .int ksi, .ref ka, .ref kk])), (ks, .inl (cI, 5, .inl kfs)), (kc, .inl (cZ, 14, .inl kfc)), (kd, .inl (cI, 6, .inl kfd))] := hD
        refine lv_goto (tgt := 136) hx hb dX1_run_128 (by decide) ?_
        obtain ⟨x17, e17⟩ : ∃ y : Int32, y = y2 + Int32.ofInt 1 := ⟨_, rfl⟩
        refine lv_iinc (v := x17) (lv' := [(2, .int x17), (3, .int r13), (0, .ref j), (1, .int i0)]) hx hb dX1_run_136 hl (k := 1) rfl e17.symm (by decide) rfl (fun ls hl => ?_)
        have f17 : x17.toInt = y2.toInt + 1 := by rw [e17]; exact tinc (by decide) (by have t8 := tb y2; omega) (by have t8 := tb y2; omega)
        refine lv_goto (tgt := 82) hx hb dX1_run_139 (by decide) ?_
        exact ih (H := H) (locs := locs) (ls := ls) (y2 := x17) (yfd := (u12.1 1)) (yfb := (u12.1 0)) (yfw := (u12.1 2)) (yfl := yfl) (ybad := y2) (ywhy := r13) (yleft := yleft) (yday := yday) (ywarmDay := ywarmDay) (ybagDays := ybagDays) (yburnt := yburnt) (yboiled := yboiled) hS (by omega) hu12_0 (show lv_has ls 4 [(2, .int x17), (0, .ref j), (1, .int i0)] from lv_sub hl [0, 2, 3] rfl) (mx_subP (wc := [(j, .inr (1, [.ref k, .ref d, .ref jd, .ref jb, .ref jw, .ref jl, .int y2, .int r13, .int yleft, .int yday, .int ywarmDay, .int ybagDays, .int yburnt, .int yboiled])), (jd, .inl (cI, 60, .inl (u12.1 1))), (jb, .inl (cI, 60, .inl (u12.1 0))), (jw, .inl (cI, 60, .inl (u12.1 2))), (jl, .inl (cI, 61, .inl yfl)), (d, .inr (4, [.ref ds, .int dsz, .ref dk, .ref dw, .int dac, .int dwr])), (dk, .inl (cI, 60, .inl dfk)), (dw, .inl (cI, 60, .inl dfw)), (k, .inr (0, [.ref ks, .ref kw, .ref kc, .int kwd, .int kbg, .int kme, .ref kq, .ref km, .ref kd, .int ksi, .ref ka, .ref kk])), (ks, .inl (cI, 5, .inl kfs)), (kw, .inl (cI, 14, .inl kfw)), (kc, .inl (cZ, 14, .inl kfc)), (kq, .inl (cI, 6, .inl kfq)), (km, .inl (cI, 6, .inl kfm)), (kd, .inl (cI, 6, .inl kfd))]) hP [6, 1, 7, 2, 0, 8, 9, 10, 11, 12, 3, 13, 4, 5, 14] rfl) (hD.sub (ws' := [(j, .inr (1, [.ref k, .ref d, .ref jd, .ref jb, .ref jw, .ref jl, .int y2, .int r13, .int yleft, .int yday, .int ywarmDay, .int ybagDays, .int yburnt, .int yboiled])), (jd, .inl (cI, 60, .inl (u12.1 1))), (jb, .inl (cI, 60, .inl (u12.1 0))), (jw, .inl (cI, 60, .inl (u12.1 2))), (jl, .inl (cI, 61, .inl yfl)), (d, .inr (4, [.ref ds, .int dsz, .ref dk, .ref dw, .int dac, .int dwr])), (dk, .inl (cI, 60, .inl dfk)), (dw, .inl (cI, 60, .inl dfw)), (k, .inr (0, [.ref ks, .ref kw, .ref kc, .int kwd, .int kbg, .int kme, .ref kq, .ref km, .ref kd, .int ksi, .ref ka, .ref kk])), (ks, .inl (cI, 5, .inl kfs)), (kw, .inl (cI, 14, .inl kfw)), (kc, .inl (cZ, 14, .inl kfc)), (kq, .inl (cI, 6, .inl kfq)), (km, .inl (cI, 6, .inl kfm)), (kd, .inl (cI, 6, .inl kfd))]) [6, 1, 7, 2, 0, 8, 9, 10, 11, 12, 3, 13, 4, 5, 14] (by decide) rfl) (by omega)
set_option maxHeartbeats 4000000 in
set_option maxRecDepth 100000 in
theorem c_X1_burntOn (l : Launch) (dC : Nat → ClassId) (dI : Nat → Nat → Nat) (cI cZ cK : ClassId) (tS : Nat) (aK aV : Nat → Nat) (j : Nat) (i0 : Int32) (k : Nat) (d : Nat) (jd : Nat) (jb : Nat) (jw : Nat) (jl : Nat) (jbad : Int32) (jwhy : Int32) (jleft : Int32) (jday : Int32) (jwarmDay : Int32) (jbagDays : Int32) (jburnt : Int32) (jboiled : Int32) (jfd : Nat → Int32) (jfb : Nat → Int32) (ds : Nat) (dsz : Int32) (dk : Nat) (dw : Nat) (dac : Int32) (dwr : Int32) (sz : Nat) (h_jfd : rg jfd 60 0 13) (h_dac : 0 ≤ dac.toInt ∧ dac.toInt ≤ 60) : Ci l yX1_burntOn (wq yX1_burntOn cX1_burntOn 4 (some .int)) ({ frames := 0, cells := 0, slots := 0, locals := 0 }) dC dI cI cZ cK tS aK aV [.ref j, .int i0] sz [(j, .inr (1, [.ref k, .ref d, .ref jd, .ref jb, .ref jw, .ref jl, .int jbad, .int jwhy, .int jleft, .int jday, .int jwarmDay, .int jbagDays, .int jburnt, .int jboiled])), (jd, .inl (cI, 60, .inl jfd)), (jb, .inl (cI, 60, .inl jfb)), (d, .inr (4, [.ref ds, .int dsz, .ref dk, .ref dw, .int dac, .int dwr]))] (fun (r : Int32) (u : Unit) => True) (fun _ => [(j, .inr (1, [.ref k, .ref d, .ref jd, .ref jb, .ref jw, .ref jl, .int jbad, .int jwhy, .int jleft, .int jday, .int jwarmDay, .int jbagDays, .int jburnt, .int jboiled])), (jd, .inl (cI, 60, .inl jfd)), (jb, .inl (cI, 60, .inl jfb)), (d, .inr (4, [.ref ds, .int dsz, .ref dk, .ref dw, .int dac, .int dwr]))]) := by
  refine Met.ofW (cc := cX1_burntOn) (maxL := 4) (ret := (some .int)) (by decide) rfl ?_
  intro p e s m args below meth c s₁ B hml hv
  obtain ⟨rfl, hsz, hP, hKx, hD0⟩ := hv
  have hx := B.exec
  have hb := B.bytes
  have hr := B.returns
  have hts := atoms_spec (ws := wq yX1_burntOn cX1_burntOn 4 (some .int)) B.pre
  have hown : s.vm.findClass RX1 = some m.cls := findClass_of_methodNamed B.named
  have hlocks := B.notSynchronized
  subst hsz
  have hD := hD0.self (sz := s.heap.size)
  generalize hAe : va_A [(j, .inr (1, [.ref k, .ref d, .ref jd, .ref jb, .ref jw, .ref jl, .int jbad, .int jwhy, .int jleft, .int jday, .int jwarmDay, .int jbagDays, .int jburnt, .int jboiled])), (jd, .inl (cI, 60, .inl jfd)), (jb, .inl (cI, 60, .inl jfb)), (d, .inr (4, [.ref ds, .int dsz, .ref dk, .ref dw, .int dac, .int dwr]))] s.heap.size = A at hD hKx ⊢
  have hA : ∀ q : Nat, s.heap.size ≤ q → A q := fun q h => by rw [← hAe]; exact Or.inr h
  have hS : va_S A s.heap s.heap [] := va_S.rf
  have hP : va_P (dC, dI) vwCl [(j, .inr (1, [.ref k, .ref d, .ref jd, .ref jb, .ref jw, .ref jl, .int jbad, .int jwhy, .int jleft, .int jday, .int jwarmDay, .int jbagDays, .int jburnt, .int jboiled])), (jd, .inl (cI, 60, .inl jfd)), (jb, .inl (cI, 60, .inl jfb)), (d, .inr (4, [.ref ds, .int dsz, .ref dk, .ref dw, .int dac, .int dwr]))] s.heap := hP
  have hl := lv_entry ([.ref j, .int i0]) (n := 4) (Nat.le_of_ble_eq_true rfl)
  rw [lg_entry_eq]
  generalize (lg_sl ([.ref j, .int i0]) ++ List.replicate (4 - (lg_sl ([.ref j, .int i0])).length) Slot.unset).toArray = ls at hl ⊢
  have hl : lv_has ls 4 [(0, .ref j), (1, .int i0)] := hl
  have hK := hKx.1
  have hin1 := fun w9 h9 => List.mem_cons_of_mem (Cond.code yX1_burntOn cX1_burntOn 4 (some .int)) (inlX1 w9 h9)
  have hin4 := fun w9 h9 => List.mem_cons_of_mem (Cond.code yX1_burntOn cX1_burntOn 4 (some .int)) (inlX4 w9 h9)
  have hw0 := hts (.fieldLink RX1 28 "OneCan$Course" "pad" "LOneCan$Pad;") (List.mem_cons_of_mem _ wm_73)
  have hw1 := hts (.fieldLink RX1 64 "OneCan$Pad" "acts" "I") (List.mem_cons_of_mem _ wm_371)
  have hw2 := hts (.fieldLink RX1 9 "OneCan$Course" "days" "[I") (List.mem_cons_of_mem _ wm_68)
  have hw3 := hts (.fieldLink RX1 15 "OneCan$Course" "burns" "[I") (List.mem_cons_of_mem _ wm_69)
  refine lv_iconst (v := 0) hx hb dX1_burntOn_0 (by decide) ?_
  refine lv_istore_n (lv' := [(2, .int 0), (0, .ref j), (1, .int i0)]) hx hb dX1_burntOn_1 rfl hl (by decide) rfl (fun ls hl => ?_)
  refine lv_iconst (v := 0) hx hb dX1_burntOn_2 (by decide) ?_
  refine lv_istore_n (lv' := [(3, .int 0), (2, .int 0), (0, .ref j), (1, .int i0)]) hx hb dX1_burntOn_3 rfl hl (by decide) rfl (fun ls hl => ?_)
  have z2 : (0 : Int32).toInt = 0 := rfl
  have z3 : (0 : Int32).toInt = 0 := rfl
  have hl0 := hl
  clear hl
  obtain ⟨y2, y3, ex, hl⟩ : ∃ (y2 y3 : Int32), (0 ≤ y3.toInt ∧ y3.toInt ≤ dac.toInt) ∧ lv_has ls 4 [(3, .int y3), (2, .int y2), (0, .ref j), (1, .int i0)] := ⟨0, 0, by omega, hl0⟩
  clear hl0
  obtain ⟨n1, hn⟩ : ∃ n : Nat, (n : Int) = dac.toInt - y3.toInt := ⟨(dac.toInt - y3.toInt).toNat, by omega⟩
  induction n1 generalizing y2 y3 ls with
  | zero =>
    skip
    refine lv_iload_n hx hb dX1_burntOn_4 rfl (lv_at hl 0 rfl) ?_
    refine lv_aload_n hx hb dX1_burntOn_5 rfl (lv_at hl 2 rfl) ?_
    refine va_get (D := (dC, dI)) (ci := 1) (v := .ref d) (C := RX1) (T := TX1) (N := 14) hx hb hts hin1 hown hK hP 0 rfl rfl 1 (by decide) hw0 (fun _ h9 => h9) rfl dX1_burntOn_6 ?_
    refine va_get (D := (dC, dI)) (ci := 4) (v := .int dac) (C := RX4) (T := TX4) (N := 6) hx hb hts hin4 hown hK hP 3 rfl rfl 4 (by decide) hw1 (fun _ h9 => h9) rfl dX1_burntOn_9 ?_
    refine lv_icmp_ge (tgt := 40) hx hb dX1_burntOn_12 (by decide) (fun c4 => ?_) (fun c4 => by exfalso; have t4 : y3.toInt < dac.toInt := (tnle c4); omega)
    refine lv_iload_n hx hb dX1_burntOn_40 rfl (lv_at hl 1 rfl) ?_
    have hP9 := mx_subP (wc := [(j, .inr (1, [.ref k, .ref d, .ref jd, .ref jb, .ref jw, .ref jl, .int jbad, .int jwhy, .int jleft, .int jday, .int jwarmDay, .int jbagDays, .int jburnt, .int jboiled])), (jd, .inl (cI, 60, .inl jfd)), (jb, .inl (cI, 60, .inl jfb)), (d, .inr (4, [.ref ds, .int dsz, .ref dk, .ref dw, .int dac, .int dwr]))]) hP [0, 1, 2, 3] rfl
    have hD9 := hD.sub (ws' := [(j, .inr (1, [.ref k, .ref d, .ref jd, .ref jb, .ref jw, .ref jl, .int jbad, .int jwhy, .int jleft, .int jday, .int jwarmDay, .int jbagDays, .int jburnt, .int jboiled])), (jd, .inl (cI, 60, .inl jfd)), (jb, .inl (cI, 60, .inl jfb)), (d, .inr (4, [.ref ds, .int dsz, .ref dk, .ref dw, .int dac, .int dwr]))]) [0, 1, 2, 3] (by decide) rfl
    exact W.iret (v := y2) hx hb hr (fun t ht hW => ⟨⟨y2, (), rfl, trivial, by rw [ht]; exact hP9, hD9⟩, hS.F ht⟩) hS.2.2 dX1_burntOn_41
  | succ n1 ih =>
    skip
    refine lv_iload_n hx hb dX1_burntOn_4 rfl (lv_at hl 0 rfl) ?_
    refine lv_aload_n hx hb dX1_burntOn_5 rfl (lv_at hl 2 rfl) ?_
    refine va_get (D := (dC, dI)) (ci := 1) (v := .ref d) (C := RX1) (T := TX1) (N := 14) hx hb hts hin1 hown hK hP 0 rfl rfl 1 (by decide) hw0 (fun _ h9 => h9) rfl dX1_burntOn_6 ?_
    refine va_get (D := (dC, dI)) (ci := 4) (v := .int dac) (C := RX4) (T := TX4) (N := 6) hx hb hts hin4 hown hK hP 3 rfl rfl 4 (by decide) hw1 (fun _ h9 => h9) rfl dX1_burntOn_9 ?_
    refine lv_icmp_ge (tgt := 40) hx hb dX1_burntOn_12 (by decide) (fun c5 => by exfalso; have t5 : dac.toInt ≤ y3.toInt := (tle c5); omega) (fun c5 => ?_)
    refine lv_aload_n hx hb dX1_burntOn_15 rfl (lv_at hl 2 rfl) ?_
    refine va_get (D := (dC, dI)) (ci := 1) (v := .ref jd) (C := RX1) (T := TX1) (N := 14) hx hb hts hin1 hown hK hP 0 rfl rfl 2 (by decide) hw2 (fun _ h9 => h9) rfl dX1_burntOn_16 ?_
    refine lv_iload_n hx hb dX1_burntOn_19 rfl (lv_at hl 0 rfl) ?_
    refine va_iald hx hb hK hP 1 0 rfl rfl (vin (by omega) (by omega)) dX1_burntOn_20 ?_
    refine lv_topi (fun x6 e6 => ?_)
    have g6 : 0 ≤ x6.toInt ∧ x6.toInt ≤ 13 := by rw [e6]; exact rgI h_jfd (by omega) (by omega)
    refine lv_iload_n hx hb dX1_burntOn_21 rfl (lv_at hl 3 rfl) ?_
    refine lv_icmp_ne (tgt := 34) hx hb dX1_burntOn_22 (by decide) (fun c7 => ?_) (fun c7 => ?_)
    · have t7 : x6.toInt ≠ i0.toInt := (tne c7)
      obtain ⟨x8, e8⟩ : ∃ y : Int32, y = y3 + Int32.ofInt 1 := ⟨_, rfl⟩
      refine lv_iinc (v := x8) (lv' := [(3, .int x8), (2, .int y2), (0, .ref j), (1, .int i0)]) hx hb dX1_burntOn_34 hl (k := 0) rfl e8.symm (by decide) rfl (fun ls hl => ?_)
      have f8 : x8.toInt = y3.toInt + 1 := by rw [e8]; exact tinc (by decide) (by have t8 := tb y3; omega) (by have t8 := tb y3; omega)
      refine lv_goto (tgt := 4) hx hb dX1_burntOn_37 (by decide) ?_
      exact ih (ls := ls) (y2 := y2) (y3 := x8) (by omega) (show lv_has ls 4 [(3, .int x8), (2, .int y2), (0, .ref j), (1, .int i0)] from lv_sub hl [0, 1, 2, 3] rfl) (by omega)
    · have t7 : x6.toInt = i0.toInt := (teq c7)
      refine lv_iload_n hx hb dX1_burntOn_25 rfl (lv_at hl 1 rfl) ?_
      refine lv_aload_n hx hb dX1_burntOn_26 rfl (lv_at hl 2 rfl) ?_
      refine va_get (D := (dC, dI)) (ci := 1) (v := .ref jb) (C := RX1) (T := TX1) (N := 14) hx hb hts hin1 hown hK hP 0 rfl rfl 3 (by decide) hw3 (fun _ h9 => h9) rfl dX1_burntOn_27 ?_
      refine lv_iload_n hx hb dX1_burntOn_30 rfl (lv_at hl 0 rfl) ?_
      refine va_iald hx hb hK hP 2 0 rfl rfl (vin (by omega) (by omega)) dX1_burntOn_31 ?_
      refine lv_topi (fun x9 e9 => ?_)
      refine lv_iadd hx hb dX1_burntOn_32 ?_
      refine lv_topi (fun x10 e10 => ?_)
      refine lv_istore_n (lv' := [(2, .int x10), (3, .int y3), (0, .ref j), (1, .int i0)]) hx hb dX1_burntOn_33 rfl hl (by decide) rfl (fun ls hl => ?_)
      obtain ⟨x11, e11⟩ : ∃ y : Int32, y = y3 + Int32.ofInt 1 := ⟨_, rfl⟩
      refine lv_iinc (v := x11) (lv' := [(3, .int x11), (2, .int x10), (0, .ref j), (1, .int i0)]) hx hb dX1_burntOn_34 hl (k := 1) rfl e11.symm (by decide) rfl (fun ls hl => ?_)
      have f11 : x11.toInt = y3.toInt + 1 := by rw [e11]; exact tinc (by decide) (by have t8 := tb y3; omega) (by have t8 := tb y3; omega)
      refine lv_goto (tgt := 4) hx hb dX1_burntOn_37 (by decide) ?_
      exact ih (ls := ls) (y2 := x10) (y3 := x11) (by omega) (show lv_has ls 4 [(3, .int x11), (2, .int x10), (0, .ref j), (1, .int i0)] from lv_sub hl [0, 1, 2, 3] rfl) (by omega)
set_option maxHeartbeats 4000000 in
set_option maxRecDepth 100000 in
theorem c_J0_coder_7d493_0 (l : Launch) (dC : Nat → ClassId) (dI : Nat → Nat → Nat) (cI cZ cK : ClassId) (tS : Nat) (aK aV : Nat → Nat) (sz : Nat) : Ci l yJ0_coder_7d493 (wq yJ0_coder_7d493 cJ0_coder_7d493 1 (some .byte)) ({ frames := 0, cells := 0, slots := 0, locals := 0 }) dC dI cI cZ cK tS aK aV [.ref (aK 0)] sz [] (fun (r : Int32) (u : Unit) => r = 0) (fun _ => []) := by
  refine Met.ofW (cc := cJ0_coder_7d493) (maxL := 1) (ret := (some .byte)) (by decide) rfl ?_
  intro p e s m args below meth c s₁ B hml hv
  obtain ⟨rfl, hsz, hP, hKx, hD0⟩ := hv
  have hx := B.exec
  have hb := B.bytes
  have hr := B.returns
  have hts := atoms_spec (ws := wq yJ0_coder_7d493 cJ0_coder_7d493 1 (some .byte)) B.pre
  have hown : s.vm.findClass RJ0 = some m.cls := findClass_of_methodNamed B.named
  have hlocks := B.notSynchronized
  subst hsz
  have hD := hD0.self (sz := s.heap.size)
  generalize hAe : va_A [] s.heap.size = A at hD hKx ⊢
  have hA : ∀ q : Nat, s.heap.size ≤ q → A q := fun q h => by rw [← hAe]; exact Or.inr h
  have hS : va_S A s.heap s.heap [] := va_S.rf
  have hP : va_P (dC, dI) vwCl [] s.heap := hP
  have hl := lv_entry ([.ref (aK 0)]) (n := 1) (Nat.le_of_ble_eq_true rfl)
  rw [lg_entry_eq]
  generalize (lg_sl ([.ref (aK 0)]) ++ List.replicate (1 - (lg_sl ([.ref (aK 0)])).length) Slot.unset).toArray = ls at hl ⊢
  have hl : lv_has ls 1 [(0, .ref (aK 0))] := hl
  have hK := hKx.1
  have hw0 := hts (.fieldLink RJ0 38 "java/lang/String" "COMPACT_STRINGS" "Z") (List.mem_cons_of_mem _ wm_251)
  have hw1 := hts (.fieldLink RJ0 15 "java/lang/String" "coder" "B") (List.mem_cons_of_mem _ wm_252)
  refine va_gets (v := .int 1) hx hb hKx.2.2.2.2.2.2.2.2.2.1 hS hown hw0 (fun _ h9 => h9) dJ0_coder_7d493_0 ?_
  refine lv_if_eq (tgt := 13) hx hb dJ0_coder_7d493_3 (by decide) (fun c1 => absurd c1 (by decide)) (fun c1 => ?_)
  refine lv_aload_n hx hb dJ0_coder_7d493_6 rfl (lv_at hl 0 rfl) ?_
  refine vk_getf (v := .int 0) hx hb (hKx.2.2.2.2.2.2.2.2.2.2.1 0 (by decide)).2.1 hS hown hw1 (fun _ h9 => h9) dJ0_coder_7d493_7 ?_
  refine lv_goto (tgt := 14) hx hb dJ0_coder_7d493_10 (by decide) ?_
  have hP9 := mx_subP (wc := []) hP [] rfl
  have hD9 := hD.sub (ws' := []) [] (by decide) rfl
  exact W.zret (v := 0) hx hb hr rfl (fun t ht hW => ⟨⟨0, (), rfl, rfl, by rw [ht]; exact hP9, hD9⟩, hS.F ht⟩) hS.2.2 dJ0_coder_7d493_14
set_option maxHeartbeats 4000000 in
set_option maxRecDepth 100000 in
theorem c_J0_length_8abf5_0 (l : Launch) (dC : Nat → ClassId) (dI : Nat → Nat → Nat) (cI cZ cK : ClassId) (tS : Nat) (aK aV : Nat → Nat) (sz : Nat) : Ci l yJ0_length_8abf5 (wq yJ0_length_8abf5 cJ0_length_8abf5 1 (some .int)) ({ frames := 1, cells := 0, slots := 0, locals := 20 }) dC dI cI cZ cK tS aK aV [.ref (aK 0)] sz [] (fun (r : Int32) (u : Unit) => r = 4) (fun _ => []) := by
  refine Met.ofW (cc := cJ0_length_8abf5) (maxL := 1) (ret := (some .int)) (by decide) rfl ?_
  intro p e s m args below meth c s₁ B hml hv
  obtain ⟨rfl, hsz, hP, hKx, hD0⟩ := hv
  have hx := B.exec
  have hb := B.bytes
  have hr := B.returns
  have hts := atoms_spec (ws := wq yJ0_length_8abf5 cJ0_length_8abf5 1 (some .int)) B.pre
  have hown : s.vm.findClass RJ0 = some m.cls := findClass_of_methodNamed B.named
  have hlocks := B.notSynchronized
  subst hsz
  have hD := hD0.self (sz := s.heap.size)
  generalize hAe : va_A [] s.heap.size = A at hD hKx ⊢
  have hA : ∀ q : Nat, s.heap.size ≤ q → A q := fun q h => by rw [← hAe]; exact Or.inr h
  have hS : va_S A s.heap s.heap [] := va_S.rf
  have hP : va_P (dC, dI) vwCl [] s.heap := hP
  have hl := lv_entry ([.ref (aK 0)]) (n := 1) (Nat.le_of_ble_eq_true rfl)
  rw [lg_entry_eq]
  generalize (lg_sl ([.ref (aK 0)]) ++ List.replicate (1 - (lg_sl ([.ref (aK 0)])).length) Slot.unset).toArray = ls at hl ⊢
  have hl : lv_has ls 1 [(0, .ref (aK 0))] := hl
  have hK := hKx.1
  have hw0 := hts (.fieldLink RJ0 9 "java/lang/String" "value" "[B") (List.mem_cons_of_mem _ wm_246)
  refine lv_aload_n hx hb dJ0_length_8abf5_0 rfl (lv_at hl 0 rfl) ?_
  refine vk_getf (v := .ref (aV 0)) hx hb (hKx.2.2.2.2.2.2.2.2.2.2.1 0 (by decide)).2.2.1 hS hown hw0 (fun _ h9 => h9) dJ0_length_8abf5_1 ?_
  refine va_tlen (v := 4) hx hb (hKx.2.2.2.2.2.2.2.2.2.2.1 0 (by decide)).2.2.2 hS (by decide) dJ0_length_8abf5_4 ?_
  refine lv_aload_n hx hb dJ0_length_8abf5_5 rfl (lv_at hl 0 rfl) ?_
  refine mx_i (wr := []) (va_runV (As := []) (rest := [.int 4]) ⟨hx, hb, hml, hown, hts⟩ (c_J0_coder_7d493_0 l dC dI cI cZ cK tS aK aV  s.heap.size) (cwV 0 hts (gw_v (fun _ h9 => List.mem_cons_of_mem _ h9) wm_247 wm_248 wm_249 wm_244 wm_250) rfl rfl rfl (by decide +kernel) ⟨Nat.le_of_ble_eq_true rfl, Nat.le_of_ble_eq_true rfl⟩) (mx_preK 0 (by decide) hKx hP hD hS hA) rfl rfl hl.1 rfl (lv_room (Nat.le_of_ble_eq_true rfl)) dJ0_length_8abf5_6 ⟨Nat.le_of_ble_eq_true rfl, Nat.le_of_ble_eq_true rfl⟩) hP hD hS hA [] [] rfl rfl (by decide) (by decide) (fun r1 u1 H locs hq1 hP hD hS => ?_)
  replace hP : va_P (dC, dI) vwCl [] H := hP
  replace hD : va_D A [] := hD
  obtain rfl : 0 = r1 := hq1.symm
  refine lv_ishr hx hb dJ0_length_8abf5_9 ?_
  refine lv_topi (fun x2 e2 => ?_)
  obtain rfl : x2 = 4 := e2.trans (by decide)
  have hP9 := mx_subP (wc := []) hP [] rfl
  have hD9 := hD.sub (ws' := []) [] (by decide) rfl
  exact W.iret (v := 4) hx hb hr (fun t ht hW => ⟨⟨4, (), rfl, rfl, by rw [ht]; exact hP9, hD9⟩, hS.F ht⟩) hS.2.2 dJ0_length_8abf5_10
set_option maxHeartbeats 4000000 in
set_option maxRecDepth 100000 in
theorem c_J0_isLatin1_aae02_0 (l : Launch) (dC : Nat → ClassId) (dI : Nat → Nat → Nat) (cI cZ cK : ClassId) (tS : Nat) (aK aV : Nat → Nat) (sz : Nat) : Ci l yJ0_isLatin1_aae02 (wq yJ0_isLatin1_aae02 cJ0_isLatin1_aae02 1 (some .boolean)) ({ frames := 0, cells := 0, slots := 0, locals := 0 }) dC dI cI cZ cK tS aK aV [.ref (aK 0)] sz [] (fun (r : Int32) (u : Unit) => r = 1) (fun _ => []) := by
  refine Met.ofW (cc := cJ0_isLatin1_aae02) (maxL := 1) (ret := (some .boolean)) (by decide) rfl ?_
  intro p e s m args below meth c s₁ B hml hv
  obtain ⟨rfl, hsz, hP, hKx, hD0⟩ := hv
  have hx := B.exec
  have hb := B.bytes
  have hr := B.returns
  have hts := atoms_spec (ws := wq yJ0_isLatin1_aae02 cJ0_isLatin1_aae02 1 (some .boolean)) B.pre
  have hown : s.vm.findClass RJ0 = some m.cls := findClass_of_methodNamed B.named
  have hlocks := B.notSynchronized
  subst hsz
  have hD := hD0.self (sz := s.heap.size)
  generalize hAe : va_A [] s.heap.size = A at hD hKx ⊢
  have hA : ∀ q : Nat, s.heap.size ≤ q → A q := fun q h => by rw [← hAe]; exact Or.inr h
  have hS : va_S A s.heap s.heap [] := va_S.rf
  have hP : va_P (dC, dI) vwCl [] s.heap := hP
  have hl := lv_entry ([.ref (aK 0)]) (n := 1) (Nat.le_of_ble_eq_true rfl)
  rw [lg_entry_eq]
  generalize (lg_sl ([.ref (aK 0)]) ++ List.replicate (1 - (lg_sl ([.ref (aK 0)])).length) Slot.unset).toArray = ls at hl ⊢
  have hl : lv_has ls 1 [(0, .ref (aK 0))] := hl
  have hK := hKx.1
  have hw0 := hts (.fieldLink RJ0 38 "java/lang/String" "COMPACT_STRINGS" "Z") (List.mem_cons_of_mem _ wm_251)
  have hw1 := hts (.fieldLink RJ0 15 "java/lang/String" "coder" "B") (List.mem_cons_of_mem _ wm_252)
  refine va_gets (v := .int 1) hx hb hKx.2.2.2.2.2.2.2.2.2.1 hS hown hw0 (fun _ h9 => h9) dJ0_isLatin1_aae02_0 ?_
  refine lv_if_eq (tgt := 17) hx hb dJ0_isLatin1_aae02_3 (by decide) (fun c1 => absurd c1 (by decide)) (fun c1 => ?_)
  refine lv_aload_n hx hb dJ0_isLatin1_aae02_6 rfl (lv_at hl 0 rfl) ?_
  refine vk_getf (v := .int 0) hx hb (hKx.2.2.2.2.2.2.2.2.2.2.1 0 (by decide)).2.1 hS hown hw1 (fun _ h9 => h9) dJ0_isLatin1_aae02_7 ?_
  refine lv_if_ne (tgt := 17) hx hb dJ0_isLatin1_aae02_10 (by decide) (fun c2 => absurd c2 (by decide)) (fun c2 => ?_)
  refine lv_iconst (v := 1) hx hb dJ0_isLatin1_aae02_13 (by decide) ?_
  refine lv_goto (tgt := 18) hx hb dJ0_isLatin1_aae02_14 (by decide) ?_
  have hP9 := mx_subP (wc := []) hP [] rfl
  have hD9 := hD.sub (ws' := []) [] (by decide) rfl
  exact W.zret (v := 1) hx hb hr rfl (fun t ht hW => ⟨⟨1, (), rfl, rfl, by rw [ht]; exact hP9, hD9⟩, hS.F ht⟩) hS.2.2 dJ0_isLatin1_aae02_18
set_option maxHeartbeats 4000000 in
set_option maxRecDepth 100000 in
theorem c_J0_coder_7d493_1 (l : Launch) (dC : Nat → ClassId) (dI : Nat → Nat → Nat) (cI cZ cK : ClassId) (tS : Nat) (aK aV : Nat → Nat) (sz : Nat) : Ci l yJ0_coder_7d493 (wq yJ0_coder_7d493 cJ0_coder_7d493 1 (some .byte)) ({ frames := 0, cells := 0, slots := 0, locals := 0 }) dC dI cI cZ cK tS aK aV [.ref (aK 1)] sz [] (fun (r : Int32) (u : Unit) => r = 0) (fun _ => []) := by
  refine Met.ofW (cc := cJ0_coder_7d493) (maxL := 1) (ret := (some .byte)) (by decide) rfl ?_
  intro p e s m args below meth c s₁ B hml hv
  obtain ⟨rfl, hsz, hP, hKx, hD0⟩ := hv
  have hx := B.exec
  have hb := B.bytes
  have hr := B.returns
  have hts := atoms_spec (ws := wq yJ0_coder_7d493 cJ0_coder_7d493 1 (some .byte)) B.pre
  have hown : s.vm.findClass RJ0 = some m.cls := findClass_of_methodNamed B.named
  have hlocks := B.notSynchronized
  subst hsz
  have hD := hD0.self (sz := s.heap.size)
  generalize hAe : va_A [] s.heap.size = A at hD hKx ⊢
  have hA : ∀ q : Nat, s.heap.size ≤ q → A q := fun q h => by rw [← hAe]; exact Or.inr h
  have hS : va_S A s.heap s.heap [] := va_S.rf
  have hP : va_P (dC, dI) vwCl [] s.heap := hP
  have hl := lv_entry ([.ref (aK 1)]) (n := 1) (Nat.le_of_ble_eq_true rfl)
  rw [lg_entry_eq]
  generalize (lg_sl ([.ref (aK 1)]) ++ List.replicate (1 - (lg_sl ([.ref (aK 1)])).length) Slot.unset).toArray = ls at hl ⊢
  have hl : lv_has ls 1 [(0, .ref (aK 1))] := hl
  have hK := hKx.1
  have hw0 := hts (.fieldLink RJ0 38 "java/lang/String" "COMPACT_STRINGS" "Z") (List.mem_cons_of_mem _ wm_251)
  have hw1 := hts (.fieldLink RJ0 15 "java/lang/String" "coder" "B") (List.mem_cons_of_mem _ wm_252)
  refine va_gets (v := .int 1) hx hb hKx.2.2.2.2.2.2.2.2.2.1 hS hown hw0 (fun _ h9 => h9) dJ0_coder_7d493_0 ?_
  refine lv_if_eq (tgt := 13) hx hb dJ0_coder_7d493_3 (by decide) (fun c1 => absurd c1 (by decide)) (fun c1 => ?_)
  refine lv_aload_n hx hb dJ0_coder_7d493_6 rfl (lv_at hl 0 rfl) ?_
  refine vk_getf (v := .int 0) hx hb (hKx.2.2.2.2.2.2.2.2.2.2.1 1 (by decide)).2.1 hS hown hw1 (fun _ h9 => h9) dJ0_coder_7d493_7 ?_
  refine lv_goto (tgt := 14) hx hb dJ0_coder_7d493_10 (by decide) ?_
  have hP9 := mx_subP (wc := []) hP [] rfl
  have hD9 := hD.sub (ws' := []) [] (by decide) rfl
  exact W.zret (v := 0) hx hb hr rfl (fun t ht hW => ⟨⟨0, (), rfl, rfl, by rw [ht]; exact hP9, hD9⟩, hS.F ht⟩) hS.2.2 dJ0_coder_7d493_14
set_option maxHeartbeats 4000000 in
set_option maxRecDepth 100000 in
theorem c_J0_length_8abf5_1 (l : Launch) (dC : Nat → ClassId) (dI : Nat → Nat → Nat) (cI cZ cK : ClassId) (tS : Nat) (aK aV : Nat → Nat) (sz : Nat) : Ci l yJ0_length_8abf5 (wq yJ0_length_8abf5 cJ0_length_8abf5 1 (some .int)) ({ frames := 1, cells := 0, slots := 0, locals := 20 }) dC dI cI cZ cK tS aK aV [.ref (aK 1)] sz [] (fun (r : Int32) (u : Unit) => r = 9) (fun _ => []) := by
  refine Met.ofW (cc := cJ0_length_8abf5) (maxL := 1) (ret := (some .int)) (by decide) rfl ?_
  intro p e s m args below meth c s₁ B hml hv
  obtain ⟨rfl, hsz, hP, hKx, hD0⟩ := hv
  have hx := B.exec
  have hb := B.bytes
  have hr := B.returns
  have hts := atoms_spec (ws := wq yJ0_length_8abf5 cJ0_length_8abf5 1 (some .int)) B.pre
  have hown : s.vm.findClass RJ0 = some m.cls := findClass_of_methodNamed B.named
  have hlocks := B.notSynchronized
  subst hsz
  have hD := hD0.self (sz := s.heap.size)
  generalize hAe : va_A [] s.heap.size = A at hD hKx ⊢
  have hA : ∀ q : Nat, s.heap.size ≤ q → A q := fun q h => by rw [← hAe]; exact Or.inr h
  have hS : va_S A s.heap s.heap [] := va_S.rf
  have hP : va_P (dC, dI) vwCl [] s.heap := hP
  have hl := lv_entry ([.ref (aK 1)]) (n := 1) (Nat.le_of_ble_eq_true rfl)
  rw [lg_entry_eq]
  generalize (lg_sl ([.ref (aK 1)]) ++ List.replicate (1 - (lg_sl ([.ref (aK 1)])).length) Slot.unset).toArray = ls at hl ⊢
  have hl : lv_has ls 1 [(0, .ref (aK 1))] := hl
  have hK := hKx.1
  have hw0 := hts (.fieldLink RJ0 9 "java/lang/String" "value" "[B") (List.mem_cons_of_mem _ wm_246)
  refine lv_aload_n hx hb dJ0_length_8abf5_0 rfl (lv_at hl 0 rfl) ?_
  refine vk_getf (v := .ref (aV 1)) hx hb (hKx.2.2.2.2.2.2.2.2.2.2.1 1 (by decide)).2.2.1 hS hown hw0 (fun _ h9 => h9) dJ0_length_8abf5_1 ?_
  refine va_tlen (v := 9) hx hb (hKx.2.2.2.2.2.2.2.2.2.2.1 1 (by decide)).2.2.2 hS (by decide) dJ0_length_8abf5_4 ?_
  refine lv_aload_n hx hb dJ0_length_8abf5_5 rfl (lv_at hl 0 rfl) ?_
  refine mx_i (wr := []) (va_runV (As := []) (rest := [.int 9]) ⟨hx, hb, hml, hown, hts⟩ (c_J0_coder_7d493_1 l dC dI cI cZ cK tS aK aV  s.heap.size) (cwV 0 hts (gw_v (fun _ h9 => List.mem_cons_of_mem _ h9) wm_247 wm_248 wm_249 wm_244 wm_250) rfl rfl rfl (by decide +kernel) ⟨Nat.le_of_ble_eq_true rfl, Nat.le_of_ble_eq_true rfl⟩) (mx_preK 1 (by decide) hKx hP hD hS hA) rfl rfl hl.1 rfl (lv_room (Nat.le_of_ble_eq_true rfl)) dJ0_length_8abf5_6 ⟨Nat.le_of_ble_eq_true rfl, Nat.le_of_ble_eq_true rfl⟩) hP hD hS hA [] [] rfl rfl (by decide) (by decide) (fun r1 u1 H locs hq1 hP hD hS => ?_)
  replace hP : va_P (dC, dI) vwCl [] H := hP
  replace hD : va_D A [] := hD
  obtain rfl : 0 = r1 := hq1.symm
  refine lv_ishr hx hb dJ0_length_8abf5_9 ?_
  refine lv_topi (fun x2 e2 => ?_)
  obtain rfl : x2 = 9 := e2.trans (by decide)
  have hP9 := mx_subP (wc := []) hP [] rfl
  have hD9 := hD.sub (ws' := []) [] (by decide) rfl
  exact W.iret (v := 9) hx hb hr (fun t ht hW => ⟨⟨9, (), rfl, rfl, by rw [ht]; exact hP9, hD9⟩, hS.F ht⟩) hS.2.2 dJ0_length_8abf5_10
set_option maxHeartbeats 4000000 in
set_option maxRecDepth 100000 in
theorem c_J0_isLatin1_aae02_1 (l : Launch) (dC : Nat → ClassId) (dI : Nat → Nat → Nat) (cI cZ cK : ClassId) (tS : Nat) (aK aV : Nat → Nat) (sz : Nat) : Ci l yJ0_isLatin1_aae02 (wq yJ0_isLatin1_aae02 cJ0_isLatin1_aae02 1 (some .boolean)) ({ frames := 0, cells := 0, slots := 0, locals := 0 }) dC dI cI cZ cK tS aK aV [.ref (aK 1)] sz [] (fun (r : Int32) (u : Unit) => r = 1) (fun _ => []) := by
  refine Met.ofW (cc := cJ0_isLatin1_aae02) (maxL := 1) (ret := (some .boolean)) (by decide) rfl ?_
  intro p e s m args below meth c s₁ B hml hv
  obtain ⟨rfl, hsz, hP, hKx, hD0⟩ := hv
  have hx := B.exec
  have hb := B.bytes
  have hr := B.returns
  have hts := atoms_spec (ws := wq yJ0_isLatin1_aae02 cJ0_isLatin1_aae02 1 (some .boolean)) B.pre
  have hown : s.vm.findClass RJ0 = some m.cls := findClass_of_methodNamed B.named
  have hlocks := B.notSynchronized
  subst hsz
  have hD := hD0.self (sz := s.heap.size)
  generalize hAe : va_A [] s.heap.size = A at hD hKx ⊢
  have hA : ∀ q : Nat, s.heap.size ≤ q → A q := fun q h => by rw [← hAe]; exact Or.inr h
  have hS : va_S A s.heap s.heap [] := va_S.rf
  have hP : va_P (dC, dI) vwCl [] s.heap := hP
  have hl := lv_entry ([.ref (aK 1)]) (n := 1) (Nat.le_of_ble_eq_true rfl)
  rw [lg_entry_eq]
  generalize (lg_sl ([.ref (aK 1)]) ++ List.replicate (1 - (lg_sl ([.ref (aK 1)])).length) Slot.unset).toArray = ls at hl ⊢
  have hl : lv_has ls 1 [(0, .ref (aK 1))] := hl
  have hK := hKx.1
  have hw0 := hts (.fieldLink RJ0 38 "java/lang/String" "COMPACT_STRINGS" "Z") (List.mem_cons_of_mem _ wm_251)
  have hw1 := hts (.fieldLink RJ0 15 "java/lang/String" "coder" "B") (List.mem_cons_of_mem _ wm_252)
  refine va_gets (v := .int 1) hx hb hKx.2.2.2.2.2.2.2.2.2.1 hS hown hw0 (fun _ h9 => h9) dJ0_isLatin1_aae02_0 ?_
  refine lv_if_eq (tgt := 17) hx hb dJ0_isLatin1_aae02_3 (by decide) (fun c1 => absurd c1 (by decide)) (fun c1 => ?_)
  refine lv_aload_n hx hb dJ0_isLatin1_aae02_6 rfl (lv_at hl 0 rfl) ?_
  refine vk_getf (v := .int 0) hx hb (hKx.2.2.2.2.2.2.2.2.2.2.1 1 (by decide)).2.1 hS hown hw1 (fun _ h9 => h9) dJ0_isLatin1_aae02_7 ?_
  refine lv_if_ne (tgt := 17) hx hb dJ0_isLatin1_aae02_10 (by decide) (fun c2 => absurd c2 (by decide)) (fun c2 => ?_)
  refine lv_iconst (v := 1) hx hb dJ0_isLatin1_aae02_13 (by decide) ?_
  refine lv_goto (tgt := 18) hx hb dJ0_isLatin1_aae02_14 (by decide) ?_
  have hP9 := mx_subP (wc := []) hP [] rfl
  have hD9 := hD.sub (ws' := []) [] (by decide) rfl
  exact W.zret (v := 1) hx hb hr rfl (fun t ht hW => ⟨⟨1, (), rfl, rfl, by rw [ht]; exact hP9, hD9⟩, hS.F ht⟩) hS.2.2 dJ0_isLatin1_aae02_18
set_option maxHeartbeats 4000000 in
set_option maxRecDepth 100000 in
theorem c_J1_canEncode_9a6ad (l : Launch) (dC : Nat → ClassId) (dI : Nat → Nat → Nat) (cI cZ cK : ClassId) (tS : Nat) (aK aV : Nat → Nat) (i0 : Int32) (sz : Nat) : Ci l yJ1_canEncode_9a6ad (wq yJ1_canEncode_9a6ad cJ1_canEncode_9a6ad 1 (some .boolean)) ({ frames := 0, cells := 0, slots := 0, locals := 0 }) dC dI cI cZ cK tS aK aV [.int i0] sz [] (fun (r : Int32) (u : Unit) => (r = 1 ∧ (0 ≤ i0.toInt ∧ i0.toInt ≤ 255)) ∨ (r = 0 ∧ (i0.toInt < 0 ∨ 255 < i0.toInt))) (fun _ => []) := by
  refine Met.ofW (cc := cJ1_canEncode_9a6ad) (maxL := 1) (ret := (some .boolean)) (by decide) rfl ?_
  intro p e s m args below meth c s₁ B hml hv
  obtain ⟨rfl, hsz, hP, hKx, hD0⟩ := hv
  have hx := B.exec
  have hb := B.bytes
  have hr := B.returns
  have hts := atoms_spec (ws := wq yJ1_canEncode_9a6ad cJ1_canEncode_9a6ad 1 (some .boolean)) B.pre
  have hown : s.vm.findClass RJ1 = some m.cls := findClass_of_methodNamed B.named
  have hlocks := B.notSynchronized
  subst hsz
  have hD := hD0.self (sz := s.heap.size)
  generalize hAe : va_A [] s.heap.size = A at hD hKx ⊢
  have hA : ∀ q : Nat, s.heap.size ≤ q → A q := fun q h => by rw [← hAe]; exact Or.inr h
  have hS : va_S A s.heap s.heap [] := va_S.rf
  have hP : va_P (dC, dI) vwCl [] s.heap := hP
  have hl := lv_entry ([.int i0]) (n := 1) (Nat.le_of_ble_eq_true rfl)
  rw [lg_entry_eq]
  generalize (lg_sl ([.int i0]) ++ List.replicate (1 - (lg_sl ([.int i0])).length) Slot.unset).toArray = ls at hl ⊢
  have hl : lv_has ls 1 [(0, .int i0)] := hl
  have hK := hKx.1
  refine lv_iload_n hx hb dJ1_canEncode_9a6ad_0 rfl (lv_at hl 0 rfl) ?_
  refine lv_if_lt (tgt := 15) hx hb dJ1_canEncode_9a6ad_1 (by decide) (fun c1 => ?_) (fun c1 => ?_)
  · have t1 : i0.toInt < (0 : Int) := (tlt c1)
    refine lv_iconst (v := 0) hx hb dJ1_canEncode_9a6ad_15 (by decide) ?_
    have hP9 := mx_subP (wc := []) hP [] rfl
    have hD9 := hD.sub (ws' := []) [] (by decide) rfl
    exact W.zret (v := 0) hx hb hr rfl (fun t ht hW => ⟨⟨0, (), rfl, (by first | exact Or.inl (⟨rfl, by omega⟩) | exact Or.inr (⟨rfl, by omega⟩)), by rw [ht]; exact hP9, hD9⟩, hS.F ht⟩) hS.2.2 dJ1_canEncode_9a6ad_16
  · have t1 : (0 : Int) ≤ i0.toInt := (tnlt c1)
    refine lv_iload_n hx hb dJ1_canEncode_9a6ad_4 rfl (lv_at hl 0 rfl) ?_
    refine lv_sipush (v := 255) hx hb dJ1_canEncode_9a6ad_5 (by decide) ?_
    refine lv_icmp_gt (tgt := 15) hx hb dJ1_canEncode_9a6ad_8 (by decide) (fun c2 => ?_) (fun c2 => ?_)
    · have t2 : (255 : Int) < i0.toInt := (tlt c2)
      refine lv_iconst (v := 0) hx hb dJ1_canEncode_9a6ad_15 (by decide) ?_
      have hP9 := mx_subP (wc := []) hP [] rfl
      have hD9 := hD.sub (ws' := []) [] (by decide) rfl
      exact W.zret (v := 0) hx hb hr rfl (fun t ht hW => ⟨⟨0, (), rfl, (by first | exact Or.inl (⟨rfl, by omega⟩) | exact Or.inr (⟨rfl, by omega⟩)), by rw [ht]; exact hP9, hD9⟩, hS.F ht⟩) hS.2.2 dJ1_canEncode_9a6ad_16
    · have t2 : i0.toInt ≤ (255 : Int) := (tnlt c2)
      refine lv_iconst (v := 1) hx hb dJ1_canEncode_9a6ad_11 (by decide) ?_
      refine lv_goto (tgt := 16) hx hb dJ1_canEncode_9a6ad_12 (by decide) ?_
      have hP9 := mx_subP (wc := []) hP [] rfl
      have hD9 := hD.sub (ws' := []) [] (by decide) rfl
      exact W.zret (v := 1) hx hb hr rfl (fun t ht hW => ⟨⟨1, (), rfl, (by first | exact Or.inl (⟨rfl, by omega⟩) | exact Or.inr (⟨rfl, by omega⟩)), by rw [ht]; exact hP9, hD9⟩, hS.F ht⟩) hS.2.2 dJ1_canEncode_9a6ad_16
