set_option maxHeartbeats 4000000 in
set_option maxRecDepth 100000 in
theorem c_X3_potsFor (l : Launch) (dC : Nat → ClassId) (dI : Nat → Nat → Nat) (cI cZ cK : ClassId) (tS : Nat) (aK aV : Nat → Nat) (o : Nat) (i0 : Int32) (k : Nat) (op : Nat) (oto : Int32) (oq : Nat) (ov : Nat) (os : Nat) (ofp : Nat → Int32) (ks : Nat) (kw : Nat) (kc : Nat) (kwd : Int32) (kbg : Int32) (kme : Int32) (kq : Nat) (km : Nat) (kd : Nat) (ksi : Int32) (ka : Nat) (kk : Nat) (kfq : Nat → Int32) (sz : Nat) (h_ofp : rg ofp 6 0 9) (h_i0 : 0 ≤ i0.toInt ∧ i0.toInt ≤ 5) : Ci l yX3_potsFor (wq yX3_potsFor cX3_potsFor 3 (some .int)) ({ frames := 1, cells := 0, slots := 0, locals := 21 }) dC dI cI cZ cK tS aK aV [.ref o, .int i0] sz [(o, .inr (3, [.ref k, .ref op, .int oto, .ref oq, .ref ov, .ref os])), (op, .inl (cI, 6, .inl ofp)), (k, .inr (0, [.ref ks, .ref kw, .ref kc, .int kwd, .int kbg, .int kme, .ref kq, .ref km, .ref kd, .int ksi, .ref ka, .ref kk])), (kq, .inl (cI, 6, .inl kfq))] (fun (r : Int32) (u : Unit) => (r = ptC (ofp i0.toNatClampNeg) (kfq i0.toNatClampNeg))) (fun _ => [(o, .inr (3, [.ref k, .ref op, .int oto, .ref oq, .ref ov, .ref os])), (op, .inl (cI, 6, .inl ofp)), (k, .inr (0, [.ref ks, .ref kw, .ref kc, .int kwd, .int kbg, .int kme, .ref kq, .ref km, .ref kd, .int ksi, .ref ka, .ref kk])), (kq, .inl (cI, 6, .inl kfq))]) := by
  refine Met.ofW (cc := cX3_potsFor) (maxL := 3) (ret := (some .int)) (by decide) rfl ?_
  intro p e s m args below meth c s₁ B hml hv
  obtain ⟨rfl, hsz, hP, hKx, hD0⟩ := hv
  have hx := B.exec
  have hb := B.bytes
  have hr := B.returns
  have hts := atoms_spec (ws := wq yX3_potsFor cX3_potsFor 3 (some .int)) B.pre
  have hown : s.vm.findClass RX3 = some m.cls := findClass_of_methodNamed B.named
  have hlocks := B.notSynchronized
  subst hsz
  have hD := hD0.self (sz := s.heap.size)
  generalize hAe : va_A [(o, .inr (3, [.ref k, .ref op, .int oto, .ref oq, .ref ov, .ref os])), (op, .inl (cI, 6, .inl ofp)), (k, .inr (0, [.ref ks, .ref kw, .ref kc, .int kwd, .int kbg, .int kme, .ref kq, .ref km, .ref kd, .int ksi, .ref ka, .ref kk])), (kq, .inl (cI, 6, .inl kfq))] s.heap.size = A at hD hKx ⊢
  have hA : ∀ q : Nat, s.heap.size ≤ q → A q := fun q h => by rw [← hAe]; exact Or.inr h
  have hS : va_S A s.heap s.heap [] := va_S.rf
  have hP : va_P (dC, dI) vwCl [(o, .inr (3, [.ref k, .ref op, .int oto, .ref oq, .ref ov, .ref os])), (op, .inl (cI, 6, .inl ofp)), (k, .inr (0, [.ref ks, .ref kw, .ref kc, .int kwd, .int kbg, .int kme, .ref kq, .ref km, .ref kd, .int ksi, .ref ka, .ref kk])), (kq, .inl (cI, 6, .inl kfq))] s.heap := hP
  have hl := lv_entry ([.ref o, .int i0]) (n := 3) (Nat.le_of_ble_eq_true rfl)
  rw [lg_entry_eq]
  generalize (lg_sl ([.ref o, .int i0]) ++ List.replicate (3 - (lg_sl ([.ref o, .int i0])).length) Slot.unset).toArray = ls at hl ⊢
  have hl : lv_has ls 3 [(0, .ref o), (1, .int i0)] := hl
  have hK := hKx.1
  have hin3 := fun w9 h9 => List.mem_cons_of_mem (Cond.code yX3_potsFor cX3_potsFor 3 (some .int)) (inlX3 w9 h9)
  have hin0 := fun w9 h9 => List.mem_cons_of_mem (Cond.code yX3_potsFor cX3_potsFor 3 (some .int)) (inlX0 w9 h9)
  have hw0 := hts (.fieldLink RX3 24 "OneCan$Order" "camp" "LOneCan$Camp;") (List.mem_cons_of_mem _ wm_82)
  have hw1 := hts (.fieldLink RX3 49 "OneCan$Camp" "quarts" "[I") (List.mem_cons_of_mem _ wm_597)
  have hw2 := hts (.methodLink RX3 52 Lib.Math.max.name) (List.mem_cons_of_mem _ wm_598)
  have hw3 := hts (.static Lib.Math.max.name) (List.mem_cons_of_mem _ wm_271)
  have hw4 := hts (.initialized "java/lang/Math") (List.mem_cons_of_mem _ wm_272)
  have hw5 := hts (.code Lib.Math.max.name Lib.Math.max.code 2 (some .int)) (List.mem_cons_of_mem _ wm_273)
  have hw6 := hts (.fieldLink RX3 9 "OneCan$Order" "portions" "[I") (List.mem_cons_of_mem _ wm_78)
  refine lv_iconst (v := 4) hx hb dX3_potsFor_0 (by decide) ?_
  refine lv_aload_n hx hb dX3_potsFor_1 rfl (lv_at hl 0 rfl) ?_
  refine va_get (D := (dC, dI)) (ci := 3) (v := .ref k) (C := RX3) (T := TX3) (N := 6) hx hb hts hin3 hown hK hP 0 rfl rfl 0 (by decide) hw0 (fun _ h9 => h9) rfl dX3_potsFor_2 ?_
  refine va_get (D := (dC, dI)) (ci := 0) (v := .ref kq) (C := RX0) (T := TX0) (N := 12) hx hb hts hin0 hown hK hP 2 rfl rfl 6 (by decide) hw1 (fun _ h9 => h9) rfl dX3_potsFor_5 ?_
  refine lv_iload_n hx hb dX3_potsFor_8 rfl (lv_at hl 1 rfl) ?_
  refine va_iald hx hb hK hP 3 0 rfl rfl (vin (by omega) (by omega)) dX3_potsFor_9 ?_
  refine lv_topi (fun y1 e1 => ?_)
  obtain rfl : kfq i0.toNatClampNeg = y1 := e1.symm
  refine lv_iconst (v := 1) hx hb dX3_potsFor_10 (by decide) ?_
  refine va_mmax hx hb (hml.trans hl.1.symm) hown hw2 hw3 hw4 hw5 (Nat.le_of_ble_eq_true rfl) (Nat.le_of_ble_eq_true rfl) (Nat.le_of_ble_eq_true rfl) (Nat.le_of_ble_eq_true rfl) dX3_potsFor_11 ?_
  refine lv_topi (fun x2 e2 => ?_)
  have f2 : x2.toInt ≥ (kfq i0.toNatClampNeg).toInt ∧ x2.toInt ≥ (1 : Int) ∧ (x2.toInt = (kfq i0.toNatClampNeg).toInt ∨ x2.toInt = (1 : Int)) := by rw [e2]; exact mmmax_t
  refine lv_idiv hx hb dX3_potsFor_14 (by intro h9; have := teq h9; have h8 : (0 : Int32).toInt = 0 := rfl; omega) ?_
  refine lv_topi (fun x3 e3 => ?_)
  refine lv_istore_n (lv' := [(2, .int x3), (0, .ref o), (1, .int i0)]) hx hb dX3_potsFor_15 rfl hl (by decide) rfl (fun ls hl => ?_)
  refine lv_aload_n hx hb dX3_potsFor_16 rfl (lv_at hl 1 rfl) ?_
  refine va_get (D := (dC, dI)) (ci := 3) (v := .ref op) (C := RX3) (T := TX3) (N := 6) hx hb hts hin3 hown hK hP 0 rfl rfl 1 (by decide) hw6 (fun _ h9 => h9) rfl dX3_potsFor_17 ?_
  refine lv_iload_n hx hb dX3_potsFor_20 rfl (lv_at hl 2 rfl) ?_
  refine va_iald hx hb hK hP 1 0 rfl rfl (vin (by omega) (by omega)) dX3_potsFor_21 ?_
  refine lv_topi (fun y4 e4 => ?_)
  obtain rfl : ofp i0.toNatClampNeg = y4 := e4.symm
  have g4 : 0 ≤ (ofp i0.toNatClampNeg).toInt ∧ (ofp i0.toNatClampNeg).toInt ≤ 9 := rgI h_ofp (by omega) (by omega)
  refine lv_iload_n hx hb dX3_potsFor_22 rfl (lv_at hl 0 rfl) ?_
  refine lv_iadd hx hb dX3_potsFor_23 ?_
  refine lv_topi (fun x5 e5 => ?_)
  refine lv_iconst (v := 1) hx hb dX3_potsFor_24 (by decide) ?_
  refine lv_isub hx hb dX3_potsFor_25 ?_
  refine lv_topi (fun x6 e6 => ?_)
  refine lv_iload_n hx hb dX3_potsFor_26 rfl (lv_at hl 0 rfl) ?_
  refine lv_iconst (v := 1) hx hb dX3_potsFor_27 (by decide) ?_
  refine va_mmax hx hb (hml.trans hl.1.symm) hown hw2 hw3 hw4 hw5 (Nat.le_of_ble_eq_true rfl) (Nat.le_of_ble_eq_true rfl) (Nat.le_of_ble_eq_true rfl) (Nat.le_of_ble_eq_true rfl) dX3_potsFor_28 ?_
  refine lv_topi (fun x7 e7 => ?_)
  have f7 : x7.toInt ≥ x3.toInt ∧ x7.toInt ≥ (1 : Int) ∧ (x7.toInt = x3.toInt ∨ x7.toInt = (1 : Int)) := by rw [e7]; exact mmmax_t
  refine lv_idiv hx hb dX3_potsFor_31 (by intro h9; have := teq h9; have h8 : (0 : Int32).toInt = 0 := rfl; omega) ?_
  refine lv_topi (fun x8 e8 => ?_)
  have hP9 := mx_subP (wc := [(o, .inr (3, [.ref k, .ref op, .int oto, .ref oq, .ref ov, .ref os])), (op, .inl (cI, 6, .inl ofp)), (k, .inr (0, [.ref ks, .ref kw, .ref kc, .int kwd, .int kbg, .int kme, .ref kq, .ref km, .ref kd, .int ksi, .ref ka, .ref kk])), (kq, .inl (cI, 6, .inl kfq))]) hP [0, 1, 2, 3] rfl
  have hD9 := hD.sub (ws' := [(o, .inr (3, [.ref k, .ref op, .int oto, .ref oq, .ref ov, .ref os])), (op, .inl (cI, 6, .inl ofp)), (k, .inr (0, [.ref ks, .ref kw, .ref kc, .int kwd, .int kbg, .int kme, .ref kq, .ref km, .ref kd, .int ksi, .ref ka, .ref kk])), (kq, .inl (cI, 6, .inl kfq))]) [0, 1, 2, 3] (by decide) rfl
  exact W.iret (v := x8) hx hb hr (fun t ht hW => ⟨⟨x8, (), rfl, (show x8 = ptC (ofp i0.toNatClampNeg) (kfq i0.toNatClampNeg) from (by subst_vars; rfl)), by rw [ht]; exact hP9, hD9⟩, hS.F ht⟩) hS.2.2 dX3_potsFor_32
set_option maxHeartbeats 4000000 in
set_option maxRecDepth 100000 in
theorem c_X3_inSharedPots (l : Launch) (dC : Nat → ClassId) (dI : Nat → Nat → Nat) (cI cZ cK : ClassId) (tS : Nat) (aK aV : Nat → Nat) (o : Nat) (i0 : Int32) (k : Nat) (op : Nat) (oto : Int32) (oq : Nat) (ov : Nat) (os : Nat) (ofp : Nat → Int32) (ks : Nat) (kw : Nat) (kc : Nat) (kwd : Int32) (kbg : Int32) (kme : Int32) (kq : Nat) (km : Nat) (kd : Nat) (ksi : Int32) (ka : Nat) (kk : Nat) (kfs : Nat → Int32) (kfw : Nat → Int32) (kfq : Nat → Int32) (kfm : Nat → Int32) (sz : Nat) (h_ofp : rg ofp 6 0 9) (h_kfs_4 : 0 ≤ (kfs 4).toInt ∧ (kfs 4).toInt ≤ 13) (h_kfw : rg kfw 14 0 4) (h_i0 : 0 ≤ i0.toInt ∧ i0.toInt ≤ 13) : Ci l yX3_inSharedPots (wq yX3_inSharedPots cX3_inSharedPots 5 (some .int)) ({ frames := 3, cells := 0, slots := 0, locals := 71 }) dC dI cI cZ cK tS aK aV [.ref o, .int i0] sz [(o, .inr (3, [.ref k, .ref op, .int oto, .ref oq, .ref ov, .ref os])), (op, .inl (cI, 6, .inl ofp)), (k, .inr (0, [.ref ks, .ref kw, .ref kc, .int kwd, .int kbg, .int kme, .ref kq, .ref km, .ref kd, .int ksi, .ref ka, .ref kk])), (ks, .inl (cI, 5, .inl kfs)), (kw, .inl (cI, 14, .inl kfw)), (kq, .inl (cI, 6, .inl kfq)), (km, .inl (cI, 6, .inl kfm))] (fun (r : Int32) (u : Unit) => (r = smF (fun j9 => shC (ofp j9) (kfq j9) (kfm j9) (woF (kfs 3) (kfw i0.toNatClampNeg))) 0 6)) (fun _ => [(o, .inr (3, [.ref k, .ref op, .int oto, .ref oq, .ref ov, .ref os])), (op, .inl (cI, 6, .inl ofp)), (k, .inr (0, [.ref ks, .ref kw, .ref kc, .int kwd, .int kbg, .int kme, .ref kq, .ref km, .ref kd, .int ksi, .ref ka, .ref kk])), (ks, .inl (cI, 5, .inl kfs)), (kw, .inl (cI, 14, .inl kfw)), (kq, .inl (cI, 6, .inl kfq)), (km, .inl (cI, 6, .inl kfm))]) := by
  refine Met.ofW (cc := cX3_inSharedPots) (maxL := 5) (ret := (some .int)) (by decide) rfl ?_
  intro p e s m args below meth c s₁ B hml hv
  obtain ⟨rfl, hsz, hP, hKx, hD0⟩ := hv
  have hx := B.exec
  have hb := B.bytes
  have hr := B.returns
  have hts := atoms_spec (ws := wq yX3_inSharedPots cX3_inSharedPots 5 (some .int)) B.pre
  have hown : s.vm.findClass RX3 = some m.cls := findClass_of_methodNamed B.named
  have hlocks := B.notSynchronized
  subst hsz
  have hD := hD0.self (sz := s.heap.size)
  generalize hAe : va_A [(o, .inr (3, [.ref k, .ref op, .int oto, .ref oq, .ref ov, .ref os])), (op, .inl (cI, 6, .inl ofp)), (k, .inr (0, [.ref ks, .ref kw, .ref kc, .int kwd, .int kbg, .int kme, .ref kq, .ref km, .ref kd, .int ksi, .ref ka, .ref kk])), (ks, .inl (cI, 5, .inl kfs)), (kw, .inl (cI, 14, .inl kfw)), (kq, .inl (cI, 6, .inl kfq)), (km, .inl (cI, 6, .inl kfm))] s.heap.size = A at hD hKx ⊢
  have hA : ∀ q : Nat, s.heap.size ≤ q → A q := fun q h => by rw [← hAe]; exact Or.inr h
  have hS : va_S A s.heap s.heap [] := va_S.rf
  have hP : va_P (dC, dI) vwCl [(o, .inr (3, [.ref k, .ref op, .int oto, .ref oq, .ref ov, .ref os])), (op, .inl (cI, 6, .inl ofp)), (k, .inr (0, [.ref ks, .ref kw, .ref kc, .int kwd, .int kbg, .int kme, .ref kq, .ref km, .ref kd, .int ksi, .ref ka, .ref kk])), (ks, .inl (cI, 5, .inl kfs)), (kw, .inl (cI, 14, .inl kfw)), (kq, .inl (cI, 6, .inl kfq)), (km, .inl (cI, 6, .inl kfm))] s.heap := hP
  have hl := lv_entry ([.ref o, .int i0]) (n := 5) (Nat.le_of_ble_eq_true rfl)
  rw [lg_entry_eq]
  generalize (lg_sl ([.ref o, .int i0]) ++ List.replicate (5 - (lg_sl ([.ref o, .int i0])).length) Slot.unset).toArray = ls at hl ⊢
  have hl : lv_has ls 5 [(0, .ref o), (1, .int i0)] := hl
  have hK := hKx.1
  have hin3 := fun w9 h9 => List.mem_cons_of_mem (Cond.code yX3_inSharedPots cX3_inSharedPots 5 (some .int)) (inlX3 w9 h9)
  have hin0 := fun w9 h9 => List.mem_cons_of_mem (Cond.code yX3_inSharedPots cX3_inSharedPots 5 (some .int)) (inlX0 w9 h9)
  have hw0 := hts (.fieldLink RX3 9 "OneCan$Order" "portions" "[I") (List.mem_cons_of_mem _ wm_78)
  have hw1 := hts (.fieldLink RX3 24 "OneCan$Order" "camp" "LOneCan$Camp;") (List.mem_cons_of_mem _ wm_82)
  have hw2 := hts (.fieldLink RX3 46 "OneCan$Camp" "minutes" "[I") (List.mem_cons_of_mem _ wm_586)
  refine lv_iconst (v := 0) hx hb dX3_inSharedPots_0 (by decide) ?_
  refine lv_istore_n (lv' := [(2, .int 0), (0, .ref o), (1, .int i0)]) hx hb dX3_inSharedPots_1 rfl hl (by decide) rfl (fun ls hl => ?_)
  refine lv_iconst (v := 0) hx hb dX3_inSharedPots_2 (by decide) ?_
  refine lv_istore_n (lv' := [(3, .int 0), (2, .int 0), (0, .ref o), (1, .int i0)]) hx hb dX3_inSharedPots_3 rfl hl (by decide) rfl (fun ls hl => ?_)
  have z2 : (0 : Int32).toInt = 0 := rfl
  have z3 : (0 : Int32).toInt = 0 := rfl
  have hl0 := hl
  clear hl
  obtain ⟨H, hHe⟩ : ∃ H : Heap, H = s.heap := ⟨_, rfl⟩
  obtain ⟨locs, hlo⟩ : ∃ l : List Loc, l = [] := ⟨_, rfl⟩
  replace hP : va_P (dC, dI) vwCl [(o, .inr (3, [.ref k, .ref op, .int oto, .ref oq, .ref ov, .ref os])), (op, .inl (cI, 6, .inl ofp)), (k, .inr (0, [.ref ks, .ref kw, .ref kc, .int kwd, .int kbg, .int kme, .ref kq, .ref km, .ref kd, .int ksi, .ref ka, .ref kk])), (ks, .inl (cI, 5, .inl kfs)), (kw, .inl (cI, 14, .inl kfw)), (kq, .inl (cI, 6, .inl kfq)), (km, .inl (cI, 6, .inl kfm))] H := by rw [hHe]; exact hP
  replace hS : va_S A s.heap H locs := by rw [hHe, hlo]; exact hS
  rw [← hHe, ← hlo]
  clear hHe hlo
  have hP0 := hP
  clear hP
  have hD0 := hD
  clear hD
  obtain ⟨y2, y3, ex, hsm, hl, hP, hD⟩ : ∃ (y2 y3 : Int32), (0 ≤ y3.toInt ∧ y3.toInt ≤ 6) ∧ (y2 = smF (fun j9 => shC (ofp j9) (kfq j9) (kfm j9) (woF (kfs 3) (kfw i0.toNatClampNeg))) 0 y3.toInt.toNat) ∧ lv_has ls 5 [(3, .int y3), (2, .int y2), (0, .ref o), (1, .int i0)] ∧ va_P (dC, dI) vwCl [(o, .inr (3, [.ref k, .ref op, .int oto, .ref oq, .ref ov, .ref os])), (op, .inl (cI, 6, .inl ofp)), (k, .inr (0, [.ref ks, .ref kw, .ref kc, .int kwd, .int kbg, .int kme, .ref kq, .ref km, .ref kd, .int ksi, .ref ka, .ref kk])), (ks, .inl (cI, 5, .inl kfs)), (kw, .inl (cI, 14, .inl kfw)), (kq, .inl (cI, 6, .inl kfq)), (km, .inl (cI, 6, .inl kfm))] H ∧ va_D A [(o, .inr (3, [.ref k, .ref op, .int oto, .ref oq, .ref ov, .ref os])), (op, .inl (cI, 6, .inl ofp)), (k, .inr (0, [.ref ks, .ref kw, .ref kc, .int kwd, .int kbg, .int kme, .ref kq, .ref km, .ref kd, .int ksi, .ref ka, .ref kk])), (ks, .inl (cI, 5, .inl kfs)), (kw, .inl (cI, 14, .inl kfw)), (kq, .inl (cI, 6, .inl kfq)), (km, .inl (cI, 6, .inl kfm))] := ⟨0, 0, by omega, (sm_0 rfl), hl0, hP0, hD0⟩
  clear hl0 hP0 hD0
  obtain ⟨n1, hn⟩ : ∃ n : Nat, (n : Int) = 6 - y3.toInt := ⟨(6 - y3.toInt).toNat, by omega⟩
  induction n1 generalizing y2 y3 ls H locs with
  | zero =>
    skip
    refine lv_iload_n hx hb dX3_inSharedPots_4 rfl (lv_at hl 0 rfl) ?_
    refine lv_bipush (v := 6) hx hb dX3_inSharedPots_5 (by decide) ?_
    refine lv_icmp_ge (tgt := 66) hx hb dX3_inSharedPots_7 (by decide) (fun c4 => ?_) (fun c4 => by exfalso; have t4 : y3.toInt < (6 : Int) := (tnle c4); omega)
    refine lv_iload_n hx hb dX3_inSharedPots_66 rfl (lv_at hl 1 rfl) ?_
    have hP9 := mx_subP (wc := [(o, .inr (3, [.ref k, .ref op, .int oto, .ref oq, .ref ov, .ref os])), (op, .inl (cI, 6, .inl ofp)), (k, .inr (0, [.ref ks, .ref kw, .ref kc, .int kwd, .int kbg, .int kme, .ref kq, .ref km, .ref kd, .int ksi, .ref ka, .ref kk])), (ks, .inl (cI, 5, .inl kfs)), (kw, .inl (cI, 14, .inl kfw)), (kq, .inl (cI, 6, .inl kfq)), (km, .inl (cI, 6, .inl kfm))]) hP [0, 1, 2, 3, 4, 5, 6] rfl
    have hD9 := hD.sub (ws' := [(o, .inr (3, [.ref k, .ref op, .int oto, .ref oq, .ref ov, .ref os])), (op, .inl (cI, 6, .inl ofp)), (k, .inr (0, [.ref ks, .ref kw, .ref kc, .int kwd, .int kbg, .int kme, .ref kq, .ref km, .ref kd, .int ksi, .ref ka, .ref kk])), (ks, .inl (cI, 5, .inl kfs)), (kw, .inl (cI, 14, .inl kfw)), (kq, .inl (cI, 6, .inl kfq)), (km, .inl (cI, 6, .inl kfm))]) [0, 1, 2, 3, 4, 5, 6] (by decide) rfl
    exact W.iret (v := y2) hx hb hr (fun t ht hW => ⟨⟨y2, (), rfl, (show y2 = smF (fun j9 => shC (ofp j9) (kfq j9) (kfm j9) (woF (kfs 3) (kfw i0.toNatClampNeg))) 0 6 from (by have e9 : y3.toInt.toNat = 6 := (by omega); rw [← e9]; exact hsm)), by rw [ht]; exact hP9, hD9⟩, hS.F ht⟩) hS.2.2 dX3_inSharedPots_67
  | succ n1 ih =>
    skip
    refine lv_iload_n hx hb dX3_inSharedPots_4 rfl (lv_at hl 0 rfl) ?_
    refine lv_bipush (v := 6) hx hb dX3_inSharedPots_5 (by decide) ?_
    refine lv_icmp_ge (tgt := 66) hx hb dX3_inSharedPots_7 (by decide) (fun c5 => by exfalso; have t5 : (6 : Int) ≤ y3.toInt := (tle c5); omega) (fun c5 => ?_)
    refine lv_aload_n hx hb dX3_inSharedPots_10 rfl (lv_at hl 2 rfl) ?_
    refine va_get (D := (dC, dI)) (ci := 3) (v := .ref op) (C := RX3) (T := TX3) (N := 6) hx hb hts hin3 hown hK hP 0 rfl rfl 1 (by decide) hw0 (fun _ h9 => h9) rfl dX3_inSharedPots_11 ?_
    refine lv_iload_n hx hb dX3_inSharedPots_14 rfl (lv_at hl 0 rfl) ?_
    refine va_iald hx hb hK hP 1 0 rfl rfl (vin (by omega) (by omega)) dX3_inSharedPots_15 ?_
    refine lv_topi (fun y6 e6 => ?_)
    obtain rfl : ofp y3.toNatClampNeg = y6 := e6.symm
    have g6 : 0 ≤ (ofp y3.toNatClampNeg).toInt ∧ (ofp y3.toNatClampNeg).toInt ≤ 9 := rgI h_ofp (by omega) (by omega)
    refine lv_if_le (tgt := 60) hx hb dX3_inSharedPots_16 (by decide) (fun c7 => ?_) (fun c7 => ?_)
    · have t7 : (ofp y3.toNatClampNeg).toInt ≤ (0 : Int) := (tle c7)
      obtain ⟨x8, e8⟩ : ∃ y : Int32, y = y3 + Int32.ofInt 1 := ⟨_, rfl⟩
      refine lv_iinc (v := x8) (lv' := [(3, .int x8), (2, .int y2), (0, .ref o), (1, .int i0)]) hx hb dX3_inSharedPots_60 hl (k := 0) rfl e8.symm (by decide) rfl (fun ls hl => ?_)
      have f8 : x8.toInt = y3.toInt + 1 := by rw [e8]; exact tinc (by decide) (by have t8 := tb y3; omega) (by have t8 := tb y3; omega)
      refine lv_goto (tgt := 4) hx hb dX3_inSharedPots_63 (by decide) ?_
      exact ih (H := H) (locs := locs) (ls := ls) (y2 := y2) (y3 := x8) hS (by omega) (sm_n (k := y3.toNatClampNeg) hsm (shC_0 (by omega)) (show 0 + y3.toInt.toNat = y3.toInt.toNat from by omega) (by omega)) (show lv_has ls 5 [(3, .int x8), (2, .int y2), (0, .ref o), (1, .int i0)] from lv_sub hl [0, 1, 2, 3] rfl) (mx_subP (wc := [(o, .inr (3, [.ref k, .ref op, .int oto, .ref oq, .ref ov, .ref os])), (op, .inl (cI, 6, .inl ofp)), (k, .inr (0, [.ref ks, .ref kw, .ref kc, .int kwd, .int kbg, .int kme, .ref kq, .ref km, .ref kd, .int ksi, .ref ka, .ref kk])), (ks, .inl (cI, 5, .inl kfs)), (kw, .inl (cI, 14, .inl kfw)), (kq, .inl (cI, 6, .inl kfq)), (km, .inl (cI, 6, .inl kfm))]) hP [0, 1, 2, 3, 4, 5, 6] rfl) (by omega)
    · have t7 : (0 : Int) < (ofp y3.toNatClampNeg).toInt := (tnle c7)
      refine lv_aload_n hx hb dX3_inSharedPots_19 rfl (lv_at hl 2 rfl) ?_
      refine va_get (D := (dC, dI)) (ci := 3) (v := .ref k) (C := RX3) (T := TX3) (N := 6) hx hb hts hin3 hown hK hP 0 rfl rfl 0 (by decide) hw1 (fun _ h9 => h9) rfl dX3_inSharedPots_20 ?_
      refine lv_iload_n hx hb dX3_inSharedPots_23 rfl (lv_at hl 0 rfl) ?_
      refine lv_iload_n hx hb dX3_inSharedPots_24 rfl (lv_at hl 3 rfl) ?_
      refine lv_bipush (v := 8) hx hb dX3_inSharedPots_25 (by decide) ?_
      refine mx_i (wr := [(o, .inr (3, [.ref k, .ref op, .int oto, .ref oq, .ref ov, .ref os])), (op, .inl (cI, 6, .inl ofp))]) (va_runV (As := [.int y3, .int i0, .int 8]) (rest := []) ⟨hx, hb, hml, hown, hts⟩ (c_X0_toBoilOn l dC dI cI cZ cK tS aK aV k y3 i0 8 ks kw kc kwd kbg kme kq km kd ksi ka kk kfs kfw kfq kfm H.size (by have z8 : (8 : Int32).toInt = 8 := rfl; first | omega | decide | assumption | trivial) h_kfw (by have z8 : (8 : Int32).toInt = 8 := rfl; first | omega | decide | assumption | trivial) (by have z8 : (8 : Int32).toInt = 8 := rfl; first | omega | decide | assumption | trivial)) (cwV 3 hts (gw_v (fun _ h9 => List.mem_cons_of_mem _ h9) wm_587 wm_588 wm_589 wm_14 wm_590) rfl rfl rfl (by decide +kernel) ⟨Nat.le_of_ble_eq_true rfl, Nat.le_of_ble_eq_true rfl⟩) (mx_preV (C := RX0) (T := TX0) (N := 12) (ci := 0) hKx hP hD hS hA [2, 3, 4, 5, 6] (by decide) rfl rfl rfl) rfl rfl hl.1 rfl (lv_room (Nat.le_of_ble_eq_true rfl)) dX3_inSharedPots_27 ⟨Nat.le_of_ble_eq_true rfl, Nat.le_of_ble_eq_true rfl⟩) hP hD hS hA [2, 3, 4, 5, 6] [0, 1] rfl rfl (by decide) (by decide) (fun r9 u9 H locs hq9 hP hD hS => ?_)
      replace hP : va_P (dC, dI) vwCl [(o, .inr (3, [.ref k, .ref op, .int oto, .ref oq, .ref ov, .ref os])), (op, .inl (cI, 6, .inl ofp)), (k, .inr (0, [.ref ks, .ref kw, .ref kc, .int kwd, .int kbg, .int kme, .ref kq, .ref km, .ref kd, .int ksi, .ref ka, .ref kk])), (ks, .inl (cI, 5, .inl kfs)), (kw, .inl (cI, 14, .inl kfw)), (kq, .inl (cI, 6, .inl kfq)), (km, .inl (cI, 6, .inl kfm))] H := hP
      replace hD : va_D A [(o, .inr (3, [.ref k, .ref op, .int oto, .ref oq, .ref ov, .ref os])), (op, .inl (cI, 6, .inl ofp)), (k, .inr (0, [.ref ks, .ref kw, .ref kc, .int kwd, .int kbg, .int kme, .ref kq, .ref km, .ref kd, .int ksi, .ref ka, .ref kk])), (ks, .inl (cI, 5, .inl kfs)), (kw, .inl (cI, 14, .inl kfw)), (kq, .inl (cI, 6, .inl kfq)), (km, .inl (cI, 6, .inl kfm))] := hD
      have hx9_0 := hq9
      replace hx9_0 : r9 = tbF (kfq y3.toNatClampNeg) (kfm y3.toNatClampNeg) (woF (kfs 3) (kfw i0.toNatClampNeg)) (8 : Int32) := hx9_0
      refine lv_aload_n hx hb dX3_inSharedPots_30 rfl (lv_at hl 2 rfl) ?_
      refine va_get (D := (dC, dI)) (ci := 3) (v := .ref op) (C := RX3) (T := TX3) (N := 6) hx hb hts hin3 hown hK hP 0 rfl rfl 1 (by decide) hw0 (fun _ h9 => h9) rfl dX3_inSharedPots_31 ?_
      refine lv_iload_n hx hb dX3_inSharedPots_34 rfl (lv_at hl 0 rfl) ?_
      refine va_iald hx hb hK hP 1 0 rfl rfl (vin (by omega) (by omega)) dX3_inSharedPots_35 ?_
      refine lv_topi (fun y10 e10 => ?_)
      obtain rfl : ofp y3.toNatClampNeg = y10 := e10.symm
      have g10 : 0 ≤ (ofp y3.toNatClampNeg).toInt ∧ (ofp y3.toNatClampNeg).toInt ≤ 9 := rgI h_ofp (by omega) (by omega)
      refine lv_imul hx hb dX3_inSharedPots_36 ?_
      refine lv_topi (fun x11 e11 => ?_)
      refine lv_istore (lv' := [(4, .int x11), (3, .int y3), (2, .int y2), (0, .ref o), (1, .int i0)]) hx hb dX3_inSharedPots_37 hl (by decide) rfl (fun ls hl => ?_)
      refine lv_iload_n hx hb dX3_inSharedPots_39 rfl (lv_at hl 2 rfl) ?_
      refine lv_iload hx hb dX3_inSharedPots_40 (lv_at hl 0 rfl) ?_
      refine lv_aload_n hx hb dX3_inSharedPots_42 rfl (lv_at hl 3 rfl) ?_
      refine lv_iload_n hx hb dX3_inSharedPots_43 rfl (lv_at hl 1 rfl) ?_
      refine mx_i (wr := [(ks, .inl (cI, 5, .inl kfs)), (kw, .inl (cI, 14, .inl kfw)), (km, .inl (cI, 6, .inl kfm))]) (va_runV (As := [.int y3]) (rest := [.int x11, .int y2]) ⟨hx, hb, hml, hown, hts⟩ (c_X3_potsFor l dC dI cI cZ cK tS aK aV o y3 k op oto oq ov os ofp ks kw kc kwd kbg kme kq km kd ksi ka kk kfq H.size h_ofp (by first | omega | decide | assumption | trivial)) (cwV 1 hts (gw_v (fun _ h9 => List.mem_cons_of_mem _ h9) wm_593 wm_594 wm_595 wm_26 wm_596) rfl rfl rfl (by decide +kernel) ⟨Nat.le_of_ble_eq_true rfl, Nat.le_of_ble_eq_true rfl⟩) (mx_preV (C := RX3) (T := TX3) (N := 6) (ci := 3) hKx hP hD hS hA [0, 1, 2, 5] (by decide) rfl rfl rfl) rfl rfl hl.1 rfl (lv_room (Nat.le_of_ble_eq_true rfl)) dX3_inSharedPots_44 ⟨Nat.le_of_ble_eq_true rfl, Nat.le_of_ble_eq_true rfl⟩) hP hD hS hA [0, 1, 2, 5] [3, 4, 6] rfl rfl (by decide) (by decide) (fun r12 u12 H locs hq12 hP hD hS => ?_)
      replace hP : va_P (dC, dI) vwCl [(ks, .inl (cI, 5, .inl kfs)), (kw, .inl (cI, 14, .inl kfw)), (km, .inl (cI, 6, .inl kfm)), (o, .inr (3, [.ref k, .ref op, .int oto, .ref oq, .ref ov, .ref os])), (op, .inl (cI, 6, .inl ofp)), (k, .inr (0, [.ref ks, .ref kw, .ref kc, .int kwd, .int kbg, .int kme, .ref kq, .ref km, .ref kd, .int ksi, .ref ka, .ref kk])), (kq, .inl (cI, 6, .inl kfq))] H := hP
      replace hD : va_D A [(ks, .inl (cI, 5, .inl kfs)), (kw, .inl (cI, 14, .inl kfw)), (km, .inl (cI, 6, .inl kfm)), (o, .inr (3, [.ref k, .ref op, .int oto, .ref oq, .ref ov, .ref os])), (op, .inl (cI, 6, .inl ofp)), (k, .inr (0, [.ref ks, .ref kw, .ref kc, .int kwd, .int kbg, .int kme, .ref kq, .ref km, .ref kd, .int ksi, .ref ka, .ref kk])), (kq, .inl (cI, 6, .inl kfq))] := hD
      have hx12_0 := hq12
      replace hx12_0 : r12 = ptC (ofp y3.toNatClampNeg) (kfq y3.toNatClampNeg) := hx12_0
      refine lv_aload_n hx hb dX3_inSharedPots_47 rfl (lv_at hl 3 rfl) ?_
      refine va_get (D := (dC, dI)) (ci := 3) (v := .ref k) (C := RX3) (T := TX3) (N := 6) hx hb hts hin3 hown hK hP 3 rfl rfl 0 (by decide) hw1 (fun _ h9 => h9) rfl dX3_inSharedPots_48 ?_
      refine va_get (D := (dC, dI)) (ci := 0) (v := .ref km) (C := RX0) (T := TX0) (N := 12) hx hb hts hin0 hown hK hP 5 rfl rfl 7 (by decide) hw2 (fun _ h9 => h9) rfl dX3_inSharedPots_51 ?_
      refine lv_iload_n hx hb dX3_inSharedPots_54 rfl (lv_at hl 1 rfl) ?_
      refine va_iald hx hb hK hP 2 0 rfl rfl (vin (by omega) (by omega)) dX3_inSharedPots_55 ?_
      refine lv_topi (fun y13 e13 => ?_)
      obtain rfl : kfm y3.toNatClampNeg = y13 := e13.symm
      refine lv_imul hx hb dX3_inSharedPots_56 ?_
      refine lv_topi (fun x14 e14 => ?_)
      refine lv_iadd hx hb dX3_inSharedPots_57 ?_
      refine lv_topi (fun x15 e15 => ?_)
      refine lv_iadd hx hb dX3_inSharedPots_58 ?_
      refine lv_topi (fun x16 e16 => ?_)
      refine lv_istore_n (lv' := [(2, .int x16), (4, .int x11), (3, .int y3), (0, .ref o), (1, .int i0)]) hx hb dX3_inSharedPots_59 rfl hl (by decide) rfl (fun ls hl => ?_)
      obtain ⟨x17, e17⟩ : ∃ y : Int32, y = y3 + Int32.ofInt 1 := ⟨_, rfl⟩
      refine lv_iinc (v := x17) (lv' := [(3, .int x17), (2, .int x16), (4, .int x11), (0, .ref o), (1, .int i0)]) hx hb dX3_inSharedPots_60 hl (k := 2) rfl e17.symm (by decide) rfl (fun ls hl => ?_)
      have f17 : x17.toInt = y3.toInt + 1 := by rw [e17]; exact tinc (by decide) (by have t8 := tb y3; omega) (by have t8 := tb y3; omega)
      refine lv_goto (tgt := 4) hx hb dX3_inSharedPots_63 (by decide) ?_
      exact ih (H := H) (locs := locs) (ls := ls) (y2 := x16) (y3 := x17) hS (by omega) (sm_s (k := y3.toNatClampNeg) hsm e16 ((show x15 = tbF (kfq y3.toNatClampNeg) (kfm y3.toNatClampNeg) (woF (kfs 3) (kfw i0.toNatClampNeg)) 8 * ofp y3.toNatClampNeg + ptC (ofp y3.toNatClampNeg) (kfq y3.toNatClampNeg) * kfm y3.toNatClampNeg from (by rw [e15, e11, e14, hx9_0, hx12_0])).trans (shC_1 (by omega)).symm) (show 0 + y3.toInt.toNat = y3.toInt.toNat from by omega) (by omega)) (show lv_has ls 5 [(3, .int x17), (2, .int x16), (0, .ref o), (1, .int i0)] from lv_sub hl [0, 1, 3, 4] rfl) (mx_subP (wc := [(o, .inr (3, [.ref k, .ref op, .int oto, .ref oq, .ref ov, .ref os])), (op, .inl (cI, 6, .inl ofp)), (k, .inr (0, [.ref ks, .ref kw, .ref kc, .int kwd, .int kbg, .int kme, .ref kq, .ref km, .ref kd, .int ksi, .ref ka, .ref kk])), (ks, .inl (cI, 5, .inl kfs)), (kw, .inl (cI, 14, .inl kfw)), (kq, .inl (cI, 6, .inl kfq)), (km, .inl (cI, 6, .inl kfm))]) hP [3, 4, 5, 0, 1, 6, 2] rfl) (by omega)
set_option maxHeartbeats 4000000 in
set_option maxRecDepth 100000 in
theorem c_X3_bestFrom_6 (l : Launch) (dC : Nat → ClassId) (dI : Nat → Nat → Nat) (cI cZ cK : ClassId) (tS : Nat) (aK aV : Nat → Nat) (i1 : Int32) (op : Nat) (oq : Nat) (ov : Nat) (ofp : Nat → Int32) (ofq : Nat → Int32) (ofv : Nat → Int32) (sz : Nat) (h_ofp : rg ofp 6 0 9) : Ci l yX3_bestFrom (wq yX3_bestFrom cX3_bestFrom 8 (some .int)) ({ frames := 0, cells := 0, slots := 0, locals := 0 }) dC dI cI cZ cK tS aK aV [.int 6, .int i1, .ref op, .ref oq, .ref ov] sz [(op, .inl (cI, 6, .inl ofp)), (oq, .inl (cI, 6, .inl ofq)), (ov, .inl (cI, 6, .inl ofv))] (fun (r : Int32) (u : Unit) => True) (fun _ => [(op, .inl (cI, 6, .inl ofp)), (oq, .inl (cI, 6, .inl ofq)), (ov, .inl (cI, 6, .inl ofv))]) := by
  refine Met.ofW (cc := cX3_bestFrom) (maxL := 8) (ret := (some .int)) (by decide) rfl ?_
  intro p e s m args below meth c s₁ B hml hv
  obtain ⟨rfl, hsz, hP, hKx, hD0⟩ := hv
  have hx := B.exec
  have hb := B.bytes
  have hr := B.returns
  have hts := atoms_spec (ws := wq yX3_bestFrom cX3_bestFrom 8 (some .int)) B.pre
  have hown : s.vm.findClass RX3 = some m.cls := findClass_of_methodNamed B.named
  have hlocks := B.notSynchronized
  subst hsz
  have hD := hD0.self (sz := s.heap.size)
  generalize hAe : va_A [(op, .inl (cI, 6, .inl ofp)), (oq, .inl (cI, 6, .inl ofq)), (ov, .inl (cI, 6, .inl ofv))] s.heap.size = A at hD hKx ⊢
  have hA : ∀ q : Nat, s.heap.size ≤ q → A q := fun q h => by rw [← hAe]; exact Or.inr h
  have hS : va_S A s.heap s.heap [] := va_S.rf
  have hP : va_P (dC, dI) vwCl [(op, .inl (cI, 6, .inl ofp)), (oq, .inl (cI, 6, .inl ofq)), (ov, .inl (cI, 6, .inl ofv))] s.heap := hP
  have hl := lv_entry ([.int 6, .int i1, .ref op, .ref oq, .ref ov]) (n := 8) (Nat.le_of_ble_eq_true rfl)
  rw [lg_entry_eq]
  generalize (lg_sl ([.int 6, .int i1, .ref op, .ref oq, .ref ov]) ++ List.replicate (8 - (lg_sl ([.int 6, .int i1, .ref op, .ref oq, .ref ov])).length) Slot.unset).toArray = ls at hl ⊢
  have hl : lv_has ls 8 [(0, .int 6), (1, .int i1), (2, .ref op), (3, .ref oq), (4, .ref ov)] := hl
  have hK := hKx.1
  refine lv_iload_n hx hb dX3_bestFrom_0 rfl (lv_at hl 0 rfl) ?_
  refine lv_bipush (v := 6) hx hb dX3_bestFrom_1 (by decide) ?_
  refine lv_icmp_lt (tgt := 8) hx hb dX3_bestFrom_3 (by decide) (fun c1 => absurd c1 (by decide)) (fun c1 => ?_)
  refine lv_iconst (v := 0) hx hb dX3_bestFrom_6 (by decide) ?_
  have hP9 := mx_subP (wc := [(op, .inl (cI, 6, .inl ofp)), (oq, .inl (cI, 6, .inl ofq)), (ov, .inl (cI, 6, .inl ofv))]) hP [0, 1, 2] rfl
  have hD9 := hD.sub (ws' := [(op, .inl (cI, 6, .inl ofp)), (oq, .inl (cI, 6, .inl ofq)), (ov, .inl (cI, 6, .inl ofv))]) [0, 1, 2] (by decide) rfl
  exact W.iret (v := 0) hx hb hr (fun t ht hW => ⟨⟨0, (), rfl, trivial, by rw [ht]; exact hP9, hD9⟩, hS.F ht⟩) hS.2.2 dX3_bestFrom_7
set_option maxHeartbeats 4000000 in
set_option maxRecDepth 100000 in
theorem c_X3_bestFrom_5 (l : Launch) (dC : Nat → ClassId) (dI : Nat → Nat → Nat) (cI cZ cK : ClassId) (tS : Nat) (aK aV : Nat → Nat) (i1 : Int32) (op : Nat) (oq : Nat) (ov : Nat) (ofp : Nat → Int32) (ofq : Nat → Int32) (ofv : Nat → Int32) (sz : Nat) (h_ofp : rg ofp 6 0 9) : Ci l yX3_bestFrom (wq yX3_bestFrom cX3_bestFrom 8 (some .int)) ({ frames := 1, cells := 0, slots := 0, locals := 27 }) dC dI cI cZ cK tS aK aV [.int 5, .int i1, .ref op, .ref oq, .ref ov] sz [(op, .inl (cI, 6, .inl ofp)), (oq, .inl (cI, 6, .inl ofq)), (ov, .inl (cI, 6, .inl ofv))] (fun (r : Int32) (u : Unit) => True) (fun _ => [(op, .inl (cI, 6, .inl ofp)), (oq, .inl (cI, 6, .inl ofq)), (ov, .inl (cI, 6, .inl ofv))]) := by
  refine Met.ofW (cc := cX3_bestFrom) (maxL := 8) (ret := (some .int)) (by decide) rfl ?_
  intro p e s m args below meth c s₁ B hml hv
  obtain ⟨rfl, hsz, hP, hKx, hD0⟩ := hv
  have hx := B.exec
  have hb := B.bytes
  have hr := B.returns
  have hts := atoms_spec (ws := wq yX3_bestFrom cX3_bestFrom 8 (some .int)) B.pre
  have hown : s.vm.findClass RX3 = some m.cls := findClass_of_methodNamed B.named
  have hlocks := B.notSynchronized
  subst hsz
  have hD := hD0.self (sz := s.heap.size)
  generalize hAe : va_A [(op, .inl (cI, 6, .inl ofp)), (oq, .inl (cI, 6, .inl ofq)), (ov, .inl (cI, 6, .inl ofv))] s.heap.size = A at hD hKx ⊢
  have hA : ∀ q : Nat, s.heap.size ≤ q → A q := fun q h => by rw [← hAe]; exact Or.inr h
  have hS : va_S A s.heap s.heap [] := va_S.rf
  have hP : va_P (dC, dI) vwCl [(op, .inl (cI, 6, .inl ofp)), (oq, .inl (cI, 6, .inl ofq)), (ov, .inl (cI, 6, .inl ofv))] s.heap := hP
  have hl := lv_entry ([.int 5, .int i1, .ref op, .ref oq, .ref ov]) (n := 8) (Nat.le_of_ble_eq_true rfl)
  rw [lg_entry_eq]
  generalize (lg_sl ([.int 5, .int i1, .ref op, .ref oq, .ref ov]) ++ List.replicate (8 - (lg_sl ([.int 5, .int i1, .ref op, .ref oq, .ref ov])).length) Slot.unset).toArray = ls at hl ⊢
  have hl : lv_has ls 8 [(0, .int 5), (1, .int i1), (2, .ref op), (3, .ref oq), (4, .ref ov)] := hl
  have hK := hKx.1
  have hw0 := hts (.methodLink RX3 52 Lib.Math.max.name) (List.mem_cons_of_mem _ wm_598)
  have hw1 := hts (.static Lib.Math.max.name) (List.mem_cons_of_mem _ wm_271)
  have hw2 := hts (.initialized "java/lang/Math") (List.mem_cons_of_mem _ wm_272)
  have hw3 := hts (.code Lib.Math.max.name Lib.Math.max.code 2 (some .int)) (List.mem_cons_of_mem _ wm_273)
  refine lv_iload_n hx hb dX3_bestFrom_0 rfl (lv_at hl 0 rfl) ?_
  refine lv_bipush (v := 6) hx hb dX3_bestFrom_1 (by decide) ?_
  refine lv_icmp_lt (tgt := 8) hx hb dX3_bestFrom_3 (by decide) (fun c1 => ?_) (fun c1 => absurd c1 (by decide))
  refine lv_iconst (v := 0) hx hb dX3_bestFrom_8 (by decide) ?_
  refine lv_istore (lv' := [(5, .int 0), (0, .int 5), (1, .int i1), (2, .ref op), (3, .ref oq), (4, .ref ov)]) hx hb dX3_bestFrom_9 hl (by decide) rfl (fun ls hl => ?_)
  refine lv_iconst (v := 0) hx hb dX3_bestFrom_11 (by decide) ?_
  refine lv_istore (lv' := [(6, .int 0), (5, .int 0), (0, .int 5), (1, .int i1), (2, .ref op), (3, .ref oq), (4, .ref ov)]) hx hb dX3_bestFrom_12 hl (by decide) rfl (fun ls hl => ?_)
  have z3 : (0 : Int32).toInt = 0 := rfl
  have z4 : (0 : Int32).toInt = 0 := rfl
  have hl0 := hl
  clear hl
  obtain ⟨H, hHe⟩ : ∃ H : Heap, H = s.heap := ⟨_, rfl⟩
  obtain ⟨locs, hlo⟩ : ∃ l : List Loc, l = [] := ⟨_, rfl⟩
  replace hP : va_P (dC, dI) vwCl [(op, .inl (cI, 6, .inl ofp)), (oq, .inl (cI, 6, .inl ofq)), (ov, .inl (cI, 6, .inl ofv))] H := by rw [hHe]; exact hP
  replace hS : va_S A s.heap H locs := by rw [hHe, hlo]; exact hS
  rw [← hHe, ← hlo]
  clear hHe hlo
  have hP0 := hP
  clear hP
  have hD0 := hD
  clear hD
  obtain ⟨y5, y6, ex, hl, hP, hD⟩ : ∃ (y5 y6 : Int32), (0 ≤ y6.toInt ∧ y6.toInt ≤ 10) ∧ lv_has ls 8 [(6, .int y6), (5, .int y5), (0, .int 5), (1, .int i1), (2, .ref op), (3, .ref oq), (4, .ref ov)] ∧ va_P (dC, dI) vwCl [(op, .inl (cI, 6, .inl ofp)), (oq, .inl (cI, 6, .inl ofq)), (ov, .inl (cI, 6, .inl ofv))] H ∧ va_D A [(op, .inl (cI, 6, .inl ofp)), (oq, .inl (cI, 6, .inl ofq)), (ov, .inl (cI, 6, .inl ofv))] := ⟨0, 0, by omega, hl0, hP0, hD0⟩
  clear hl0 hP0 hD0
  obtain ⟨n2, hn⟩ : ∃ n : Nat, (n : Int) = 10 - y6.toInt := ⟨(10 - y6.toInt).toNat, by omega⟩
  induction n2 generalizing y5 y6 ls H locs with
  | zero =>
    skip
    refine lv_iload hx hb dX3_bestFrom_14 (lv_at hl 0 rfl) ?_
    refine lv_aload_n hx hb dX3_bestFrom_16 rfl (lv_at hl 4 rfl) ?_
    refine lv_iload_n hx hb dX3_bestFrom_17 rfl (lv_at hl 2 rfl) ?_
    refine va_iald hx hb hK hP 0 0 rfl rfl (vin (by decide) (by decide)) dX3_bestFrom_18 ?_
    refine lv_topi (fun x5 e5 => ?_)
    have g5 : 0 ≤ x5.toInt ∧ x5.toInt ≤ 9 := by rw [e5]; exact h_ofp _ (by decide)
    refine lv_icmp_gt (tgt := 75) hx hb dX3_bestFrom_19 (by decide) (fun c6 => ?_) (fun c6 => by exfalso; have t6 : y6.toInt ≤ x5.toInt := (tnlt c6); omega)
    refine lv_iload hx hb dX3_bestFrom_75 (lv_at hl 1 rfl) ?_
    have hP9 := mx_subP (wc := [(op, .inl (cI, 6, .inl ofp)), (oq, .inl (cI, 6, .inl ofq)), (ov, .inl (cI, 6, .inl ofv))]) hP [0, 1, 2] rfl
    have hD9 := hD.sub (ws' := [(op, .inl (cI, 6, .inl ofp)), (oq, .inl (cI, 6, .inl ofq)), (ov, .inl (cI, 6, .inl ofv))]) [0, 1, 2] (by decide) rfl
    exact W.iret (v := y5) hx hb hr (fun t ht hW => ⟨⟨y5, (), rfl, trivial, by rw [ht]; exact hP9, hD9⟩, hS.F ht⟩) hS.2.2 dX3_bestFrom_77
  | succ n2 ih =>
    skip
    refine lv_iload hx hb dX3_bestFrom_14 (lv_at hl 0 rfl) ?_
    refine lv_aload_n hx hb dX3_bestFrom_16 rfl (lv_at hl 4 rfl) ?_
    refine lv_iload_n hx hb dX3_bestFrom_17 rfl (lv_at hl 2 rfl) ?_
    refine va_iald hx hb hK hP 0 0 rfl rfl (vin (by decide) (by decide)) dX3_bestFrom_18 ?_
    refine lv_topi (fun x7 e7 => ?_)
    have g7 : 0 ≤ x7.toInt ∧ x7.toInt ≤ 9 := by rw [e7]; exact h_ofp _ (by decide)
    refine lv_icmp_gt (tgt := 75) hx hb dX3_bestFrom_19 (by decide) (fun c8 => ?_) (fun c8 => ?_)
    · have t8 : x7.toInt < y6.toInt := (tlt c8)
      refine lv_iload hx hb dX3_bestFrom_75 (lv_at hl 1 rfl) ?_
      have hP9 := mx_subP (wc := [(op, .inl (cI, 6, .inl ofp)), (oq, .inl (cI, 6, .inl ofq)), (ov, .inl (cI, 6, .inl ofv))]) hP [0, 1, 2] rfl
      have hD9 := hD.sub (ws' := [(op, .inl (cI, 6, .inl ofp)), (oq, .inl (cI, 6, .inl ofq)), (ov, .inl (cI, 6, .inl ofv))]) [0, 1, 2] (by decide) rfl
      exact W.iret (v := y5) hx hb hr (fun t ht hW => ⟨⟨y5, (), rfl, trivial, by rw [ht]; exact hP9, hD9⟩, hS.F ht⟩) hS.2.2 dX3_bestFrom_77
    · have t8 : y6.toInt ≤ x7.toInt := (tnlt c8)
      refine lv_iload hx hb dX3_bestFrom_22 (lv_at hl 0 rfl) ?_
      refine lv_aload_n hx hb dX3_bestFrom_24 rfl (lv_at hl 5 rfl) ?_
      refine lv_iload_n hx hb dX3_bestFrom_25 rfl (lv_at hl 2 rfl) ?_
      refine va_iald hx hb hK hP 1 0 rfl rfl (vin (by decide) (by decide)) dX3_bestFrom_26 ?_
      refine lv_topi (fun x9 e9 => ?_)
      refine lv_imul hx hb dX3_bestFrom_27 ?_
      refine lv_topi (fun x10 e10 => ?_)
      refine lv_iload_n hx hb dX3_bestFrom_28 rfl (lv_at hl 3 rfl) ?_
      refine lv_icmp_gt (tgt := 75) hx hb dX3_bestFrom_29 (by decide) (fun c11 => ?_) (fun c11 => ?_)
      · have t11 : i1.toInt < x10.toInt := (tlt c11)
        refine lv_iload hx hb dX3_bestFrom_75 (lv_at hl 1 rfl) ?_
        have hP9 := mx_subP (wc := [(op, .inl (cI, 6, .inl ofp)), (oq, .inl (cI, 6, .inl ofq)), (ov, .inl (cI, 6, .inl ofv))]) hP [0, 1, 2] rfl
        have hD9 := hD.sub (ws' := [(op, .inl (cI, 6, .inl ofp)), (oq, .inl (cI, 6, .inl ofq)), (ov, .inl (cI, 6, .inl ofv))]) [0, 1, 2] (by decide) rfl
        exact W.iret (v := y5) hx hb hr (fun t ht hW => ⟨⟨y5, (), rfl, trivial, by rw [ht]; exact hP9, hD9⟩, hS.F ht⟩) hS.2.2 dX3_bestFrom_77
      · have t11 : x10.toInt ≤ i1.toInt := (tnlt c11)
        refine lv_iload_n hx hb dX3_bestFrom_32 rfl (lv_at hl 2 rfl) ?_
        refine lv_iconst (v := 1) hx hb dX3_bestFrom_33 (by decide) ?_
        refine lv_iadd hx hb dX3_bestFrom_34 ?_
        refine lv_topi (fun x12 e12 => ?_)
        obtain rfl : x12 = 6 := e12.trans (by decide)
        refine lv_iload_n hx hb dX3_bestFrom_35 rfl (lv_at hl 3 rfl) ?_
        refine lv_iload hx hb dX3_bestFrom_36 (lv_at hl 0 rfl) ?_
        refine lv_aload_n hx hb dX3_bestFrom_38 rfl (lv_at hl 5 rfl) ?_
        refine lv_iload_n hx hb dX3_bestFrom_39 rfl (lv_at hl 2 rfl) ?_
        refine va_iald hx hb hK hP 1 0 rfl rfl (vin (by decide) (by decide)) dX3_bestFrom_40 ?_
        refine lv_topi (fun x13 e13 => ?_)
        refine lv_imul hx hb dX3_bestFrom_41 ?_
        refine lv_topi (fun x14 e14 => ?_)
        refine lv_isub hx hb dX3_bestFrom_42 ?_
        refine lv_topi (fun x15 e15 => ?_)
        refine lv_aload_n hx hb dX3_bestFrom_43 rfl (lv_at hl 4 rfl) ?_
        refine lv_aload_n hx hb dX3_bestFrom_44 rfl (lv_at hl 5 rfl) ?_
        refine lv_aload hx hb dX3_bestFrom_45 (lv_at hl 6 rfl) ?_
        refine mx_i (wr := []) (va_runS (As := [.int 6, .int x15, .ref op, .ref oq, .ref ov]) (rest := []) ⟨hx, hb, hml, hown, hts⟩ (c_X3_bestFrom_6 l dC dI cI cZ cK tS aK aV x15 op oq ov ofp ofq ofv H.size h_ofp) (va_cwS 5 hts (gw_s (fun _ h9 => List.mem_cons_of_mem _ h9) wm_630 wm_631 wm_26 wm_632) rfl rfl rfl (by decide +kernel) ⟨Nat.le_of_ble_eq_true rfl, Nat.le_of_ble_eq_true rfl⟩) (mx_preS hKx hP hD hS hA [0, 1, 2] (by decide) rfl) rfl rfl hl.1 rfl (lv_room (Nat.le_of_ble_eq_true rfl)) dX3_bestFrom_47 ⟨Nat.le_of_ble_eq_true rfl, Nat.le_of_ble_eq_true rfl⟩) hP hD hS hA [0, 1, 2] [] rfl rfl (by decide) (by decide) (fun r16 u16 H locs hq16 hP hD hS => ?_)
        replace hP : va_P (dC, dI) vwCl [(op, .inl (cI, 6, .inl ofp)), (oq, .inl (cI, 6, .inl ofq)), (ov, .inl (cI, 6, .inl ofv))] H := hP
        replace hD : va_D A [(op, .inl (cI, 6, .inl ofp)), (oq, .inl (cI, 6, .inl ofq)), (ov, .inl (cI, 6, .inl ofv))] := hD
        refine lv_istore (lv' := [(7, .int r16), (6, .int y6), (5, .int y5), (0, .int 5), (1, .int i1), (2, .ref op), (3, .ref oq), (4, .ref ov)]) hx hb dX3_bestFrom_50 hl (by decide) rfl (fun ls hl => ?_)
        refine lv_iload hx hb dX3_bestFrom_52 (lv_at hl 2 rfl) ?_
        refine lv_iload hx hb dX3_bestFrom_54 (lv_at hl 1 rfl) ?_
        refine lv_aload hx hb dX3_bestFrom_56 (lv_at hl 7 rfl) ?_
        refine lv_iload_n hx hb dX3_bestFrom_58 rfl (lv_at hl 3 rfl) ?_
        refine va_iald hx hb hK hP 2 0 rfl rfl (vin (by decide) (by decide)) dX3_bestFrom_59 ?_
        refine lv_topi (fun x17 e17 => ?_)
        refine lv_imul hx hb dX3_bestFrom_60 ?_
        refine lv_topi (fun x18 e18 => ?_)
        refine lv_iload hx hb dX3_bestFrom_61 (lv_at hl 0 rfl) ?_
        refine lv_iadd hx hb dX3_bestFrom_63 ?_
        refine lv_topi (fun x19 e19 => ?_)
        refine va_mmax hx hb (hml.trans hl.1.symm) hown hw0 hw1 hw2 hw3 (Nat.le_of_ble_eq_true rfl) (Nat.le_of_ble_eq_true rfl) (Nat.le_of_ble_eq_true rfl) (Nat.le_of_ble_eq_true rfl) dX3_bestFrom_64 ?_
        refine lv_topi (fun x20 e20 => ?_)
        have f20 : x20.toInt ≥ y5.toInt ∧ x20.toInt ≥ x19.toInt ∧ (x20.toInt = y5.toInt ∨ x20.toInt = x19.toInt) := by rw [e20]; exact mmmax_t
        refine lv_istore (lv' := [(5, .int x20), (7, .int r16), (6, .int y6), (0, .int 5), (1, .int i1), (2, .ref op), (3, .ref oq), (4, .ref ov)]) hx hb dX3_bestFrom_67 hl (by decide) rfl (fun ls hl => ?_)
        obtain ⟨x21, e21⟩ : ∃ y : Int32, y = y6 + Int32.ofInt 1 := ⟨_, rfl⟩
        refine lv_iinc (v := x21) (lv' := [(6, .int x21), (5, .int x20), (7, .int r16), (0, .int 5), (1, .int i1), (2, .ref op), (3, .ref oq), (4, .ref ov)]) hx hb dX3_bestFrom_69 hl (k := 2) rfl e21.symm (by decide) rfl (fun ls hl => ?_)
        have f21 : x21.toInt = y6.toInt + 1 := by rw [e21]; exact tinc (by decide) (by have t8 := tb y6; omega) (by have t8 := tb y6; omega)
        refine lv_goto (tgt := 14) hx hb dX3_bestFrom_72 (by decide) ?_
        exact ih (H := H) (locs := locs) (ls := ls) (y5 := x20) (y6 := x21) hS (by omega)  (show lv_has ls 8 [(6, .int x21), (5, .int x20), (0, .int 5), (1, .int i1), (2, .ref op), (3, .ref oq), (4, .ref ov)] from lv_sub hl [0, 1, 3, 4, 5, 6, 7] rfl) (mx_subP (wc := [(op, .inl (cI, 6, .inl ofp)), (oq, .inl (cI, 6, .inl ofq)), (ov, .inl (cI, 6, .inl ofv))]) hP [0, 1, 2] rfl) (by omega)
set_option maxHeartbeats 4000000 in
set_option maxRecDepth 100000 in
theorem c_X3_bestFrom_4 (l : Launch) (dC : Nat → ClassId) (dI : Nat → Nat → Nat) (cI cZ cK : ClassId) (tS : Nat) (aK aV : Nat → Nat) (i1 : Int32) (op : Nat) (oq : Nat) (ov : Nat) (ofp : Nat → Int32) (ofq : Nat → Int32) (ofv : Nat → Int32) (sz : Nat) (h_ofp : rg ofp 6 0 9) : Ci l yX3_bestFrom (wq yX3_bestFrom cX3_bestFrom 8 (some .int)) ({ frames := 2, cells := 0, slots := 0, locals := 54 }) dC dI cI cZ cK tS aK aV [.int 4, .int i1, .ref op, .ref oq, .ref ov] sz [(op, .inl (cI, 6, .inl ofp)), (oq, .inl (cI, 6, .inl ofq)), (ov, .inl (cI, 6, .inl ofv))] (fun (r : Int32) (u : Unit) => True) (fun _ => [(op, .inl (cI, 6, .inl ofp)), (oq, .inl (cI, 6, .inl ofq)), (ov, .inl (cI, 6, .inl ofv))]) := by
  refine Met.ofW (cc := cX3_bestFrom) (maxL := 8) (ret := (some .int)) (by decide) rfl ?_
  intro p e s m args below meth c s₁ B hml hv
  obtain ⟨rfl, hsz, hP, hKx, hD0⟩ := hv
  have hx := B.exec
  have hb := B.bytes
  have hr := B.returns
  have hts := atoms_spec (ws := wq yX3_bestFrom cX3_bestFrom 8 (some .int)) B.pre
  have hown : s.vm.findClass RX3 = some m.cls := findClass_of_methodNamed B.named
  have hlocks := B.notSynchronized
  subst hsz
  have hD := hD0.self (sz := s.heap.size)
  generalize hAe : va_A [(op, .inl (cI, 6, .inl ofp)), (oq, .inl (cI, 6, .inl ofq)), (ov, .inl (cI, 6, .inl ofv))] s.heap.size = A at hD hKx ⊢
  have hA : ∀ q : Nat, s.heap.size ≤ q → A q := fun q h => by rw [← hAe]; exact Or.inr h
  have hS : va_S A s.heap s.heap [] := va_S.rf
  have hP : va_P (dC, dI) vwCl [(op, .inl (cI, 6, .inl ofp)), (oq, .inl (cI, 6, .inl ofq)), (ov, .inl (cI, 6, .inl ofv))] s.heap := hP
  have hl := lv_entry ([.int 4, .int i1, .ref op, .ref oq, .ref ov]) (n := 8) (Nat.le_of_ble_eq_true rfl)
  rw [lg_entry_eq]
  generalize (lg_sl ([.int 4, .int i1, .ref op, .ref oq, .ref ov]) ++ List.replicate (8 - (lg_sl ([.int 4, .int i1, .ref op, .ref oq, .ref ov])).length) Slot.unset).toArray = ls at hl ⊢
  have hl : lv_has ls 8 [(0, .int 4), (1, .int i1), (2, .ref op), (3, .ref oq), (4, .ref ov)] := hl
  have hK := hKx.1
  have hw0 := hts (.methodLink RX3 52 Lib.Math.max.name) (List.mem_cons_of_mem _ wm_598)
  have hw1 := hts (.static Lib.Math.max.name) (List.mem_cons_of_mem _ wm_271)
  have hw2 := hts (.initialized "java/lang/Math") (List.mem_cons_of_mem _ wm_272)
  have hw3 := hts (.code Lib.Math.max.name Lib.Math.max.code 2 (some .int)) (List.mem_cons_of_mem _ wm_273)
  refine lv_iload_n hx hb dX3_bestFrom_0 rfl (lv_at hl 0 rfl) ?_
  refine lv_bipush (v := 6) hx hb dX3_bestFrom_1 (by decide) ?_
  refine lv_icmp_lt (tgt := 8) hx hb dX3_bestFrom_3 (by decide) (fun c1 => ?_) (fun c1 => absurd c1 (by decide))
  refine lv_iconst (v := 0) hx hb dX3_bestFrom_8 (by decide) ?_
  refine lv_istore (lv' := [(5, .int 0), (0, .int 4), (1, .int i1), (2, .ref op), (3, .ref oq), (4, .ref ov)]) hx hb dX3_bestFrom_9 hl (by decide) rfl (fun ls hl => ?_)
  refine lv_iconst (v := 0) hx hb dX3_bestFrom_11 (by decide) ?_
  refine lv_istore (lv' := [(6, .int 0), (5, .int 0), (0, .int 4), (1, .int i1), (2, .ref op), (3, .ref oq), (4, .ref ov)]) hx hb dX3_bestFrom_12 hl (by decide) rfl (fun ls hl => ?_)
  have z3 : (0 : Int32).toInt = 0 := rfl
  have z4 : (0 : Int32).toInt = 0 := rfl
  have hl0 := hl
  clear hl
  obtain ⟨H, hHe⟩ : ∃ H : Heap, H = s.heap := ⟨_, rfl⟩
  obtain ⟨locs, hlo⟩ : ∃ l : List Loc, l = [] := ⟨_, rfl⟩
  replace hP : va_P (dC, dI) vwCl [(op, .inl (cI, 6, .inl ofp)), (oq, .inl (cI, 6, .inl ofq)), (ov, .inl (cI, 6, .inl ofv))] H := by rw [hHe]; exact hP
  replace hS : va_S A s.heap H locs := by rw [hHe, hlo]; exact hS
  rw [← hHe, ← hlo]
  clear hHe hlo
  have hP0 := hP
  clear hP
  have hD0 := hD
  clear hD
  obtain ⟨y5, y6, ex, hl, hP, hD⟩ : ∃ (y5 y6 : Int32), (0 ≤ y6.toInt ∧ y6.toInt ≤ 10) ∧ lv_has ls 8 [(6, .int y6), (5, .int y5), (0, .int 4), (1, .int i1), (2, .ref op), (3, .ref oq), (4, .ref ov)] ∧ va_P (dC, dI) vwCl [(op, .inl (cI, 6, .inl ofp)), (oq, .inl (cI, 6, .inl ofq)), (ov, .inl (cI, 6, .inl ofv))] H ∧ va_D A [(op, .inl (cI, 6, .inl ofp)), (oq, .inl (cI, 6, .inl ofq)), (ov, .inl (cI, 6, .inl ofv))] := ⟨0, 0, by omega, hl0, hP0, hD0⟩
  clear hl0 hP0 hD0
  obtain ⟨n2, hn⟩ : ∃ n : Nat, (n : Int) = 10 - y6.toInt := ⟨(10 - y6.toInt).toNat, by omega⟩
  induction n2 generalizing y5 y6 ls H locs with
  | zero =>
    skip
    refine lv_iload hx hb dX3_bestFrom_14 (lv_at hl 0 rfl) ?_
    refine lv_aload_n hx hb dX3_bestFrom_16 rfl (lv_at hl 4 rfl) ?_
    refine lv_iload_n hx hb dX3_bestFrom_17 rfl (lv_at hl 2 rfl) ?_
    refine va_iald hx hb hK hP 0 0 rfl rfl (vin (by decide) (by decide)) dX3_bestFrom_18 ?_
    refine lv_topi (fun x5 e5 => ?_)
    have g5 : 0 ≤ x5.toInt ∧ x5.toInt ≤ 9 := by rw [e5]; exact h_ofp _ (by decide)
    refine lv_icmp_gt (tgt := 75) hx hb dX3_bestFrom_19 (by decide) (fun c6 => ?_) (fun c6 => by exfalso; have t6 : y6.toInt ≤ x5.toInt := (tnlt c6); omega)
    refine lv_iload hx hb dX3_bestFrom_75 (lv_at hl 1 rfl) ?_
    have hP9 := mx_subP (wc := [(op, .inl (cI, 6, .inl ofp)), (oq, .inl (cI, 6, .inl ofq)), (ov, .inl (cI, 6, .inl ofv))]) hP [0, 1, 2] rfl
    have hD9 := hD.sub (ws' := [(op, .inl (cI, 6, .inl ofp)), (oq, .inl (cI, 6, .inl ofq)), (ov, .inl (cI, 6, .inl ofv))]) [0, 1, 2] (by decide) rfl
    exact W.iret (v := y5) hx hb hr (fun t ht hW => ⟨⟨y5, (), rfl, trivial, by rw [ht]; exact hP9, hD9⟩, hS.F ht⟩) hS.2.2 dX3_bestFrom_77
  | succ n2 ih =>
    skip
    refine lv_iload hx hb dX3_bestFrom_14 (lv_at hl 0 rfl) ?_
    refine lv_aload_n hx hb dX3_bestFrom_16 rfl (lv_at hl 4 rfl) ?_
    refine lv_iload_n hx hb dX3_bestFrom_17 rfl (lv_at hl 2 rfl) ?_
    refine va_iald hx hb hK hP 0 0 rfl rfl (vin (by decide) (by decide)) dX3_bestFrom_18 ?_
    refine lv_topi (fun x7 e7 => ?_)
    have g7 : 0 ≤ x7.toInt ∧ x7.toInt ≤ 9 := by rw [e7]; exact h_ofp _ (by decide)
    refine lv_icmp_gt (tgt := 75) hx hb dX3_bestFrom_19 (by decide) (fun c8 => ?_) (fun c8 => ?_)
    · have t8 : x7.toInt < y6.toInt := (tlt c8)
      refine lv_iload hx hb dX3_bestFrom_75 (lv_at hl 1 rfl) ?_
      have hP9 := mx_subP (wc := [(op, .inl (cI, 6, .inl ofp)), (oq, .inl (cI, 6, .inl ofq)), (ov, .inl (cI, 6, .inl ofv))]) hP [0, 1, 2] rfl
      have hD9 := hD.sub (ws' := [(op, .inl (cI, 6, .inl ofp)), (oq, .inl (cI, 6, .inl ofq)), (ov, .inl (cI, 6, .inl ofv))]) [0, 1, 2] (by decide) rfl
      exact W.iret (v := y5) hx hb hr (fun t ht hW => ⟨⟨y5, (), rfl, trivial, by rw [ht]; exact hP9, hD9⟩, hS.F ht⟩) hS.2.2 dX3_bestFrom_77
    · have t8 : y6.toInt ≤ x7.toInt := (tnlt c8)
      refine lv_iload hx hb dX3_bestFrom_22 (lv_at hl 0 rfl) ?_
      refine lv_aload_n hx hb dX3_bestFrom_24 rfl (lv_at hl 5 rfl) ?_
      refine lv_iload_n hx hb dX3_bestFrom_25 rfl (lv_at hl 2 rfl) ?_
      refine va_iald hx hb hK hP 1 0 rfl rfl (vin (by decide) (by decide)) dX3_bestFrom_26 ?_
      refine lv_topi (fun x9 e9 => ?_)
      refine lv_imul hx hb dX3_bestFrom_27 ?_
      refine lv_topi (fun x10 e10 => ?_)
      refine lv_iload_n hx hb dX3_bestFrom_28 rfl (lv_at hl 3 rfl) ?_
      refine lv_icmp_gt (tgt := 75) hx hb dX3_bestFrom_29 (by decide) (fun c11 => ?_) (fun c11 => ?_)
      · have t11 : i1.toInt < x10.toInt := (tlt c11)
        refine lv_iload hx hb dX3_bestFrom_75 (lv_at hl 1 rfl) ?_
        have hP9 := mx_subP (wc := [(op, .inl (cI, 6, .inl ofp)), (oq, .inl (cI, 6, .inl ofq)), (ov, .inl (cI, 6, .inl ofv))]) hP [0, 1, 2] rfl
        have hD9 := hD.sub (ws' := [(op, .inl (cI, 6, .inl ofp)), (oq, .inl (cI, 6, .inl ofq)), (ov, .inl (cI, 6, .inl ofv))]) [0, 1, 2] (by decide) rfl
        exact W.iret (v := y5) hx hb hr (fun t ht hW => ⟨⟨y5, (), rfl, trivial, by rw [ht]; exact hP9, hD9⟩, hS.F ht⟩) hS.2.2 dX3_bestFrom_77
      · have t11 : x10.toInt ≤ i1.toInt := (tnlt c11)
        refine lv_iload_n hx hb dX3_bestFrom_32 rfl (lv_at hl 2 rfl) ?_
        refine lv_iconst (v := 1) hx hb dX3_bestFrom_33 (by decide) ?_
        refine lv_iadd hx hb dX3_bestFrom_34 ?_
        refine lv_topi (fun x12 e12 => ?_)
        obtain rfl : x12 = 5 := e12.trans (by decide)
        refine lv_iload_n hx hb dX3_bestFrom_35 rfl (lv_at hl 3 rfl) ?_
        refine lv_iload hx hb dX3_bestFrom_36 (lv_at hl 0 rfl) ?_
        refine lv_aload_n hx hb dX3_bestFrom_38 rfl (lv_at hl 5 rfl) ?_
        refine lv_iload_n hx hb dX3_bestFrom_39 rfl (lv_at hl 2 rfl) ?_
        refine va_iald hx hb hK hP 1 0 rfl rfl (vin (by decide) (by decide)) dX3_bestFrom_40 ?_
        refine lv_topi (fun x13 e13 => ?_)
        refine lv_imul hx hb dX3_bestFrom_41 ?_
        refine lv_topi (fun x14 e14 => ?_)
        refine lv_isub hx hb dX3_bestFrom_42 ?_
        refine lv_topi (fun x15 e15 => ?_)
        refine lv_aload_n hx hb dX3_bestFrom_43 rfl (lv_at hl 4 rfl) ?_
        refine lv_aload_n hx hb dX3_bestFrom_44 rfl (lv_at hl 5 rfl) ?_
        refine lv_aload hx hb dX3_bestFrom_45 (lv_at hl 6 rfl) ?_
        refine mx_i (wr := []) (va_runS (As := [.int 5, .int x15, .ref op, .ref oq, .ref ov]) (rest := []) ⟨hx, hb, hml, hown, hts⟩ (c_X3_bestFrom_5 l dC dI cI cZ cK tS aK aV x15 op oq ov ofp ofq ofv H.size h_ofp) (va_cwS 5 hts (gw_s (fun _ h9 => List.mem_cons_of_mem _ h9) wm_630 wm_631 wm_26 wm_632) rfl rfl rfl (by decide +kernel) ⟨Nat.le_of_ble_eq_true rfl, Nat.le_of_ble_eq_true rfl⟩) (mx_preS hKx hP hD hS hA [0, 1, 2] (by decide) rfl) rfl rfl hl.1 rfl (lv_room (Nat.le_of_ble_eq_true rfl)) dX3_bestFrom_47 ⟨Nat.le_of_ble_eq_true rfl, Nat.le_of_ble_eq_true rfl⟩) hP hD hS hA [0, 1, 2] [] rfl rfl (by decide) (by decide) (fun r16 u16 H locs hq16 hP hD hS => ?_)
        replace hP : va_P (dC, dI) vwCl [(op, .inl (cI, 6, .inl ofp)), (oq, .inl (cI, 6, .inl ofq)), (ov, .inl (cI, 6, .inl ofv))] H := hP
        replace hD : va_D A [(op, .inl (cI, 6, .inl ofp)), (oq, .inl (cI, 6, .inl ofq)), (ov, .inl (cI, 6, .inl ofv))] := hD
        refine lv_istore (lv' := [(7, .int r16), (6, .int y6), (5, .int y5), (0, .int 4), (1, .int i1), (2, .ref op), (3, .ref oq), (4, .ref ov)]) hx hb dX3_bestFrom_50 hl (by decide) rfl (fun ls hl => ?_)
        refine lv_iload hx hb dX3_bestFrom_52 (lv_at hl 2 rfl) ?_
        refine lv_iload hx hb dX3_bestFrom_54 (lv_at hl 1 rfl) ?_
        refine lv_aload hx hb dX3_bestFrom_56 (lv_at hl 7 rfl) ?_
        refine lv_iload_n hx hb dX3_bestFrom_58 rfl (lv_at hl 3 rfl) ?_
        refine va_iald hx hb hK hP 2 0 rfl rfl (vin (by decide) (by decide)) dX3_bestFrom_59 ?_
        refine lv_topi (fun x17 e17 => ?_)
        refine lv_imul hx hb dX3_bestFrom_60 ?_
        refine lv_topi (fun x18 e18 => ?_)
        refine lv_iload hx hb dX3_bestFrom_61 (lv_at hl 0 rfl) ?_
        refine lv_iadd hx hb dX3_bestFrom_63 ?_
        refine lv_topi (fun x19 e19 => ?_)
        refine va_mmax hx hb (hml.trans hl.1.symm) hown hw0 hw1 hw2 hw3 (Nat.le_of_ble_eq_true rfl) (Nat.le_of_ble_eq_true rfl) (Nat.le_of_ble_eq_true rfl) (Nat.le_of_ble_eq_true rfl) dX3_bestFrom_64 ?_
        refine lv_topi (fun x20 e20 => ?_)
        have f20 : x20.toInt ≥ y5.toInt ∧ x20.toInt ≥ x19.toInt ∧ (x20.toInt = y5.toInt ∨ x20.toInt = x19.toInt) := by rw [e20]; exact mmmax_t
        refine lv_istore (lv' := [(5, .int x20), (7, .int r16), (6, .int y6), (0, .int 4), (1, .int i1), (2, .ref op), (3, .ref oq), (4, .ref ov)]) hx hb dX3_bestFrom_67 hl (by decide) rfl (fun ls hl => ?_)
        obtain ⟨x21, e21⟩ : ∃ y : Int32, y = y6 + Int32.ofInt 1 := ⟨_, rfl⟩
        refine lv_iinc (v := x21) (lv' := [(6, .int x21), (5, .int x20), (7, .int r16), (0, .int 4), (1, .int i1), (2, .ref op), (3, .ref oq), (4, .ref ov)]) hx hb dX3_bestFrom_69 hl (k := 2) rfl e21.symm (by decide) rfl (fun ls hl => ?_)
        have f21 : x21.toInt = y6.toInt + 1 := by rw [e21]; exact tinc (by decide) (by have t8 := tb y6; omega) (by have t8 := tb y6; omega)
        refine lv_goto (tgt := 14) hx hb dX3_bestFrom_72 (by decide) ?_
        exact ih (H := H) (locs := locs) (ls := ls) (y5 := x20) (y6 := x21) hS (by omega)  (show lv_has ls 8 [(6, .int x21), (5, .int x20), (0, .int 4), (1, .int i1), (2, .ref op), (3, .ref oq), (4, .ref ov)] from lv_sub hl [0, 1, 3, 4, 5, 6, 7] rfl) (mx_subP (wc := [(op, .inl (cI, 6, .inl ofp)), (oq, .inl (cI, 6, .inl ofq)), (ov, .inl (cI, 6, .inl ofv))]) hP [0, 1, 2] rfl) (by omega)
