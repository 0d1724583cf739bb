set_option maxHeartbeats 4000000 in
set_option maxRecDepth 100000 in
theorem c_X3_leastByTwos (l : Launch) (dC : Nat → ClassId) (dI : Nat → Nat → Nat) (cI cZ cK : ClassId) (tS : Nat) (aK aV : Nat → Nat) (o : Nat) (i0 : Int32) (k : Nat) (op : Nat) (oto : Int32) (oq : Nat) (ov : Nat) (os : Nat) (ofp : Nat → Int32) (ofs : Nat → Int32) (ks : Nat) (kw : Nat) (kc : Nat) (kwd : Int32) (kbg : Int32) (kme : Int32) (kq : Nat) (km : Nat) (kd : Nat) (ksi : Int32) (ka : Nat) (kk : Nat) (kfs : Nat → Int32) (kfw : Nat → Int32) (kfq : Nat → Int32) (kfm : Nat → Int32) (kfd : Nat → Int32) (sz : Nat) (h_ofp : rg ofp 6 0 9) (h_kfs_4 : 0 ≤ (kfs 4).toInt ∧ (kfs 4).toInt ≤ 13) (h_kfw : rg kfw 14 0 4) (h_i0 : 0 ≤ i0.toInt ∧ i0.toInt ≤ 13) : Ci l yX3_leastByTwos (wq yX3_leastByTwos cX3_leastByTwos 7 (some .int)) ({ frames := 3, cells := 0, slots := 0, locals := 66 }) dC dI cI cZ cK tS aK aV [.ref o, .int i0] sz [(o, .inr (3, [.ref k, .ref op, .int oto, .ref oq, .ref ov, .ref os])), (op, .inl (cI, 6, .inl ofp)), (os, .inl (cI, 5, .inl ofs)), (k, .inr (0, [.ref ks, .ref kw, .ref kc, .int kwd, .int kbg, .int kme, .ref kq, .ref km, .ref kd, .int ksi, .ref ka, .ref kk])), (ks, .inl (cI, 5, .inl kfs)), (kw, .inl (cI, 14, .inl kfw)), (kq, .inl (cI, 6, .inl kfq)), (km, .inl (cI, 6, .inl kfm)), (kd, .inl (cI, 6, .inl kfd))] (fun (r : Int32) (u : (Nat → Nat → Int32) × (Nat → Int32) × (Nat → Int64)) => True) (fun u => [(o, .inr (3, [.ref k, .ref op, .int oto, .ref oq, .ref ov, .ref os])), (op, .inl (cI, 6, .inl ofp)), (os, .inl (cI, 5, .inl (u.1 0))), (k, .inr (0, [.ref ks, .ref kw, .ref kc, .int kwd, .int kbg, .int kme, .ref kq, .ref km, .ref kd, .int ksi, .ref ka, .ref kk])), (ks, .inl (cI, 5, .inl kfs)), (kw, .inl (cI, 14, .inl kfw)), (kq, .inl (cI, 6, .inl kfq)), (km, .inl (cI, 6, .inl kfm)), (kd, .inl (cI, 6, .inl kfd))]) := by
  refine Met.ofW (cc := cX3_leastByTwos) (maxL := 7) (ret := (some .int)) (by decide) rfl ?_
  intro p e s m args below meth c s₁ B hml hv
  obtain ⟨rfl, hsz, hP, hKx, hD0⟩ := hv
  have hx := B.exec
  have hb := B.bytes
  have hr := B.returns
  have hts := atoms_spec (ws := wq yX3_leastByTwos cX3_leastByTwos 7 (some .int)) B.pre
  have hown : s.vm.findClass RX3 = some m.cls := findClass_of_methodNamed B.named
  have hlocks := B.notSynchronized
  subst hsz
  have hD := hD0.self (sz := s.heap.size)
  generalize hAe : va_A [(o, .inr (3, [.ref k, .ref op, .int oto, .ref oq, .ref ov, .ref os])), (op, .inl (cI, 6, .inl ofp)), (os, .inl (cI, 5, .inl ofs)), (k, .inr (0, [.ref ks, .ref kw, .ref kc, .int kwd, .int kbg, .int kme, .ref kq, .ref km, .ref kd, .int ksi, .ref ka, .ref kk])), (ks, .inl (cI, 5, .inl kfs)), (kw, .inl (cI, 14, .inl kfw)), (kq, .inl (cI, 6, .inl kfq)), (km, .inl (cI, 6, .inl kfm)), (kd, .inl (cI, 6, .inl kfd))] s.heap.size = A at hD hKx ⊢
  have hA : ∀ q : Nat, s.heap.size ≤ q → A q := fun q h => by rw [← hAe]; exact Or.inr h
  have hS : va_S A s.heap s.heap [] := va_S.rf
  have hP : va_P (dC, dI) vwCl [(o, .inr (3, [.ref k, .ref op, .int oto, .ref oq, .ref ov, .ref os])), (op, .inl (cI, 6, .inl ofp)), (os, .inl (cI, 5, .inl ofs)), (k, .inr (0, [.ref ks, .ref kw, .ref kc, .int kwd, .int kbg, .int kme, .ref kq, .ref km, .ref kd, .int ksi, .ref ka, .ref kk])), (ks, .inl (cI, 5, .inl kfs)), (kw, .inl (cI, 14, .inl kfw)), (kq, .inl (cI, 6, .inl kfq)), (km, .inl (cI, 6, .inl kfm)), (kd, .inl (cI, 6, .inl kfd))] s.heap := hP
  have hl := lv_entry ([.ref o, .int i0]) (n := 7) (Nat.le_of_ble_eq_true rfl)
  rw [lg_entry_eq]
  generalize (lg_sl ([.ref o, .int i0]) ++ List.replicate (7 - (lg_sl ([.ref o, .int i0])).length) Slot.unset).toArray = ls at hl ⊢
  have hl : lv_has ls 7 [(0, .ref o), (1, .int i0)] := hl
  have hK := hKx.1
  have hin3 := fun w9 h9 => List.mem_cons_of_mem (Cond.code yX3_leastByTwos cX3_leastByTwos 7 (some .int)) (inlX3 w9 h9)
  have hw0 := hts (.fieldLink RX3 21 "OneCan$Order" "slots" "[I") (List.mem_cons_of_mem _ wm_81)
  have hw1 := hts (.methodLink RX3 64 Lib.Math.min.name) (List.mem_cons_of_mem _ wm_626)
  have hw2 := hts (.static Lib.Math.min.name) (List.mem_cons_of_mem _ wm_275)
  have hw3 := hts (.initialized "java/lang/Math") (List.mem_cons_of_mem _ wm_272)
  have hw4 := hts (.code Lib.Math.min.name Lib.Math.min.code 2 (some .int)) (List.mem_cons_of_mem _ wm_276)
  have hw5 := hts (.fieldLink RX3 9 "OneCan$Order" "portions" "[I") (List.mem_cons_of_mem _ wm_78)
  have hw6 := hts (.fieldLink RX3 24 "OneCan$Order" "camp" "LOneCan$Camp;") (List.mem_cons_of_mem _ wm_82)
  refine lv_iconst (v := 0) hx hb dX3_leastByTwos_0 (by decide) ?_
  refine lv_istore_n (lv' := [(2, .int 0), (0, .ref o), (1, .int i0)]) hx hb dX3_leastByTwos_1 rfl hl (by decide) rfl (fun ls hl => ?_)
  refine lv_iconst (v := 0) hx hb dX3_leastByTwos_2 (by decide) ?_
  refine lv_istore_n (lv' := [(3, .int 0), (2, .int 0), (0, .ref o), (1, .int i0)]) hx hb dX3_leastByTwos_3 rfl hl (by decide) rfl (fun ls hl => ?_)
  have z2 : (0 : Int32).toInt = 0 := rfl
  have z3 : (0 : Int32).toInt = 0 := rfl
  have hl0 := hl
  clear hl
  obtain ⟨H, hHe⟩ : ∃ H : Heap, H = s.heap := ⟨_, rfl⟩
  obtain ⟨locs, hlo⟩ : ∃ l : List Loc, l = [] := ⟨_, rfl⟩
  replace hP : va_P (dC, dI) vwCl [(o, .inr (3, [.ref k, .ref op, .int oto, .ref oq, .ref ov, .ref os])), (op, .inl (cI, 6, .inl ofp)), (os, .inl (cI, 5, .inl ofs)), (k, .inr (0, [.ref ks, .ref kw, .ref kc, .int kwd, .int kbg, .int kme, .ref kq, .ref km, .ref kd, .int ksi, .ref ka, .ref kk])), (ks, .inl (cI, 5, .inl kfs)), (kw, .inl (cI, 14, .inl kfw)), (kq, .inl (cI, 6, .inl kfq)), (km, .inl (cI, 6, .inl kfm)), (kd, .inl (cI, 6, .inl kfd))] H := by rw [hHe]; exact hP
  replace hS : va_S A s.heap H locs := by rw [hHe, hlo]; exact hS
  rw [← hHe, ← hlo]
  clear hHe hlo
  have hP0 := hP
  clear hP
  have hD0 := hD
  clear hD
  obtain ⟨y2, y3, ex, hl, hP, hD⟩ : ∃ (y2 y3 : Int32), (0 ≤ y3.toInt ∧ y3.toInt ≤ 6) ∧ lv_has ls 7 [(3, .int y3), (2, .int y2), (0, .ref o), (1, .int i0)] ∧ va_P (dC, dI) vwCl [(o, .inr (3, [.ref k, .ref op, .int oto, .ref oq, .ref ov, .ref os])), (op, .inl (cI, 6, .inl ofp)), (os, .inl (cI, 5, .inl ofs)), (k, .inr (0, [.ref ks, .ref kw, .ref kc, .int kwd, .int kbg, .int kme, .ref kq, .ref km, .ref kd, .int ksi, .ref ka, .ref kk])), (ks, .inl (cI, 5, .inl kfs)), (kw, .inl (cI, 14, .inl kfw)), (kq, .inl (cI, 6, .inl kfq)), (km, .inl (cI, 6, .inl kfm)), (kd, .inl (cI, 6, .inl kfd))] H ∧ va_D A [(o, .inr (3, [.ref k, .ref op, .int oto, .ref oq, .ref ov, .ref os])), (op, .inl (cI, 6, .inl ofp)), (os, .inl (cI, 5, .inl ofs)), (k, .inr (0, [.ref ks, .ref kw, .ref kc, .int kwd, .int kbg, .int kme, .ref kq, .ref km, .ref kd, .int ksi, .ref ka, .ref kk])), (ks, .inl (cI, 5, .inl kfs)), (kw, .inl (cI, 14, .inl kfw)), (kq, .inl (cI, 6, .inl kfq)), (km, .inl (cI, 6, .inl kfm)), (kd, .inl (cI, 6, .inl kfd))] := ⟨0, 0, by omega, hl0, hP0, hD0⟩
  clear hl0 hP0 hD0
  obtain ⟨n1, hn⟩ : ∃ n : Nat, (n : Int) = 6 - y3.toInt := ⟨(6 - y3.toInt).toNat, by omega⟩
  induction n1 generalizing y2 y3 ls H locs with
  | zero =>
    skip
    refine lv_iload_n hx hb dX3_leastByTwos_4 rfl (lv_at hl 0 rfl) ?_
    refine lv_bipush (v := 6) hx hb dX3_leastByTwos_5 (by decide) ?_
    refine lv_icmp_ge (tgt := 59) hx hb dX3_leastByTwos_7 (by decide) (fun c4 => ?_) (fun c4 => by exfalso; have t4 : y3.toInt < (6 : Int) := (tnle c4); omega)
    refine lv_aload_n hx hb dX3_leastByTwos_59 rfl (lv_at hl 2 rfl) ?_
    refine lv_iload_n hx hb dX3_leastByTwos_60 rfl (lv_at hl 3 rfl) ?_
    refine mx_v (wr := [(op, .inl (cI, 6, .inl ofp)), (kq, .inl (cI, 6, .inl kfq)), (km, .inl (cI, 6, .inl kfm)), (kd, .inl (cI, 6, .inl kfd))]) (va_runV (As := [.int i0]) (rest := []) ⟨hx, hb, hml, hown, hts⟩ (c_X3_countSlots l dC dI cI cZ cK tS aK aV o i0 k op oto oq ov os ofs ks kw kc kwd kbg kme kq km kd ksi ka kk kfs kfw H.size (by first | omega | decide | assumption | trivial) h_kfw (by first | omega | decide | assumption | trivial)) (cwV 1 hts (gw_v (fun _ h9 => List.mem_cons_of_mem _ h9) wm_661 wm_662 wm_663 wm_26 wm_664) rfl rfl rfl (by decide +kernel) ⟨Nat.le_of_ble_eq_true rfl, Nat.le_of_ble_eq_true rfl⟩) (mx_preV (C := RX3) (T := TX3) (N := 6) (ci := 3) hKx hP hD hS hA [0, 2, 3, 4, 5] (by decide) rfl rfl rfl) rfl rfl hl.1 rfl (lv_room (Nat.le_of_ble_eq_true rfl)) dX3_leastByTwos_61 ⟨Nat.le_of_ble_eq_true rfl, Nat.le_of_ble_eq_true rfl⟩) hP hD hS hA [0, 2, 3, 4, 5] [1, 6, 7, 8] rfl rfl (by decide) (by decide) (fun u5 H locs hq5 hP hD hS => ?_)
    replace hP : va_P (dC, dI) vwCl [(op, .inl (cI, 6, .inl ofp)), (kq, .inl (cI, 6, .inl kfq)), (km, .inl (cI, 6, .inl kfm)), (kd, .inl (cI, 6, .inl kfd)), (o, .inr (3, [.ref k, .ref op, .int oto, .ref oq, .ref ov, .ref os])), (os, .inl (cI, 5, .inl (u5.1 0))), (k, .inr (0, [.ref ks, .ref kw, .ref kc, .int kwd, .int kbg, .int kme, .ref kq, .ref km, .ref kd, .int ksi, .ref ka, .ref kk])), (ks, .inl (cI, 5, .inl kfs)), (kw, .inl (cI, 14, .inl kfw))] H := hP
    replace hD : va_D A [(op, .inl (cI, 6, .inl ofp)), (kq, .inl (cI, 6, .inl kfq)), (km, .inl (cI, 6, .inl kfm)), (kd, .inl (cI, 6, .inl kfd)), (o, .inr (3, [.ref k, .ref op, .int oto, .ref oq, .ref ov, .ref os])), (os, .inl (cI, 5, .inl (u5.1 0))), (k, .inr (0, [.ref ks, .ref kw, .ref kc, .int kwd, .int kbg, .int kme, .ref kq, .ref km, .ref kd, .int ksi, .ref ka, .ref kk])), (ks, .inl (cI, 5, .inl kfs)), (kw, .inl (cI, 14, .inl kfw))] := hD
    refine lv_iconst (v := 4) hx hb dX3_leastByTwos_64 (by decide) ?_
    refine lv_istore_n (lv' := [(3, .int 4), (2, .int y2), (0, .ref o), (1, .int i0)]) hx hb dX3_leastByTwos_65 rfl hl (by decide) rfl (fun ls hl => ?_)
    refine lv_iload_n hx hb dX3_leastByTwos_66 rfl (lv_at hl 0 rfl) ?_
    refine lv_iconst (v := 1) hx hb dX3_leastByTwos_67 (by decide) ?_
    refine lv_icmp_lt (tgt := 153) hx hb dX3_leastByTwos_68 (by decide) (fun c6 => absurd c6 (by decide)) (fun c6 => ?_)
    refine lv_aload_n hx hb dX3_leastByTwos_71 rfl (lv_at hl 2 rfl) ?_
    refine lv_iload_n hx hb dX3_leastByTwos_72 rfl (lv_at hl 0 rfl) ?_
    refine mx_i (wr := [(km, .inl (cI, 6, .inl kfm)), (kd, .inl (cI, 6, .inl kfd)), (os, .inl (cI, 5, .inl (u5.1 0))), (ks, .inl (cI, 5, .inl kfs)), (kw, .inl (cI, 14, .inl kfw))]) (va_runV (As := [.int 4]) (rest := []) ⟨hx, hb, hml, hown, hts⟩ (c_X3_portionsOf l dC dI cI cZ cK tS aK aV o 4 k op oto oq ov os ofp ks kw kc kwd kbg kme kq km kd ksi ka kk kfq H.size h_ofp) (cwV 1 hts (gw_v (fun _ h9 => List.mem_cons_of_mem _ h9) wm_665 wm_666 wm_667 wm_26 wm_668) rfl rfl rfl (by decide +kernel) ⟨Nat.le_of_ble_eq_true rfl, Nat.le_of_ble_eq_true rfl⟩) (mx_preV (C := RX3) (T := TX3) (N := 6) (ci := 3) hKx hP hD hS hA [4, 0, 6, 1] (by decide) rfl rfl rfl) rfl rfl hl.1 rfl (lv_room (Nat.le_of_ble_eq_true rfl)) dX3_leastByTwos_73 ⟨Nat.le_of_ble_eq_true rfl, Nat.le_of_ble_eq_true rfl⟩) hP hD hS hA [4, 0, 6, 1] [2, 3, 5, 7, 8] rfl rfl (by decide) (by decide) (fun r7 u7 H locs hq7 hP hD hS => ?_)
    replace hP : va_P (dC, dI) vwCl [(km, .inl (cI, 6, .inl kfm)), (kd, .inl (cI, 6, .inl kfd)), (os, .inl (cI, 5, .inl (u5.1 0))), (ks, .inl (cI, 5, .inl kfs)), (kw, .inl (cI, 14, .inl kfw)), (o, .inr (3, [.ref k, .ref op, .int oto, .ref oq, .ref ov, .ref os])), (op, .inl (cI, 6, .inl ofp)), (k, .inr (0, [.ref ks, .ref kw, .ref kc, .int kwd, .int kbg, .int kme, .ref kq, .ref km, .ref kd, .int ksi, .ref ka, .ref kk])), (kq, .inl (cI, 6, .inl kfq))] H := hP
    replace hD : va_D A [(km, .inl (cI, 6, .inl kfm)), (kd, .inl (cI, 6, .inl kfd)), (os, .inl (cI, 5, .inl (u5.1 0))), (ks, .inl (cI, 5, .inl kfs)), (kw, .inl (cI, 14, .inl kfw)), (o, .inr (3, [.ref k, .ref op, .int oto, .ref oq, .ref ov, .ref os])), (op, .inl (cI, 6, .inl ofp)), (k, .inr (0, [.ref ks, .ref kw, .ref kc, .int kwd, .int kbg, .int kme, .ref kq, .ref km, .ref kd, .int ksi, .ref ka, .ref kk])), (kq, .inl (cI, 6, .inl kfq))] := hD
    refine lv_istore (lv' := [(4, .int r7), (3, .int 4), (2, .int y2), (0, .ref o), (1, .int i0)]) hx hb dX3_leastByTwos_76 hl (by decide) rfl (fun ls hl => ?_)
    refine lv_iconst (v := 0) hx hb dX3_leastByTwos_78 (by decide) ?_
    refine lv_istore (lv' := [(5, .int 0), (4, .int r7), (3, .int 4), (2, .int y2), (0, .ref o), (1, .int i0)]) hx hb dX3_leastByTwos_79 hl (by decide) rfl (fun ls hl => ?_)
    refine lv_iload hx hb dX3_leastByTwos_81 (lv_at hl 0 rfl) ?_
    refine lv_iconst (v := 4) hx hb dX3_leastByTwos_83 (by decide) ?_
    refine lv_icmp_gt (tgt := 139) hx hb dX3_leastByTwos_84 (by decide) (fun c8 => absurd c8 (by decide)) (fun c8 => ?_)
    refine lv_iload hx hb dX3_leastByTwos_87 (lv_at hl 1 rfl) ?_
    refine lv_aload_n hx hb dX3_leastByTwos_89 rfl (lv_at hl 4 rfl) ?_
    refine va_get (D := (dC, dI)) (ci := 3) (v := .ref os) (C := RX3) (T := TX3) (N := 6) hx hb hts hin3 hown hK hP 5 rfl rfl 5 (by decide) hw0 (fun _ h9 => h9) rfl dX3_leastByTwos_90 ?_
    refine lv_iload hx hb dX3_leastByTwos_93 (lv_at hl 0 rfl) ?_
    refine va_iald hx hb hK hP 2 0 rfl rfl (vin (by decide) (by decide)) dX3_leastByTwos_95 ?_
    refine lv_topi (fun x9 e9 => ?_)
    refine va_mmin hx hb (hml.trans hl.1.symm) hown hw1 hw2 hw3 hw4 (Nat.le_of_ble_eq_true rfl) (Nat.le_of_ble_eq_true rfl) (Nat.le_of_ble_eq_true rfl) (Nat.le_of_ble_eq_true rfl) dX3_leastByTwos_96 ?_
    refine lv_topi (fun x10 e10 => ?_)
    have f10 : x10.toInt ≤ r7.toInt ∧ x10.toInt ≤ x9.toInt ∧ (x10.toInt = r7.toInt ∨ x10.toInt = x9.toInt) := by rw [e10]; exact mmmin_t
    refine lv_istore (lv' := [(6, .int x10), (5, .int 0), (4, .int r7), (3, .int 4), (2, .int y2), (0, .ref o), (1, .int i0)]) hx hb dX3_leastByTwos_99 hl (by decide) rfl (fun ls hl => ?_)
    refine lv_aload_n hx hb dX3_leastByTwos_101 rfl (lv_at hl 5 rfl) ?_
    refine va_get (D := (dC, dI)) (ci := 3) (v := .ref os) (C := RX3) (T := TX3) (N := 6) hx hb hts hin3 hown hK hP 5 rfl rfl 5 (by decide) hw0 (fun _ h9 => h9) rfl dX3_leastByTwos_102 ?_
    refine lv_iload hx hb dX3_leastByTwos_105 (lv_at hl 1 rfl) ?_
    refine lv_dup2_11 hx hb dX3_leastByTwos_107 rfl rfl ?_
    refine va_iald hx hb hK hP 2 0 rfl rfl (vin (by decide) (by decide)) dX3_leastByTwos_108 ?_
    refine lv_topi (fun x11 e11 => ?_)
    refine lv_iload hx hb dX3_leastByTwos_109 (lv_at hl 0 rfl) ?_
    refine lv_isub hx hb dX3_leastByTwos_111 ?_
    refine lv_topi (fun x12 e12 => ?_)
    refine va_iast hx hb hK hP hD hS 2 0 rfl rfl (vin (by decide) (by decide)) dX3_leastByTwos_112 (fun H locs hP hD hS => ?_)
    replace hP : va_P (dC, dI) vwCl [(km, .inl (cI, 6, .inl kfm)), (kd, .inl (cI, 6, .inl kfd)), (os, .inl (cI, 5, .inl (upd (u5.1 0) 0 x12))), (ks, .inl (cI, 5, .inl kfs)), (kw, .inl (cI, 14, .inl kfw)), (o, .inr (3, [.ref k, .ref op, .int oto, .ref oq, .ref ov, .ref os])), (op, .inl (cI, 6, .inl ofp)), (k, .inr (0, [.ref ks, .ref kw, .ref kc, .int kwd, .int kbg, .int kme, .ref kq, .ref km, .ref kd, .int ksi, .ref ka, .ref kk])), (kq, .inl (cI, 6, .inl kfq))] H := hP
    replace hD : va_D A [(km, .inl (cI, 6, .inl kfm)), (kd, .inl (cI, 6, .inl kfd)), (os, .inl (cI, 5, .inl (upd (u5.1 0) 0 x12))), (ks, .inl (cI, 5, .inl kfs)), (kw, .inl (cI, 14, .inl kfw)), (o, .inr (3, [.ref k, .ref op, .int oto, .ref oq, .ref ov, .ref os])), (op, .inl (cI, 6, .inl ofp)), (k, .inr (0, [.ref ks, .ref kw, .ref kc, .int kwd, .int kbg, .int kme, .ref kq, .ref km, .ref kd, .int ksi, .ref ka, .ref kk])), (kq, .inl (cI, 6, .inl kfq))] := hD
    refine lv_iload hx hb dX3_leastByTwos_113 (lv_at hl 2 rfl) ?_
    refine lv_iload hx hb dX3_leastByTwos_115 (lv_at hl 0 rfl) ?_
    refine lv_isub hx hb dX3_leastByTwos_117 ?_
    refine lv_topi (fun x13 e13 => ?_)
    refine lv_istore (lv' := [(4, .int x13), (6, .int x10), (5, .int 0), (3, .int 4), (2, .int y2), (0, .ref o), (1, .int i0)]) hx hb dX3_leastByTwos_118 hl (by decide) rfl (fun ls hl => ?_)
    refine lv_iload_n hx hb dX3_leastByTwos_120 rfl (lv_at hl 4 rfl) ?_
    refine lv_iload hx hb dX3_leastByTwos_121 (lv_at hl 1 rfl) ?_
    refine lv_bipush (v := 11) hx hb dX3_leastByTwos_123 (by decide) ?_
    refine lv_imul hx hb dX3_leastByTwos_125 ?_
    refine lv_topi (fun x14 e14 => ?_)
    refine lv_iload_n hx hb dX3_leastByTwos_126 rfl (lv_at hl 3 rfl) ?_
    refine lv_imul hx hb dX3_leastByTwos_127 ?_
    refine lv_topi (fun x15 e15 => ?_)
    refine lv_iload hx hb dX3_leastByTwos_128 (lv_at hl 2 rfl) ?_
    refine lv_imul hx hb dX3_leastByTwos_130 ?_
    refine lv_topi (fun x16 e16 => ?_)
    obtain rfl : x16 = 0 := e16.trans (by simp)
    refine lv_iadd hx hb dX3_leastByTwos_131 ?_
    refine lv_topi (fun y17 e17 => ?_)
    obtain rfl : y2 = y17 := (e17.trans (by simp)).symm
    refine lv_istore_n (lv' := [(2, .int y2), (4, .int x13), (6, .int x10), (5, .int 0), (3, .int 4), (0, .ref o), (1, .int i0)]) hx hb dX3_leastByTwos_132 rfl hl (by decide) rfl (fun ls hl => ?_)
    refine lv_iinc (v := 1) (lv' := [(5, .int 1), (2, .int y2), (4, .int x13), (6, .int x10), (3, .int 4), (0, .ref o), (1, .int i0)]) hx hb dX3_leastByTwos_133 hl (k := 3) rfl (by decide) (by decide) rfl (fun ls hl => ?_)
    refine lv_goto (tgt := 81) hx hb dX3_leastByTwos_136 (by decide) ?_
    refine lv_iload hx hb dX3_leastByTwos_81 (lv_at hl 0 rfl) ?_
    refine lv_iconst (v := 4) hx hb dX3_leastByTwos_83 (by decide) ?_
    refine lv_icmp_gt (tgt := 139) hx hb dX3_leastByTwos_84 (by decide) (fun c18 => absurd c18 (by decide)) (fun c18 => ?_)
    refine lv_iload hx hb dX3_leastByTwos_87 (lv_at hl 2 rfl) ?_
    refine lv_aload_n hx hb dX3_leastByTwos_89 rfl (lv_at hl 5 rfl) ?_
    refine va_get (D := (dC, dI)) (ci := 3) (v := .ref os) (C := RX3) (T := TX3) (N := 6) hx hb hts hin3 hown hK hP 5 rfl rfl 5 (by decide) hw0 (fun _ h9 => h9) rfl dX3_leastByTwos_90 ?_
    refine lv_iload hx hb dX3_leastByTwos_93 (lv_at hl 0 rfl) ?_
    refine va_iald hx hb hK hP 2 0 rfl rfl (vin (by decide) (by decide)) dX3_leastByTwos_95 ?_
    refine lv_topi (fun x19 e19 => ?_)
    refine va_mmin hx hb (hml.trans hl.1.symm) hown hw1 hw2 hw3 hw4 (Nat.le_of_ble_eq_true rfl) (Nat.le_of_ble_eq_true rfl) (Nat.le_of_ble_eq_true rfl) (Nat.le_of_ble_eq_true rfl) dX3_leastByTwos_96 ?_
    refine lv_topi (fun x20 e20 => ?_)
    have f20 : x20.toInt ≤ x13.toInt ∧ x20.toInt ≤ x19.toInt ∧ (x20.toInt = x13.toInt ∨ x20.toInt = x19.toInt) := by rw [e20]; exact mmmin_t
    refine lv_istore (lv' := [(6, .int x20), (5, .int 1), (2, .int y2), (4, .int x13), (3, .int 4), (0, .ref o), (1, .int i0)]) hx hb dX3_leastByTwos_99 hl (by decide) rfl (fun ls hl => ?_)
    refine lv_aload_n hx hb dX3_leastByTwos_101 rfl (lv_at hl 5 rfl) ?_
    refine va_get (D := (dC, dI)) (ci := 3) (v := .ref os) (C := RX3) (T := TX3) (N := 6) hx hb hts hin3 hown hK hP 5 rfl rfl 5 (by decide) hw0 (fun _ h9 => h9) rfl dX3_leastByTwos_102 ?_
    refine lv_iload hx hb dX3_leastByTwos_105 (lv_at hl 1 rfl) ?_
    refine lv_dup2_11 hx hb dX3_leastByTwos_107 rfl rfl ?_
    refine va_iald hx hb hK hP 2 0 rfl rfl (vin (by decide) (by decide)) dX3_leastByTwos_108 ?_
    refine lv_topi (fun x21 e21 => ?_)
    refine lv_iload hx hb dX3_leastByTwos_109 (lv_at hl 0 rfl) ?_
    refine lv_isub hx hb dX3_leastByTwos_111 ?_
    refine lv_topi (fun x22 e22 => ?_)
    refine va_iast hx hb hK hP hD hS 2 0 rfl rfl (vin (by decide) (by decide)) dX3_leastByTwos_112 (fun H locs hP hD hS => ?_)
    replace hP : va_P (dC, dI) vwCl [(km, .inl (cI, 6, .inl kfm)), (kd, .inl (cI, 6, .inl kfd)), (os, .inl (cI, 5, .inl (upd (upd (u5.1 0) 0 x12) 1 x22))), (ks, .inl (cI, 5, .inl kfs)), (kw, .inl (cI, 14, .inl kfw)), (o, .inr (3, [.ref k, .ref op, .int oto, .ref oq, .ref ov, .ref os])), (op, .inl (cI, 6, .inl ofp)), (k, .inr (0, [.ref ks, .ref kw, .ref kc, .int kwd, .int kbg, .int kme, .ref kq, .ref km, .ref kd, .int ksi, .ref ka, .ref kk])), (kq, .inl (cI, 6, .inl kfq))] H := hP
    replace hD : va_D A [(km, .inl (cI, 6, .inl kfm)), (kd, .inl (cI, 6, .inl kfd)), (os, .inl (cI, 5, .inl (upd (upd (u5.1 0) 0 x12) 1 x22))), (ks, .inl (cI, 5, .inl kfs)), (kw, .inl (cI, 14, .inl kfw)), (o, .inr (3, [.ref k, .ref op, .int oto, .ref oq, .ref ov, .ref os])), (op, .inl (cI, 6, .inl ofp)), (k, .inr (0, [.ref ks, .ref kw, .ref kc, .int kwd, .int kbg, .int kme, .ref kq, .ref km, .ref kd, .int ksi, .ref ka, .ref kk])), (kq, .inl (cI, 6, .inl kfq))] := hD
    refine lv_iload hx hb dX3_leastByTwos_113 (lv_at hl 3 rfl) ?_
    refine lv_iload hx hb dX3_leastByTwos_115 (lv_at hl 0 rfl) ?_
    refine lv_isub hx hb dX3_leastByTwos_117 ?_
    refine lv_topi (fun x23 e23 => ?_)
    refine lv_istore (lv' := [(4, .int x23), (6, .int x20), (5, .int 1), (2, .int y2), (3, .int 4), (0, .ref o), (1, .int i0)]) hx hb dX3_leastByTwos_118 hl (by decide) rfl (fun ls hl => ?_)
    refine lv_iload_n hx hb dX3_leastByTwos_120 rfl (lv_at hl 3 rfl) ?_
    refine lv_iload hx hb dX3_leastByTwos_121 (lv_at hl 1 rfl) ?_
    refine lv_bipush (v := 11) hx hb dX3_leastByTwos_123 (by decide) ?_
    refine lv_imul hx hb dX3_leastByTwos_125 ?_
    refine lv_topi (fun x24 e24 => ?_)
    refine lv_iload_n hx hb dX3_leastByTwos_126 rfl (lv_at hl 4 rfl) ?_
    refine lv_imul hx hb dX3_leastByTwos_127 ?_
    refine lv_topi (fun x25 e25 => ?_)
    refine lv_iload hx hb dX3_leastByTwos_128 (lv_at hl 2 rfl) ?_
    refine lv_imul hx hb dX3_leastByTwos_130 ?_
    refine lv_topi (fun x26 e26 => ?_)
    refine lv_iadd hx hb dX3_leastByTwos_131 ?_
    refine lv_topi (fun x27 e27 => ?_)
    refine lv_istore_n (lv' := [(2, .int x27), (4, .int x23), (6, .int x20), (5, .int 1), (3, .int 4), (0, .ref o), (1, .int i0)]) hx hb dX3_leastByTwos_132 rfl hl (by decide) rfl (fun ls hl => ?_)
    refine lv_iinc (v := 2) (lv' := [(5, .int 2), (2, .int x27), (4, .int x23), (6, .int x20), (3, .int 4), (0, .ref o), (1, .int i0)]) hx hb dX3_leastByTwos_133 hl (k := 3) rfl (by decide) (by decide) rfl (fun ls hl => ?_)
    refine lv_goto (tgt := 81) hx hb dX3_leastByTwos_136 (by decide) ?_
    refine lv_iload hx hb dX3_leastByTwos_81 (lv_at hl 0 rfl) ?_
    refine lv_iconst (v := 4) hx hb dX3_leastByTwos_83 (by decide) ?_
    refine lv_icmp_gt (tgt := 139) hx hb dX3_leastByTwos_84 (by decide) (fun c28 => absurd c28 (by decide)) (fun c28 => ?_)
    refine lv_iload hx hb dX3_leastByTwos_87 (lv_at hl 2 rfl) ?_
    refine lv_aload_n hx hb dX3_leastByTwos_89 rfl (lv_at hl 5 rfl) ?_
    refine va_get (D := (dC, dI)) (ci := 3) (v := .ref os) (C := RX3) (T := TX3) (N := 6) hx hb hts hin3 hown hK hP 5 rfl rfl 5 (by decide) hw0 (fun _ h9 => h9) rfl dX3_leastByTwos_90 ?_
    refine lv_iload hx hb dX3_leastByTwos_93 (lv_at hl 0 rfl) ?_
    refine va_iald hx hb hK hP 2 0 rfl rfl (vin (by decide) (by decide)) dX3_leastByTwos_95 ?_
    refine lv_topi (fun x29 e29 => ?_)
    refine va_mmin hx hb (hml.trans hl.1.symm) hown hw1 hw2 hw3 hw4 (Nat.le_of_ble_eq_true rfl) (Nat.le_of_ble_eq_true rfl) (Nat.le_of_ble_eq_true rfl) (Nat.le_of_ble_eq_true rfl) dX3_leastByTwos_96 ?_
    refine lv_topi (fun x30 e30 => ?_)
    have f30 : x30.toInt ≤ x23.toInt ∧ x30.toInt ≤ x29.toInt ∧ (x30.toInt = x23.toInt ∨ x30.toInt = x29.toInt) := by rw [e30]; exact mmmin_t
    refine lv_istore (lv' := [(6, .int x30), (5, .int 2), (2, .int x27), (4, .int x23), (3, .int 4), (0, .ref o), (1, .int i0)]) hx hb dX3_leastByTwos_99 hl (by decide) rfl (fun ls hl => ?_)
    refine lv_aload_n hx hb dX3_leastByTwos_101 rfl (lv_at hl 5 rfl) ?_
    refine va_get (D := (dC, dI)) (ci := 3) (v := .ref os) (C := RX3) (T := TX3) (N := 6) hx hb hts hin3 hown hK hP 5 rfl rfl 5 (by decide) hw0 (fun _ h9 => h9) rfl dX3_leastByTwos_102 ?_
    refine lv_iload hx hb dX3_leastByTwos_105 (lv_at hl 1 rfl) ?_
    refine lv_dup2_11 hx hb dX3_leastByTwos_107 rfl rfl ?_
    refine va_iald hx hb hK hP 2 0 rfl rfl (vin (by decide) (by decide)) dX3_leastByTwos_108 ?_
    refine lv_topi (fun x31 e31 => ?_)
    refine lv_iload hx hb dX3_leastByTwos_109 (lv_at hl 0 rfl) ?_
    refine lv_isub hx hb dX3_leastByTwos_111 ?_
    refine lv_topi (fun x32 e32 => ?_)
    refine va_iast hx hb hK hP hD hS 2 0 rfl rfl (vin (by decide) (by decide)) dX3_leastByTwos_112 (fun H locs hP hD hS => ?_)
    replace hP : va_P (dC, dI) vwCl [(km, .inl (cI, 6, .inl kfm)), (kd, .inl (cI, 6, .inl kfd)), (os, .inl (cI, 5, .inl (upd (upd (upd (u5.1 0) 0 x12) 1 x22) 2 x32))), (ks, .inl (cI, 5, .inl kfs)), (kw, .inl (cI, 14, .inl kfw)), (o, .inr (3, [.ref k, .ref op, .int oto, .ref oq, .ref ov, .ref os])), (op, .inl (cI, 6, .inl ofp)), (k, .inr (0, [.ref ks, .ref kw, .ref kc, .int kwd, .int kbg, .int kme, .ref kq, .ref km, .ref kd, .int ksi, .ref ka, .ref kk])), (kq, .inl (cI, 6, .inl kfq))] H := hP
    replace hD : va_D A [(km, .inl (cI, 6, .inl kfm)), (kd, .inl (cI, 6, .inl kfd)), (os, .inl (cI, 5, .inl (upd (upd (upd (u5.1 0) 0 x12) 1 x22) 2 x32))), (ks, .inl (cI, 5, .inl kfs)), (kw, .inl (cI, 14, .inl kfw)), (o, .inr (3, [.ref k, .ref op, .int oto, .ref oq, .ref ov, .ref os])), (op, .inl (cI, 6, .inl ofp)), (k, .inr (0, [.ref ks, .ref kw, .ref kc, .int kwd, .int kbg, .int kme, .ref kq, .ref km, .ref kd, .int ksi, .ref ka, .ref kk])), (kq, .inl (cI, 6, .inl kfq))] := hD
    refine lv_iload hx hb dX3_leastByTwos_113 (lv_at hl 3 rfl) ?_
    refine lv_iload hx hb dX3_leastByTwos_115 (lv_at hl 0 rfl) ?_
    refine lv_isub hx hb dX3_leastByTwos_117 ?_
    refine lv_topi (fun x33 e33 => ?_)
    refine lv_istore (lv' := [(4, .int x33), (6, .int x30), (5, .int 2), (2, .int x27), (3, .int 4), (0, .ref o), (1, .int i0)]) hx hb dX3_leastByTwos_118 hl (by decide) rfl (fun ls hl => ?_)
    refine lv_iload_n hx hb dX3_leastByTwos_120 rfl (lv_at hl 3 rfl) ?_
    refine lv_iload hx hb dX3_leastByTwos_121 (lv_at hl 1 rfl) ?_
    refine lv_bipush (v := 11) hx hb dX3_leastByTwos_123 (by decide) ?_
    refine lv_imul hx hb dX3_leastByTwos_125 ?_
    refine lv_topi (fun x34 e34 => ?_)
    refine lv_iload_n hx hb dX3_leastByTwos_126 rfl (lv_at hl 4 rfl) ?_
    refine lv_imul hx hb dX3_leastByTwos_127 ?_
    refine lv_topi (fun x35 e35 => ?_)
    refine lv_iload hx hb dX3_leastByTwos_128 (lv_at hl 2 rfl) ?_
    refine lv_imul hx hb dX3_leastByTwos_130 ?_
    refine lv_topi (fun x36 e36 => ?_)
    refine lv_iadd hx hb dX3_leastByTwos_131 ?_
    refine lv_topi (fun x37 e37 => ?_)
    refine lv_istore_n (lv' := [(2, .int x37), (4, .int x33), (6, .int x30), (5, .int 2), (3, .int 4), (0, .ref o), (1, .int i0)]) hx hb dX3_leastByTwos_132 rfl hl (by decide) rfl (fun ls hl => ?_)
    refine lv_iinc (v := 3) (lv' := [(5, .int 3), (2, .int x37), (4, .int x33), (6, .int x30), (3, .int 4), (0, .ref o), (1, .int i0)]) hx hb dX3_leastByTwos_133 hl (k := 3) rfl (by decide) (by decide) rfl (fun ls hl => ?_)
    refine lv_goto (tgt := 81) hx hb dX3_leastByTwos_136 (by decide) ?_
    refine lv_iload hx hb dX3_leastByTwos_81 (lv_at hl 0 rfl) ?_
    refine lv_iconst (v := 4) hx hb dX3_leastByTwos_83 (by decide) ?_
    refine lv_icmp_gt (tgt := 139) hx hb dX3_leastByTwos_84 (by decide) (fun c38 => absurd c38 (by decide)) (fun c38 => ?_)
    refine lv_iload hx hb dX3_leastByTwos_87 (lv_at hl 2 rfl) ?_
    refine lv_aload_n hx hb dX3_leastByTwos_89 rfl (lv_at hl 5 rfl) ?_
    refine va_get (D := (dC, dI)) (ci := 3) (v := .ref os) (C := RX3) (T := TX3) (N := 6) hx hb hts hin3 hown hK hP 5 rfl rfl 5 (by decide) hw0 (fun _ h9 => h9) rfl dX3_leastByTwos_90 ?_
    refine lv_iload hx hb dX3_leastByTwos_93 (lv_at hl 0 rfl) ?_
    refine va_iald hx hb hK hP 2 0 rfl rfl (vin (by decide) (by decide)) dX3_leastByTwos_95 ?_
    refine lv_topi (fun x39 e39 => ?_)
    refine va_mmin hx hb (hml.trans hl.1.symm) hown hw1 hw2 hw3 hw4 (Nat.le_of_ble_eq_true rfl) (Nat.le_of_ble_eq_true rfl) (Nat.le_of_ble_eq_true rfl) (Nat.le_of_ble_eq_true rfl) dX3_leastByTwos_96 ?_
    refine lv_topi (fun x40 e40 => ?_)
    have f40 : x40.toInt ≤ x33.toInt ∧ x40.toInt ≤ x39.toInt ∧ (x40.toInt = x33.toInt ∨ x40.toInt = x39.toInt) := by rw [e40]; exact mmmin_t
    refine lv_istore (lv' := [(6, .int x40), (5, .int 3), (2, .int x37), (4, .int x33), (3, .int 4), (0, .ref o), (1, .int i0)]) hx hb dX3_leastByTwos_99 hl (by decide) rfl (fun ls hl => ?_)
    refine lv_aload_n hx hb dX3_leastByTwos_101 rfl (lv_at hl 5 rfl) ?_
    refine va_get (D := (dC, dI)) (ci := 3) (v := .ref os) (C := RX3) (T := TX3) (N := 6) hx hb hts hin3 hown hK hP 5 rfl rfl 5 (by decide) hw0 (fun _ h9 => h9) rfl dX3_leastByTwos_102 ?_
    refine lv_iload hx hb dX3_leastByTwos_105 (lv_at hl 1 rfl) ?_
    refine lv_dup2_11 hx hb dX3_leastByTwos_107 rfl rfl ?_
    refine va_iald hx hb hK hP 2 0 rfl rfl (vin (by decide) (by decide)) dX3_leastByTwos_108 ?_
    refine lv_topi (fun x41 e41 => ?_)
    refine lv_iload hx hb dX3_leastByTwos_109 (lv_at hl 0 rfl) ?_
    refine lv_isub hx hb dX3_leastByTwos_111 ?_
    refine lv_topi (fun x42 e42 => ?_)
    refine va_iast hx hb hK hP hD hS 2 0 rfl rfl (vin (by decide) (by decide)) dX3_leastByTwos_112 (fun H locs hP hD hS => ?_)
    replace hP : va_P (dC, dI) vwCl [(km, .inl (cI, 6, .inl kfm)), (kd, .inl (cI, 6, .inl kfd)), (os, .inl (cI, 5, .inl (upd (upd (upd (upd (u5.1 0) 0 x12) 1 x22) 2 x32) 3 x42))), (ks, .inl (cI, 5, .inl kfs)), (kw, .inl (cI, 14, .inl kfw)), (o, .inr (3, [.ref k, .ref op, .int oto, .ref oq, .ref ov, .ref os])), (op, .inl (cI, 6, .inl ofp)), (k, .inr (0, [.ref ks, .ref kw, .ref kc, .int kwd, .int kbg, .int kme, .ref kq, .ref km, .ref kd, .int ksi, .ref ka, .ref kk])), (kq, .inl (cI, 6, .inl kfq))] H := hP
    replace hD : va_D A [(km, .inl (cI, 6, .inl kfm)), (kd, .inl (cI, 6, .inl kfd)), (os, .inl (cI, 5, .inl (upd (upd (upd (upd (u5.1 0) 0 x12) 1 x22) 2 x32) 3 x42))), (ks, .inl (cI, 5, .inl kfs)), (kw, .inl (cI, 14, .inl kfw)), (o, .inr (3, [.ref k, .ref op, .int oto, .ref oq, .ref ov, .ref os])), (op, .inl (cI, 6, .inl ofp)), (k, .inr (0, [.ref ks, .ref kw, .ref kc, .int kwd, .int kbg, .int kme, .ref kq, .ref km, .ref kd, .int ksi, .ref ka, .ref kk])), (kq, .inl (cI, 6, .inl kfq))] := hD
    refine lv_iload hx hb dX3_leastByTwos_113 (lv_at hl 3 rfl) ?_
    refine lv_iload hx hb dX3_leastByTwos_115 (lv_at hl 0 rfl) ?_
    refine lv_isub hx hb dX3_leastByTwos_117 ?_
    refine lv_topi (fun x43 e43 => ?_)
    refine lv_istore (lv' := [(4, .int x43), (6, .int x40), (5, .int 3), (2, .int x37), (3, .int 4), (0, .ref o), (1, .int i0)]) hx hb dX3_leastByTwos_118 hl (by decide) rfl (fun ls hl => ?_)
    refine lv_iload_n hx hb dX3_leastByTwos_120 rfl (lv_at hl 3 rfl) ?_
    refine lv_iload hx hb dX3_leastByTwos_121 (lv_at hl 1 rfl) ?_
    refine lv_bipush (v := 11) hx hb dX3_leastByTwos_123 (by decide) ?_
    refine lv_imul hx hb dX3_leastByTwos_125 ?_
    refine lv_topi (fun x44 e44 => ?_)
    refine lv_iload_n hx hb dX3_leastByTwos_126 rfl (lv_at hl 4 rfl) ?_
    refine lv_imul hx hb dX3_leastByTwos_127 ?_
    refine lv_topi (fun x45 e45 => ?_)
    refine lv_iload hx hb dX3_leastByTwos_128 (lv_at hl 2 rfl) ?_
    refine lv_imul hx hb dX3_leastByTwos_130 ?_
    refine lv_topi (fun x46 e46 => ?_)
    refine lv_iadd hx hb dX3_leastByTwos_131 ?_
    refine lv_topi (fun x47 e47 => ?_)
    refine lv_istore_n (lv' := [(2, .int x47), (4, .int x43), (6, .int x40), (5, .int 3), (3, .int 4), (0, .ref o), (1, .int i0)]) hx hb dX3_leastByTwos_132 rfl hl (by decide) rfl (fun ls hl => ?_)
    refine lv_iinc (v := 4) (lv' := [(5, .int 4), (2, .int x47), (4, .int x43), (6, .int x40), (3, .int 4), (0, .ref o), (1, .int i0)]) hx hb dX3_leastByTwos_133 hl (k := 3) rfl (by decide) (by decide) rfl (fun ls hl => ?_)
    refine lv_goto (tgt := 81) hx hb dX3_leastByTwos_136 (by decide) ?_
    refine lv_iload hx hb dX3_leastByTwos_81 (lv_at hl 0 rfl) ?_
    refine lv_iconst (v := 4) hx hb dX3_leastByTwos_83 (by decide) ?_
    refine lv_icmp_gt (tgt := 139) hx hb dX3_leastByTwos_84 (by decide) (fun c48 => absurd c48 (by decide)) (fun c48 => ?_)
    refine lv_iload hx hb dX3_leastByTwos_87 (lv_at hl 2 rfl) ?_
    refine lv_aload_n hx hb dX3_leastByTwos_89 rfl (lv_at hl 5 rfl) ?_
    refine va_get (D := (dC, dI)) (ci := 3) (v := .ref os) (C := RX3) (T := TX3) (N := 6) hx hb hts hin3 hown hK hP 5 rfl rfl 5 (by decide) hw0 (fun _ h9 => h9) rfl dX3_leastByTwos_90 ?_
    refine lv_iload hx hb dX3_leastByTwos_93 (lv_at hl 0 rfl) ?_
    refine va_iald hx hb hK hP 2 0 rfl rfl (vin (by decide) (by decide)) dX3_leastByTwos_95 ?_
    refine lv_topi (fun x49 e49 => ?_)
    refine va_mmin hx hb (hml.trans hl.1.symm) hown hw1 hw2 hw3 hw4 (Nat.le_of_ble_eq_true rfl) (Nat.le_of_ble_eq_true rfl) (Nat.le_of_ble_eq_true rfl) (Nat.le_of_ble_eq_true rfl) dX3_leastByTwos_96 ?_
    refine lv_topi (fun x50 e50 => ?_)
    have f50 : x50.toInt ≤ x43.toInt ∧ x50.toInt ≤ x49.toInt ∧ (x50.toInt = x43.toInt ∨ x50.toInt = x49.toInt) := by rw [e50]; exact mmmin_t
    refine lv_istore (lv' := [(6, .int x50), (5, .int 4), (2, .int x47), (4, .int x43), (3, .int 4), (0, .ref o), (1, .int i0)]) hx hb dX3_leastByTwos_99 hl (by decide) rfl (fun ls hl => ?_)
    refine lv_aload_n hx hb dX3_leastByTwos_101 rfl (lv_at hl 5 rfl) ?_
    refine va_get (D := (dC, dI)) (ci := 3) (v := .ref os) (C := RX3) (T := TX3) (N := 6) hx hb hts hin3 hown hK hP 5 rfl rfl 5 (by decide) hw0 (fun _ h9 => h9) rfl dX3_leastByTwos_102 ?_
    refine lv_iload hx hb dX3_leastByTwos_105 (lv_at hl 1 rfl) ?_
    refine lv_dup2_11 hx hb dX3_leastByTwos_107 rfl rfl ?_
    refine va_iald hx hb hK hP 2 0 rfl rfl (vin (by decide) (by decide)) dX3_leastByTwos_108 ?_
    refine lv_topi (fun x51 e51 => ?_)
    refine lv_iload hx hb dX3_leastByTwos_109 (lv_at hl 0 rfl) ?_
    refine lv_isub hx hb dX3_leastByTwos_111 ?_
    refine lv_topi (fun x52 e52 => ?_)
    refine va_iast hx hb hK hP hD hS 2 0 rfl rfl (vin (by decide) (by decide)) dX3_leastByTwos_112 (fun H locs hP hD hS => ?_)
    replace hP : va_P (dC, dI) vwCl [(km, .inl (cI, 6, .inl kfm)), (kd, .inl (cI, 6, .inl kfd)), (os, .inl (cI, 5, .inl (upd (upd (upd (upd (upd (u5.1 0) 0 x12) 1 x22) 2 x32) 3 x42) 4 x52))), (ks, .inl (cI, 5, .inl kfs)), (kw, .inl (cI, 14, .inl kfw)), (o, .inr (3, [.ref k, .ref op, .int oto, .ref oq, .ref ov, .ref os])), (op, .inl (cI, 6, .inl ofp)), (k, .inr (0, [.ref ks, .ref kw, .ref kc, .int kwd, .int kbg, .int kme, .ref kq, .ref km, .ref kd, .int ksi, .ref ka, .ref kk])), (kq, .inl (cI, 6, .inl kfq))] H := hP
    replace hD : va_D A [(km, .inl (cI, 6, .inl kfm)), (kd, .inl (cI, 6, .inl kfd)), (os, .inl (cI, 5, .inl (upd (upd (upd (upd (upd (u5.1 0) 0 x12) 1 x22) 2 x32) 3 x42) 4 x52))), (ks, .inl (cI, 5, .inl kfs)), (kw, .inl (cI, 14, .inl kfw)), (o, .inr (3, [.ref k, .ref op, .int oto, .ref oq, .ref ov, .ref os])), (op, .inl (cI, 6, .inl ofp)), (k, .inr (0, [.ref ks, .ref kw, .ref kc, .int kwd, .int kbg, .int kme, .ref kq, .ref km, .ref kd, .int ksi, .ref ka, .ref kk])), (kq, .inl (cI, 6, .inl kfq))] := hD
    refine lv_iload hx hb dX3_leastByTwos_113 (lv_at hl 3 rfl) ?_
    refine lv_iload hx hb dX3_leastByTwos_115 (lv_at hl 0 rfl) ?_
    refine lv_isub hx hb dX3_leastByTwos_117 ?_
    refine lv_topi (fun x53 e53 => ?_)
    refine lv_istore (lv' := [(4, .int x53), (6, .int x50), (5, .int 4), (2, .int x47), (3, .int 4), (0, .ref o), (1, .int i0)]) hx hb dX3_leastByTwos_118 hl (by decide) rfl (fun ls hl => ?_)
    refine lv_iload_n hx hb dX3_leastByTwos_120 rfl (lv_at hl 3 rfl) ?_
    refine lv_iload hx hb dX3_leastByTwos_121 (lv_at hl 1 rfl) ?_
    refine lv_bipush (v := 11) hx hb dX3_leastByTwos_123 (by decide) ?_
    refine lv_imul hx hb dX3_leastByTwos_125 ?_
    refine lv_topi (fun x54 e54 => ?_)
    refine lv_iload_n hx hb dX3_leastByTwos_126 rfl (lv_at hl 4 rfl) ?_
    refine lv_imul hx hb dX3_leastByTwos_127 ?_
    refine lv_topi (fun x55 e55 => ?_)
    refine lv_iload hx hb dX3_leastByTwos_128 (lv_at hl 2 rfl) ?_
    refine lv_imul hx hb dX3_leastByTwos_130 ?_
    refine lv_topi (fun x56 e56 => ?_)
    refine lv_iadd hx hb dX3_leastByTwos_131 ?_
    refine lv_topi (fun x57 e57 => ?_)
    refine lv_istore_n (lv' := [(2, .int x57), (4, .int x53), (6, .int x50), (5, .int 4), (3, .int 4), (0, .ref o), (1, .int i0)]) hx hb dX3_leastByTwos_132 rfl hl (by decide) rfl (fun ls hl => ?_)
    refine lv_iinc (v := 5) (lv' := [(5, .int 5), (2, .int x57), (4, .int x53), (6, .int x50), (3, .int 4), (0, .ref o), (1, .int i0)]) hx hb dX3_leastByTwos_133 hl (k := 3) rfl (by decide) (by decide) rfl (fun ls hl => ?_)
    refine lv_goto (tgt := 81) hx hb dX3_leastByTwos_136 (by decide) ?_
    refine lv_iload hx hb dX3_leastByTwos_81 (lv_at hl 0 rfl) ?_
    refine lv_iconst (v := 4) hx hb dX3_leastByTwos_83 (by decide) ?_
    refine lv_icmp_gt (tgt := 139) hx hb dX3_leastByTwos_84 (by decide) (fun c58 => ?_) (fun c58 => absurd c58 (by decide))
    refine lv_iload hx hb dX3_leastByTwos_139 (lv_at hl 2 rfl) ?_
    refine lv_if_le (tgt := 147) hx hb dX3_leastByTwos_141 (by decide) (fun c59 => ?_) (fun c59 => ?_)
    · have t59 : x53.toInt ≤ (0 : Int) := (tle c59)
      refine lv_iinc (v := 3) (lv' := [(3, .int 3), (5, .int 5), (2, .int x57), (4, .int x53), (6, .int x50), (0, .ref o), (1, .int i0)]) hx hb dX3_leastByTwos_147 hl (k := 4) rfl (by decide) (by decide) rfl (fun ls hl => ?_)
      refine lv_goto (tgt := 66) hx hb dX3_leastByTwos_150 (by decide) ?_
      refine lv_iload_n hx hb dX3_leastByTwos_66 rfl (lv_at hl 0 rfl) ?_
      refine lv_iconst (v := 1) hx hb dX3_leastByTwos_67 (by decide) ?_
      refine lv_icmp_lt (tgt := 153) hx hb dX3_leastByTwos_68 (by decide) (fun c60 => absurd c60 (by decide)) (fun c60 => ?_)
      refine lv_aload_n hx hb dX3_leastByTwos_71 rfl (lv_at hl 5 rfl) ?_
      refine lv_iload_n hx hb dX3_leastByTwos_72 rfl (lv_at hl 0 rfl) ?_
      refine mx_i (wr := [(km, .inl (cI, 6, .inl kfm)), (kd, .inl (cI, 6, .inl kfd)), (os, .inl (cI, 5, .inl (upd (upd (upd (upd (upd (u5.1 0) 0 x12) 1 x22) 2 x32) 3 x42) 4 x52))), (ks, .inl (cI, 5, .inl kfs)), (kw, .inl (cI, 14, .inl kfw))]) (va_runV (As := [.int 3]) (rest := []) ⟨hx, hb, hml, hown, hts⟩ (c_X3_portionsOf l dC dI cI cZ cK tS aK aV o 3 k op oto oq ov os ofp ks kw kc kwd kbg kme kq km kd ksi ka kk kfq H.size h_ofp) (cwV 1 hts (gw_v (fun _ h9 => List.mem_cons_of_mem _ h9) wm_665 wm_666 wm_667 wm_26 wm_668) rfl rfl rfl (by decide +kernel) ⟨Nat.le_of_ble_eq_true rfl, Nat.le_of_ble_eq_true rfl⟩) (mx_preV (C := RX3) (T := TX3) (N := 6) (ci := 3) hKx hP hD hS hA [5, 6, 7, 8] (by decide) rfl rfl rfl) rfl rfl hl.1 rfl (lv_room (Nat.le_of_ble_eq_true rfl)) dX3_leastByTwos_73 ⟨Nat.le_of_ble_eq_true rfl, Nat.le_of_ble_eq_true rfl⟩) hP hD hS hA [5, 6, 7, 8] [0, 1, 2, 3, 4] rfl rfl (by decide) (by decide) (fun r61 u61 H locs hq61 hP hD hS => ?_)
      replace hP : va_P (dC, dI) vwCl [(km, .inl (cI, 6, .inl kfm)), (kd, .inl (cI, 6, .inl kfd)), (os, .inl (cI, 5, .inl (upd (upd (upd (upd (upd (u5.1 0) 0 x12) 1 x22) 2 x32) 3 x42) 4 x52))), (ks, .inl (cI, 5, .inl kfs)), (kw, .inl (cI, 14, .inl kfw)), (o, .inr (3, [.ref k, .ref op, .int oto, .ref oq, .ref ov, .ref os])), (op, .inl (cI, 6, .inl ofp)), (k, .inr (0, [.ref ks, .ref kw, .ref kc, .int kwd, .int kbg, .int kme, .ref kq, .ref km, .ref kd, .int ksi, .ref ka, .ref kk])), (kq, .inl (cI, 6, .inl kfq))] H := hP
      replace hD : va_D A [(km, .inl (cI, 6, .inl kfm)), (kd, .inl (cI, 6, .inl kfd)), (os, .inl (cI, 5, .inl (upd (upd (upd (upd (upd (u5.1 0) 0 x12) 1 x22) 2 x32) 3 x42) 4 x52))), (ks, .inl (cI, 5, .inl kfs)), (kw, .inl (cI, 14, .inl kfw)), (o, .inr (3, [.ref k, .ref op, .int oto, .ref oq, .ref ov, .ref os])), (op, .inl (cI, 6, .inl ofp)), (k, .inr (0, [.ref ks, .ref kw, .ref kc, .int kwd, .int kbg, .int kme, .ref kq, .ref km, .ref kd, .int ksi, .ref ka, .ref kk])), (kq, .inl (cI, 6, .inl kfq))] := hD
      refine lv_istore (lv' := [(4, .int r61), (3, .int 3), (5, .int 5), (2, .int x57), (6, .int x50), (0, .ref o), (1, .int i0)]) hx hb dX3_leastByTwos_76 hl (by decide) rfl (fun ls hl => ?_)
      refine lv_iconst (v := 0) hx hb dX3_leastByTwos_78 (by decide) ?_
      refine lv_istore (lv' := [(5, .int 0), (4, .int r61), (3, .int 3), (2, .int x57), (6, .int x50), (0, .ref o), (1, .int i0)]) hx hb dX3_leastByTwos_79 hl (by decide) rfl (fun ls hl => ?_)
      refine lv_iload hx hb dX3_leastByTwos_81 (lv_at hl 0 rfl) ?_
      refine lv_iconst (v := 4) hx hb dX3_leastByTwos_83 (by decide) ?_
      refine lv_icmp_gt (tgt := 139) hx hb dX3_leastByTwos_84 (by decide) (fun c62 => absurd c62 (by decide)) (fun c62 => ?_)
      refine lv_iload hx hb dX3_leastByTwos_87 (lv_at hl 1 rfl) ?_
      refine lv_aload_n hx hb dX3_leastByTwos_89 rfl (lv_at hl 5 rfl) ?_
      refine va_get (D := (dC, dI)) (ci := 3) (v := .ref os) (C := RX3) (T := TX3) (N := 6) hx hb hts hin3 hown hK hP 5 rfl rfl 5 (by decide) hw0 (fun _ h9 => h9) rfl dX3_leastByTwos_90 ?_
      refine lv_iload hx hb dX3_leastByTwos_93 (lv_at hl 0 rfl) ?_
      refine va_iald hx hb hK hP 2 0 rfl rfl (vin (by decide) (by decide)) dX3_leastByTwos_95 ?_
      refine lv_topi (fun y63 e63 => ?_)
      obtain rfl : x12 = y63 := e63.symm
      refine va_mmin hx hb (hml.trans hl.1.symm) hown hw1 hw2 hw3 hw4 (Nat.le_of_ble_eq_true rfl) (Nat.le_of_ble_eq_true rfl) (Nat.le_of_ble_eq_true rfl) (Nat.le_of_ble_eq_true rfl) dX3_leastByTwos_96 ?_
      refine lv_topi (fun x64 e64 => ?_)
      have f64 : x64.toInt ≤ r61.toInt ∧ x64.toInt ≤ x12.toInt ∧ (x64.toInt = r61.toInt ∨ x64.toInt = x12.toInt) := by rw [e64]; exact mmmin_t
      refine lv_istore (lv' := [(6, .int x64), (5, .int 0), (4, .int r61), (3, .int 3), (2, .int x57), (0, .ref o), (1, .int i0)]) hx hb dX3_leastByTwos_99 hl (by decide) rfl (fun ls hl => ?_)
      refine lv_aload_n hx hb dX3_leastByTwos_101 rfl (lv_at hl 5 rfl) ?_
      refine va_get (D := (dC, dI)) (ci := 3) (v := .ref os) (C := RX3) (T := TX3) (N := 6) hx hb hts hin3 hown hK hP 5 rfl rfl 5 (by decide) hw0 (fun _ h9 => h9) rfl dX3_leastByTwos_102 ?_
      refine lv_iload hx hb dX3_leastByTwos_105 (lv_at hl 1 rfl) ?_
      refine lv_dup2_11 hx hb dX3_leastByTwos_107 rfl rfl ?_
      refine va_iald hx hb hK hP 2 0 rfl rfl (vin (by decide) (by decide)) dX3_leastByTwos_108 ?_
      refine lv_topi (fun y65 e65 => ?_)
      obtain rfl : x12 = y65 := e65.symm
      refine lv_iload hx hb dX3_leastByTwos_109 (lv_at hl 0 rfl) ?_
      refine lv_isub hx hb dX3_leastByTwos_111 ?_
      refine lv_topi (fun x66 e66 => ?_)
      refine va_iast hx hb hK hP hD hS 2 0 rfl rfl (vin (by decide) (by decide)) dX3_leastByTwos_112 (fun H locs hP hD hS => ?_)
      replace hP : va_P (dC, dI) vwCl [(km, .inl (cI, 6, .inl kfm)), (kd, .inl (cI, 6, .inl kfd)), (os, .inl (cI, 5, .inl (upd (upd (upd (upd (upd (upd (u5.1 0) 0 x12) 1 x22) 2 x32) 3 x42) 4 x52) 0 x66))), (ks, .inl (cI, 5, .inl kfs)), (kw, .inl (cI, 14, .inl kfw)), (o, .inr (3, [.ref k, .ref op, .int oto, .ref oq, .ref ov, .ref os])), (op, .inl (cI, 6, .inl ofp)), (k, .inr (0, [.ref ks, .ref kw, .ref kc, .int kwd, .int kbg, .int kme, .ref kq, .ref km, .ref kd, .int ksi, .ref ka, .ref kk])), (kq, .inl (cI, 6, .inl kfq))] H := hP
      replace hD : va_D A [(km, .inl (cI, 6, .inl kfm)), (kd, .inl (cI, 6, .inl kfd)), (os, .inl (cI, 5, .inl (upd (upd (upd (upd (upd (upd (u5.1 0) 0 x12) 1 x22) 2 x32) 3 x42) 4 x52) 0 x66))), (ks, .inl (cI, 5, .inl kfs)), (kw, .inl (cI, 14, .inl kfw)), (o, .inr (3, [.ref k, .ref op, .int oto, .ref oq, .ref ov, .ref os])), (op, .inl (cI, 6, .inl ofp)), (k, .inr (0, [.ref ks, .ref kw, .ref kc, .int kwd, .int kbg, .int kme, .ref kq, .ref km, .ref kd, .int ksi, .ref ka, .ref kk])), (kq, .inl (cI, 6, .inl kfq))] := hD
      refine lv_iload hx hb dX3_leastByTwos_113 (lv_at hl 2 rfl) ?_
      refine lv_iload hx hb dX3_leastByTwos_115 (lv_at hl 0 rfl) ?_
      refine lv_isub hx hb dX3_leastByTwos_117 ?_
      refine lv_topi (fun x67 e67 => ?_)
      refine lv_istore (lv' := [(4, .int x67), (6, .int x64), (5, .int 0), (3, .int 3), (2, .int x57), (0, .ref o), (1, .int i0)]) hx hb dX3_leastByTwos_118 hl (by decide) rfl (fun ls hl => ?_)
      refine lv_iload_n hx hb dX3_leastByTwos_120 rfl (lv_at hl 4 rfl) ?_
      refine lv_iload hx hb dX3_leastByTwos_121 (lv_at hl 1 rfl) ?_
      refine lv_bipush (v := 11) hx hb dX3_leastByTwos_123 (by decide) ?_
      refine lv_imul hx hb dX3_leastByTwos_125 ?_
      refine lv_topi (fun x68 e68 => ?_)
      refine lv_iload_n hx hb dX3_leastByTwos_126 rfl (lv_at hl 3 rfl) ?_
      refine lv_imul hx hb dX3_leastByTwos_127 ?_
      refine lv_topi (fun x69 e69 => ?_)
      refine lv_iload hx hb dX3_leastByTwos_128 (lv_at hl 2 rfl) ?_
      refine lv_imul hx hb dX3_leastByTwos_130 ?_
      refine lv_topi (fun x70 e70 => ?_)
      obtain rfl : x70 = 0 := e70.trans (by simp)
      refine lv_iadd hx hb dX3_leastByTwos_131 ?_
      refine lv_topi (fun y71 e71 => ?_)
      obtain rfl : x57 = y71 := (e71.trans (by simp)).symm
      refine lv_istore_n (lv' := [(2, .int x57), (4, .int x67), (6, .int x64), (5, .int 0), (3, .int 3), (0, .ref o), (1, .int i0)]) hx hb dX3_leastByTwos_132 rfl hl (by decide) rfl (fun ls hl => ?_)
      refine lv_iinc (v := 1) (lv' := [(5, .int 1), (2, .int x57), (4, .int x67), (6, .int x64), (3, .int 3), (0, .ref o), (1, .int i0)]) hx hb dX3_leastByTwos_133 hl (k := 3) rfl (by decide) (by decide) rfl (fun ls hl => ?_)
      refine lv_goto (tgt := 81) hx hb dX3_leastByTwos_136 (by decide) ?_
      refine lv_iload hx hb dX3_leastByTwos_81 (lv_at hl 0 rfl) ?_
      refine lv_iconst (v := 4) hx hb dX3_leastByTwos_83 (by decide) ?_
      refine lv_icmp_gt (tgt := 139) hx hb dX3_leastByTwos_84 (by decide) (fun c72 => absurd c72 (by decide)) (fun c72 => ?_)
      refine lv_iload hx hb dX3_leastByTwos_87 (lv_at hl 2 rfl) ?_
      refine lv_aload_n hx hb dX3_leastByTwos_89 rfl (lv_at hl 5 rfl) ?_
      refine va_get (D := (dC, dI)) (ci := 3) (v := .ref os) (C := RX3) (T := TX3) (N := 6) hx hb hts hin3 hown hK hP 5 rfl rfl 5 (by decide) hw0 (fun _ h9 => h9) rfl dX3_leastByTwos_90 ?_
      refine lv_iload hx hb dX3_leastByTwos_93 (lv_at hl 0 rfl) ?_
      refine va_iald hx hb hK hP 2 0 rfl rfl (vin (by decide) (by decide)) dX3_leastByTwos_95 ?_
      refine lv_topi (fun y73 e73 => ?_)
      obtain rfl : x22 = y73 := e73.symm
      refine va_mmin hx hb (hml.trans hl.1.symm) hown hw1 hw2 hw3 hw4 (Nat.le_of_ble_eq_true rfl) (Nat.le_of_ble_eq_true rfl) (Nat.le_of_ble_eq_true rfl) (Nat.le_of_ble_eq_true rfl) dX3_leastByTwos_96 ?_
      refine lv_topi (fun x74 e74 => ?_)
      have f74 : x74.toInt ≤ x67.toInt ∧ x74.toInt ≤ x22.toInt ∧ (x74.toInt = x67.toInt ∨ x74.toInt = x22.toInt) := by rw [e74]; exact mmmin_t
      refine lv_istore (lv' := [(6, .int x74), (5, .int 1), (2, .int x57), (4, .int x67), (3, .int 3), (0, .ref o), (1, .int i0)]) hx hb dX3_leastByTwos_99 hl (by decide) rfl (fun ls hl => ?_)
      refine lv_aload_n hx hb dX3_leastByTwos_101 rfl (lv_at hl 5 rfl) ?_
      refine va_get (D := (dC, dI)) (ci := 3) (v := .ref os) (C := RX3) (T := TX3) (N := 6) hx hb hts hin3 hown hK hP 5 rfl rfl 5 (by decide) hw0 (fun _ h9 => h9) rfl dX3_leastByTwos_102 ?_
      refine lv_iload hx hb dX3_leastByTwos_105 (lv_at hl 1 rfl) ?_
      refine lv_dup2_11 hx hb dX3_leastByTwos_107 rfl rfl ?_
      refine va_iald hx hb hK hP 2 0 rfl rfl (vin (by decide) (by decide)) dX3_leastByTwos_108 ?_
      refine lv_topi (fun y75 e75 => ?_)
      obtain rfl : x22 = y75 := e75.symm
      refine lv_iload hx hb dX3_leastByTwos_109 (lv_at hl 0 rfl) ?_
      refine lv_isub hx hb dX3_leastByTwos_111 ?_
      refine lv_topi (fun x76 e76 => ?_)
      refine va_iast hx hb hK hP hD hS 2 0 rfl rfl (vin (by decide) (by decide)) dX3_leastByTwos_112 (fun H locs hP hD hS => ?_)
      replace hP : va_P (dC, dI) vwCl [(km, .inl (cI, 6, .inl kfm)), (kd, .inl (cI, 6, .inl kfd)), (os, .inl (cI, 5, .inl (upd (upd (upd (upd (upd (upd (upd (u5.1 0) 0 x12) 1 x22) 2 x32) 3 x42) 4 x52) 0 x66) 1 x76))), (ks, .inl (cI, 5, .inl kfs)), (kw, .inl (cI, 14, .inl kfw)), (o, .inr (3, [.ref k, .ref op, .int oto, .ref oq, .ref ov, .ref os])), (op, .inl (cI, 6, .inl ofp)), (k, .inr (0, [.ref ks, .ref kw, .ref kc, .int kwd, .int kbg, .int kme, .ref kq, .ref km, .ref kd, .int ksi, .ref ka, .ref kk])), (kq, .inl (cI, 6, .inl kfq))] H := hP
      replace hD : va_D A [(km, .inl (cI, 6, .inl kfm)), (kd, .inl (cI, 6, .inl kfd)), (os, .inl (cI, 5, .inl (upd (upd (upd (upd (upd (upd (upd (u5.1 0) 0 x12) 1 x22) 2 x32) 3 x42) 4 x52) 0 x66) 1 x76))), (ks, .inl (cI, 5, .inl kfs)), (kw, .inl (cI, 14, .inl kfw)), (o, .inr (3, [.ref k, .ref op, .int oto, .ref oq, .ref ov, .ref os])), (op, .inl (cI, 6, .inl ofp)), (k, .inr (0, [.ref ks, .ref kw, .ref kc, .int kwd, .int kbg, .int kme, .ref kq, .ref km, .ref kd, .int ksi, .ref ka, .ref kk])), (kq, .inl (cI, 6, .inl kfq))] := hD
      refine lv_iload hx hb dX3_leastByTwos_113 (lv_at hl 3 rfl) ?_
      refine lv_iload hx hb dX3_leastByTwos_115 (lv_at hl 0 rfl) ?_
      refine lv_isub hx hb dX3_leastByTwos_117 ?_
      refine lv_topi (fun x77 e77 => ?_)
      refine lv_istore (lv' := [(4, .int x77), (6, .int x74), (5, .int 1), (2, .int x57), (3, .int 3), (0, .ref o), (1, .int i0)]) hx hb dX3_leastByTwos_118 hl (by decide) rfl (fun ls hl => ?_)
      refine lv_iload_n hx hb dX3_leastByTwos_120 rfl (lv_at hl 3 rfl) ?_
      refine lv_iload hx hb dX3_leastByTwos_121 (lv_at hl 1 rfl) ?_
      refine lv_bipush (v := 11) hx hb dX3_leastByTwos_123 (by decide) ?_
      refine lv_imul hx hb dX3_leastByTwos_125 ?_
      refine lv_topi (fun x78 e78 => ?_)
      refine lv_iload_n hx hb dX3_leastByTwos_126 rfl (lv_at hl 4 rfl) ?_
      refine lv_imul hx hb dX3_leastByTwos_127 ?_
      refine lv_topi (fun x79 e79 => ?_)
      refine lv_iload hx hb dX3_leastByTwos_128 (lv_at hl 2 rfl) ?_
      refine lv_imul hx hb dX3_leastByTwos_130 ?_
      refine lv_topi (fun x80 e80 => ?_)
      refine lv_iadd hx hb dX3_leastByTwos_131 ?_
      refine lv_topi (fun x81 e81 => ?_)
      refine lv_istore_n (lv' := [(2, .int x81), (4, .int x77), (6, .int x74), (5, .int 1), (3, .int 3), (0, .ref o), (1, .int i0)]) hx hb dX3_leastByTwos_132 rfl hl (by decide) rfl (fun ls hl => ?_)
      refine lv_iinc (v := 2) (lv' := [(5, .int 2), (2, .int x81), (4, .int x77), (6, .int x74), (3, .int 3), (0, .ref o), (1, .int i0)]) hx hb dX3_leastByTwos_133 hl (k := 3) rfl (by decide) (by decide) rfl (fun ls hl => ?_)
      refine lv_goto (tgt := 81) hx hb dX3_leastByTwos_136 (by decide) ?_
      refine lv_iload hx hb dX3_leastByTwos_81 (lv_at hl 0 rfl) ?_
      refine lv_iconst (v := 4) hx hb dX3_leastByTwos_83 (by decide) ?_
      refine lv_icmp_gt (tgt := 139) hx hb dX3_leastByTwos_84 (by decide) (fun c82 => absurd c82 (by decide)) (fun c82 => ?_)
      refine lv_iload hx hb dX3_leastByTwos_87 (lv_at hl 2 rfl) ?_
      refine lv_aload_n hx hb dX3_leastByTwos_89 rfl (lv_at hl 5 rfl) ?_
      refine va_get (D := (dC, dI)) (ci := 3) (v := .ref os) (C := RX3) (T := TX3) (N := 6) hx hb hts hin3 hown hK hP 5 rfl rfl 5 (by decide) hw0 (fun _ h9 => h9) rfl dX3_leastByTwos_90 ?_
      refine lv_iload hx hb dX3_leastByTwos_93 (lv_at hl 0 rfl) ?_
      refine va_iald hx hb hK hP 2 0 rfl rfl (vin (by decide) (by decide)) dX3_leastByTwos_95 ?_
      refine lv_topi (fun y83 e83 => ?_)
      obtain rfl : x32 = y83 := e83.symm
      refine va_mmin hx hb (hml.trans hl.1.symm) hown hw1 hw2 hw3 hw4 (Nat.le_of_ble_eq_true rfl) (Nat.le_of_ble_eq_true rfl) (Nat.le_of_ble_eq_true rfl) (Nat.le_of_ble_eq_true rfl) dX3_leastByTwos_96 ?_
      refine lv_topi (fun x84 e84 => ?_)
      have f84 : x84.toInt ≤ x77.toInt ∧ x84.toInt ≤ x32.toInt ∧ (x84.toInt = x77.toInt ∨ x84.toInt = x32.toInt) := by rw [e84]; exact mmmin_t
      refine lv_istore (lv' := [(6, .int x84), (5, .int 2), (2, .int x81), (4, .int x77), (3, .int 3), (0, .ref o), (1, .int i0)]) hx hb dX3_leastByTwos_99 hl (by decide) rfl (fun ls hl => ?_)
      refine lv_aload_n hx hb dX3_leastByTwos_101 rfl (lv_at hl 5 rfl) ?_
      refine va_get (D := (dC, dI)) (ci := 3) (v := .ref os) (C := RX3) (T := TX3) (N := 6) hx hb hts hin3 hown hK hP 5 rfl rfl 5 (by decide) hw0 (fun _ h9 => h9) rfl dX3_leastByTwos_102 ?_
      refine lv_iload hx hb dX3_leastByTwos_105 (lv_at hl 1 rfl) ?_
      refine lv_dup2_11 hx hb dX3_leastByTwos_107 rfl rfl ?_
      refine va_iald hx hb hK hP 2 0 rfl rfl (vin (by decide) (by decide)) dX3_leastByTwos_108 ?_
      refine lv_topi (fun y85 e85 => ?_)
      obtain rfl : x32 = y85 := e85.symm
      refine lv_iload hx hb dX3_leastByTwos_109 (lv_at hl 0 rfl) ?_
      refine lv_isub hx hb dX3_leastByTwos_111 ?_
      refine lv_topi (fun x86 e86 => ?_)
      refine va_iast hx hb hK hP hD hS 2 0 rfl rfl (vin (by decide) (by decide)) dX3_leastByTwos_112 (fun H locs hP hD hS => ?_)
      replace hP : va_P (dC, dI) vwCl [(km, .inl (cI, 6, .inl kfm)), (kd, .inl (cI, 6, .inl kfd)), (os, .inl (cI, 5, .inl (upd (upd (upd (upd (upd (upd (upd (upd (u5.1 0) 0 x12) 1 x22) 2 x32) 3 x42) 4 x52) 0 x66) 1 x76) 2 x86))), (ks, .inl (cI, 5, .inl kfs)), (kw, .inl (cI, 14, .inl kfw)), (o, .inr (3, [.ref k, .ref op, .int oto, .ref oq, .ref ov, .ref os])), (op, .inl (cI, 6, .inl ofp)), (k, .inr (0, [.ref ks, .ref kw, .ref kc, .int kwd, .int kbg, .int kme, .ref kq, .ref km, .ref kd, .int ksi, .ref ka, .ref kk])), (kq, .inl (cI, 6, .inl kfq))] H := hP
      replace hD : va_D A [(km, .inl (cI, 6, .inl kfm)), (kd, .inl (cI, 6, .inl kfd)), (os, .inl (cI, 5, .inl (upd (upd (upd (upd (upd (upd (upd (upd (u5.1 0) 0 x12) 1 x22) 2 x32) 3 x42) 4 x52) 0 x66) 1 x76) 2 x86))), (ks, .inl (cI, 5, .inl kfs)), (kw, .inl (cI, 14, .inl kfw)), (o, .inr (3, [.ref k, .ref op, .int oto, .ref oq, .ref ov, .ref os])), (op, .inl (cI, 6, .inl ofp)), (k, .inr (0, [.ref ks, .ref kw, .ref kc, .int kwd, .int kbg, .int kme, .ref kq, .ref km, .ref kd, .int ksi, .ref ka, .ref kk])), (kq, .inl (cI, 6, .inl kfq))] := hD
      refine lv_iload hx hb dX3_leastByTwos_113 (lv_at hl 3 rfl) ?_
      refine lv_iload hx hb dX3_leastByTwos_115 (lv_at hl 0 rfl) ?_
      refine lv_isub hx hb dX3_leastByTwos_117 ?_
      refine lv_topi (fun x87 e87 => ?_)
      refine lv_istore (lv' := [(4, .int x87), (6, .int x84), (5, .int 2), (2, .int x81), (3, .int 3), (0, .ref o), (1, .int i0)]) hx hb dX3_leastByTwos_118 hl (by decide) rfl (fun ls hl => ?_)
      refine lv_iload_n hx hb dX3_leastByTwos_120 rfl (lv_at hl 3 rfl) ?_
      refine lv_iload hx hb dX3_leastByTwos_121 (lv_at hl 1 rfl) ?_
      refine lv_bipush (v := 11) hx hb dX3_leastByTwos_123 (by decide) ?_
      refine lv_imul hx hb dX3_leastByTwos_125 ?_
      refine lv_topi (fun x88 e88 => ?_)
      refine lv_iload_n hx hb dX3_leastByTwos_126 rfl (lv_at hl 4 rfl) ?_
      refine lv_imul hx hb dX3_leastByTwos_127 ?_
      refine lv_topi (fun x89 e89 => ?_)
      refine lv_iload hx hb dX3_leastByTwos_128 (lv_at hl 2 rfl) ?_
      refine lv_imul hx hb dX3_leastByTwos_130 ?_
      refine lv_topi (fun x90 e90 => ?_)
      refine lv_iadd hx hb dX3_leastByTwos_131 ?_
      refine lv_topi (fun x91 e91 => ?_)
      refine lv_istore_n (lv' := [(2, .int x91), (4, .int x87), (6, .int x84), (5, .int 2), (3, .int 3), (0, .ref o), (1, .int i0)]) hx hb dX3_leastByTwos_132 rfl hl (by decide) rfl (fun ls hl => ?_)
      refine lv_iinc (v := 3) (lv' := [(5, .int 3), (2, .int x91), (4, .int x87), (6, .int x84), (3, .int 3), (0, .ref o), (1, .int i0)]) hx hb dX3_leastByTwos_133 hl (k := 3) rfl (by decide) (by decide) rfl (fun ls hl => ?_)
      refine lv_goto (tgt := 81) hx hb dX3_leastByTwos_136 (by decide) ?_
      refine lv_iload hx hb dX3_leastByTwos_81 (lv_at hl 0 rfl) ?_
      refine lv_iconst (v := 4) hx hb dX3_leastByTwos_83 (by decide) ?_
      refine lv_icmp_gt (tgt := 139) hx hb dX3_leastByTwos_84 (by decide) (fun c92 => absurd c92 (by decide)) (fun c92 => ?_)
      refine lv_iload hx hb dX3_leastByTwos_87 (lv_at hl 2 rfl) ?_
      refine lv_aload_n hx hb dX3_leastByTwos_89 rfl (lv_at hl 5 rfl) ?_
      refine va_get (D := (dC, dI)) (ci := 3) (v := .ref os) (C := RX3) (T := TX3) (N := 6) hx hb hts hin3 hown hK hP 5 rfl rfl 5 (by decide) hw0 (fun _ h9 => h9) rfl dX3_leastByTwos_90 ?_
      refine lv_iload hx hb dX3_leastByTwos_93 (lv_at hl 0 rfl) ?_
      refine va_iald hx hb hK hP 2 0 rfl rfl (vin (by decide) (by decide)) dX3_leastByTwos_95 ?_
      refine lv_topi (fun y93 e93 => ?_)
      obtain rfl : x42 = y93 := e93.symm
      refine va_mmin hx hb (hml.trans hl.1.symm) hown hw1 hw2 hw3 hw4 (Nat.le_of_ble_eq_true rfl) (Nat.le_of_ble_eq_true rfl) (Nat.le_of_ble_eq_true rfl) (Nat.le_of_ble_eq_true rfl) dX3_leastByTwos_96 ?_
      refine lv_topi (fun x94 e94 => ?_)
      have f94 : x94.toInt ≤ x87.toInt ∧ x94.toInt ≤ x42.toInt ∧ (x94.toInt = x87.toInt ∨ x94.toInt = x42.toInt) := by rw [e94]; exact mmmin_t
      refine lv_istore (lv' := [(6, .int x94), (5, .int 3), (2, .int x91), (4, .int x87), (3, .int 3), (0, .ref o), (1, .int i0)]) hx hb dX3_leastByTwos_99 hl (by decide) rfl (fun ls hl => ?_)
      refine lv_aload_n hx hb dX3_leastByTwos_101 rfl (lv_at hl 5 rfl) ?_
      refine va_get (D := (dC, dI)) (ci := 3) (v := .ref os) (C := RX3) (T := TX3) (N := 6) hx hb hts hin3 hown hK hP 5 rfl rfl 5 (by decide) hw0 (fun _ h9 => h9) rfl dX3_leastByTwos_102 ?_
      refine lv_iload hx hb dX3_leastByTwos_105 (lv_at hl 1 rfl) ?_
      refine lv_dup2_11 hx hb dX3_leastByTwos_107 rfl rfl ?_
      refine va_iald hx hb hK hP 2 0 rfl rfl (vin (by decide) (by decide)) dX3_leastByTwos_108 ?_
      refine lv_topi (fun y95 e95 => ?_)
      obtain rfl : x42 = y95 := e95.symm
      refine lv_iload hx hb dX3_leastByTwos_109 (lv_at hl 0 rfl) ?_
      refine lv_isub hx hb dX3_leastByTwos_111 ?_
      refine lv_topi (fun x96 e96 => ?_)
      refine va_iast hx hb hK hP hD hS 2 0 rfl rfl (vin (by decide) (by decide)) dX3_leastByTwos_112 (fun H locs hP hD hS => ?_)
      replace hP : va_P (dC, dI) vwCl [(km, .inl (cI, 6, .inl kfm)), (kd, .inl (cI, 6, .inl kfd)), (os, .inl (cI, 5, .inl (upd (upd (upd (upd (upd (upd (upd (upd (upd (u5.1 0) 0 x12) 1 x22) 2 x32) 3 x42) 4 x52) 0 x66) 1 x76) 2 x86) 3 x96))), (ks, .inl (cI, 5, .inl kfs)), (kw, .inl (cI, 14, .inl kfw)), (o, .inr (3, [.ref k, .ref op, .int oto, .ref oq, .ref ov, .ref os])), (op, .inl (cI, 6, .inl ofp)), (k, .inr (0, [.ref ks, .ref kw, .ref kc, .int kwd, .int kbg, .int kme, .ref kq, .ref km, .ref kd, .int ksi, .ref ka, .ref kk])), (kq, .inl (cI, 6, .inl kfq))] H := hP
      replace hD : va_D A [(km, .inl (cI, 6, .inl kfm)), (kd, .inl (cI, 6, .inl kfd)), (os, .inl (cI, 5, .inl (upd (upd (upd (upd (upd (upd (upd (upd (upd (u5.1 0) 0 x12) 1 x22) 2 x32) 3 x42) 4 x52) 0 x66) 1 x76) 2 x86) 3 x96))), (ks, .inl (cI, 5, .inl kfs)), (kw, .inl (cI, 14, .inl kfw)), (o, .inr (3, [.ref k, .ref op, .int oto, .ref oq, .ref ov, .ref os])), (op, .inl (cI, 6, .inl ofp)), (k, .inr (0, [.ref ks, .ref kw, .ref kc, .int kwd, .int kbg, .int kme, .ref kq, .ref km, .ref kd, .int ksi, .ref ka, .ref kk])), (kq, .inl (cI, 6, .inl kfq))] := hD
      refine lv_iload hx hb dX3_leastByTwos_113 (lv_at hl 3 rfl) ?_
      refine lv_iload hx hb dX3_leastByTwos_115 (lv_at hl 0 rfl) ?_
      refine lv_isub hx hb dX3_leastByTwos_117 ?_
      refine lv_topi (fun x97 e97 => ?_)
      refine lv_istore (lv' := [(4, .int x97), (6, .int x94), (5, .int 3), (2, .int x91), (3, .int 3), (0, .ref o), (1, .int i0)]) hx hb dX3_leastByTwos_118 hl (by decide) rfl (fun ls hl => ?_)
      refine lv_iload_n hx hb dX3_leastByTwos_120 rfl (lv_at hl 3 rfl) ?_
      refine lv_iload hx hb dX3_leastByTwos_121 (lv_at hl 1 rfl) ?_
      refine lv_bipush (v := 11) hx hb dX3_leastByTwos_123 (by decide) ?_
      refine lv_imul hx hb dX3_leastByTwos_125 ?_
      refine lv_topi (fun x98 e98 => ?_)
      refine lv_iload_n hx hb dX3_leastByTwos_126 rfl (lv_at hl 4 rfl) ?_
      refine lv_imul hx hb dX3_leastByTwos_127 ?_
      refine lv_topi (fun x99 e99 => ?_)
      refine lv_iload hx hb dX3_leastByTwos_128 (lv_at hl 2 rfl) ?_
      refine lv_imul hx hb dX3_leastByTwos_130 ?_
      refine lv_topi (fun x100 e100 => ?_)
      refine lv_iadd hx hb dX3_leastByTwos_131 ?_
      refine lv_topi (fun x101 e101 => ?_)
      refine lv_istore_n (lv' := [(2, .int x101), (4, .int x97), (6, .int x94), (5, .int 3), (3, .int 3), (0, .ref o), (1, .int i0)]) hx hb dX3_leastByTwos_132 rfl hl (by decide) rfl (fun ls hl => ?_)
      refine lv_iinc (v := 4) (lv' := [(5, .int 4), (2, .int x101), (4, .int x97), (6, .int x94), (3, .int 3), (0, .ref o), (1, .int i0)]) hx hb dX3_leastByTwos_133 hl (k := 3) rfl (by decide) (by decide) rfl (fun ls hl => ?_)
      refine lv_goto (tgt := 81) hx hb dX3_leastByTwos_136 (by decide) ?_
      refine lv_iload hx hb dX3_leastByTwos_81 (lv_at hl 0 rfl) ?_
      refine lv_iconst (v := 4) hx hb dX3_leastByTwos_83 (by decide) ?_
      refine lv_icmp_gt (tgt := 139) hx hb dX3_leastByTwos_84 (by decide) (fun c102 => absurd c102 (by decide)) (fun c102 => ?_)
      refine lv_iload hx hb dX3_leastByTwos_87 (lv_at hl 2 rfl) ?_
      refine lv_aload_n hx hb dX3_leastByTwos_89 rfl (lv_at hl 5 rfl) ?_
      refine va_get (D := (dC, dI)) (ci := 3) (v := .ref os) (C := RX3) (T := TX3) (N := 6) hx hb hts hin3 hown hK hP 5 rfl rfl 5 (by decide) hw0 (fun _ h9 => h9) rfl dX3_leastByTwos_90 ?_
      refine lv_iload hx hb dX3_leastByTwos_93 (lv_at hl 0 rfl) ?_
      refine va_iald hx hb hK hP 2 0 rfl rfl (vin (by decide) (by decide)) dX3_leastByTwos_95 ?_
      refine lv_topi (fun y103 e103 => ?_)
      obtain rfl : x52 = y103 := e103.symm
      refine va_mmin hx hb (hml.trans hl.1.symm) hown hw1 hw2 hw3 hw4 (Nat.le_of_ble_eq_true rfl) (Nat.le_of_ble_eq_true rfl) (Nat.le_of_ble_eq_true rfl) (Nat.le_of_ble_eq_true rfl) dX3_leastByTwos_96 ?_
      refine lv_topi (fun x104 e104 => ?_)
      have f104 : x104.toInt ≤ x97.toInt ∧ x104.toInt ≤ x52.toInt ∧ (x104.toInt = x97.toInt ∨ x104.toInt = x52.toInt) := by rw [e104]; exact mmmin_t
      refine lv_istore (lv' := [(6, .int x104), (5, .int 4), (2, .int x101), (4, .int x97), (3, .int 3), (0, .ref o), (1, .int i0)]) hx hb dX3_leastByTwos_99 hl (by decide) rfl (fun ls hl => ?_)
      refine lv_aload_n hx hb dX3_leastByTwos_101 rfl (lv_at hl 5 rfl) ?_
      refine va_get (D := (dC, dI)) (ci := 3) (v := .ref os) (C := RX3) (T := TX3) (N := 6) hx hb hts hin3 hown hK hP 5 rfl rfl 5 (by decide) hw0 (fun _ h9 => h9) rfl dX3_leastByTwos_102 ?_
      refine lv_iload hx hb dX3_leastByTwos_105 (lv_at hl 1 rfl) ?_
      refine lv_dup2_11 hx hb dX3_leastByTwos_107 rfl rfl ?_
      refine va_iald hx hb hK hP 2 0 rfl rfl (vin (by decide) (by decide)) dX3_leastByTwos_108 ?_
      refine lv_topi (fun y105 e105 => ?_)
      obtain rfl : x52 = y105 := e105.symm
      refine lv_iload hx hb dX3_leastByTwos_109 (lv_at hl 0 rfl) ?_
      refine lv_isub hx hb dX3_leastByTwos_111 ?_
      refine lv_topi (fun x106 e106 => ?_)
      refine va_iast hx hb hK hP hD hS 2 0 rfl rfl (vin (by decide) (by decide)) dX3_leastByTwos_112 (fun H locs hP hD hS => ?_)
      replace hP : va_P (dC, dI) vwCl [(km, .inl (cI, 6, .inl kfm)), (kd, .inl (cI, 6, .inl kfd)), (os, .inl (cI, 5, .inl (upd (upd (upd (upd (upd (upd (upd (upd (upd (upd (u5.1 0) 0 x12) 1 x22) 2 x32) 3 x42) 4 x52) 0 x66) 1 x76) 2 x86) 3 x96) 4 x106))), (ks, .inl (cI, 5, .inl kfs)), (kw, .inl (cI, 14, .inl kfw)), (o, .inr (3, [.ref k, .ref op, .int oto, .ref oq, .ref ov, .ref os])), (op, .inl (cI, 6, .inl ofp)), (k, .inr (0, [.ref ks, .ref kw, .ref kc, .int kwd, .int kbg, .int kme, .ref kq, .ref km, .ref kd, .int ksi, .ref ka, .ref kk])), (kq, .inl (cI, 6, .inl kfq))] H := hP
      replace hD : va_D A [(km, .inl (cI, 6, .inl kfm)), (kd, .inl (cI, 6, .inl kfd)), (os, .inl (cI, 5, .inl (upd (upd (upd (upd (upd (upd (upd (upd (upd (upd (u5.1 0) 0 x12) 1 x22) 2 x32) 3 x42) 4 x52) 0 x66) 1 x76) 2 x86) 3 x96) 4 x106))), (ks, .inl (cI, 5, .inl kfs)), (kw, .inl (cI, 14, .inl kfw)), (o, .inr (3, [.ref k, .ref op, .int oto, .ref oq, .ref ov, .ref os])), (op, .inl (cI, 6, .inl ofp)), (k, .inr (0, [.ref ks, .ref kw, .ref kc, .int kwd, .int kbg, .int kme, .ref kq, .ref km, .ref kd, .int ksi, .ref ka, .ref kk])), (kq, .inl (cI, 6, .inl kfq))] := hD
      refine lv_iload hx hb dX3_leastByTwos_113 (lv_at hl 3 rfl) ?_
      refine lv_iload hx hb dX3_leastByTwos_115 (lv_at hl 0 rfl) ?_
      refine lv_isub hx hb dX3_leastByTwos_117 ?_
      refine lv_topi (fun x107 e107 => ?_)
      refine lv_istore (lv' := [(4, .int x107), (6, .int x104), (5, .int 4), (2, .int x101), (3, .int 3), (0, .ref o), (1, .int i0)]) hx hb dX3_leastByTwos_118 hl (by decide) rfl (fun ls hl => ?_)
      refine lv_iload_n hx hb dX3_leastByTwos_120 rfl (lv_at hl 3 rfl) ?_
      refine lv_iload hx hb dX3_leastByTwos_121 (lv_at hl 1 rfl) ?_
      refine lv_bipush (v := 11) hx hb dX3_leastByTwos_123 (by decide) ?_
      refine lv_imul hx hb dX3_leastByTwos_125 ?_
      refine lv_topi (fun x108 e108 => ?_)
      refine lv_iload_n hx hb dX3_leastByTwos_126 rfl (lv_at hl 4 rfl) ?_
      refine lv_imul hx hb dX3_leastByTwos_127 ?_
      refine lv_topi (fun x109 e109 => ?_)
      refine lv_iload hx hb dX3_leastByTwos_128 (lv_at hl 2 rfl) ?_
      refine lv_imul hx hb dX3_leastByTwos_130 ?_
      refine lv_topi (fun x110 e110 => ?_)
      refine lv_iadd hx hb dX3_leastByTwos_131 ?_
      refine lv_topi (fun x111 e111 => ?_)
      refine lv_istore_n (lv' := [(2, .int x111), (4, .int x107), (6, .int x104), (5, .int 4), (3, .int 3), (0, .ref o), (1, .int i0)]) hx hb dX3_leastByTwos_132 rfl hl (by decide) rfl (fun ls hl => ?_)
      refine lv_iinc (v := 5) (lv' := [(5, .int 5), (2, .int x111), (4, .int x107), (6, .int x104), (3, .int 3), (0, .ref o), (1, .int i0)]) hx hb dX3_leastByTwos_133 hl (k := 3) rfl (by decide) (by decide) rfl (fun ls hl => ?_)
      refine lv_goto (tgt := 81) hx hb dX3_leastByTwos_136 (by decide) ?_
      refine lv_iload hx hb dX3_leastByTwos_81 (lv_at hl 0 rfl) ?_
      refine lv_iconst (v := 4) hx hb dX3_leastByTwos_83 (by decide) ?_
      refine lv_icmp_gt (tgt := 139) hx hb dX3_leastByTwos_84 (by decide) (fun c112 => ?_) (fun c112 => absurd c112 (by decide))
      refine lv_iload hx hb dX3_leastByTwos_139 (lv_at hl 2 rfl) ?_
      refine lv_if_le (tgt := 147) hx hb dX3_leastByTwos_141 (by decide) (fun c113 => ?_) (fun c113 => ?_)
      · have t113 : x107.toInt ≤ (0 : Int) := (tle c113)
        refine lv_iinc (v := 2) (lv' := [(3, .int 2), (5, .int 5), (2, .int x111), (4, .int x107), (6, .int x104), (0, .ref o), (1, .int i0)]) hx hb dX3_leastByTwos_147 hl (k := 4) rfl (by decide) (by decide) rfl (fun ls hl => ?_)
        refine lv_goto (tgt := 66) hx hb dX3_leastByTwos_150 (by decide) ?_
        refine lv_iload_n hx hb dX3_leastByTwos_66 rfl (lv_at hl 0 rfl) ?_
        refine lv_iconst (v := 1) hx hb dX3_leastByTwos_67 (by decide) ?_
        refine lv_icmp_lt (tgt := 153) hx hb dX3_leastByTwos_68 (by decide) (fun c114 => absurd c114 (by decide)) (fun c114 => ?_)
        refine lv_aload_n hx hb dX3_leastByTwos_71 rfl (lv_at hl 5 rfl) ?_
        refine lv_iload_n hx hb dX3_leastByTwos_72 rfl (lv_at hl 0 rfl) ?_
        refine mx_i (wr := [(km, .inl (cI, 6, .inl kfm)), (kd, .inl (cI, 6, .inl kfd)), (os, .inl (cI, 5, .inl (upd (upd (upd (upd (upd (upd (upd (upd (upd (upd (u5.1 0) 0 x12) 1 x22) 2 x32) 3 x42) 4 x52) 0 x66) 1 x76) 2 x86) 3 x96) 4 x106))), (ks, .inl (cI, 5, .inl kfs)), (kw, .inl (cI, 14, .inl kfw))]) (va_runV (As := [.int 2]) (rest := []) ⟨hx, hb, hml, hown, hts⟩ (c_X3_portionsOf l dC dI cI cZ cK tS aK aV o 2 k op oto oq ov os ofp ks kw kc kwd kbg kme kq km kd ksi ka kk kfq H.size h_ofp) (cwV 1 hts (gw_v (fun _ h9 => List.mem_cons_of_mem _ h9) wm_665 wm_666 wm_667 wm_26 wm_668) rfl rfl rfl (by decide +kernel) ⟨Nat.le_of_ble_eq_true rfl, Nat.le_of_ble_eq_true rfl⟩) (mx_preV (C := RX3) (T := TX3) (N := 6) (ci := 3) hKx hP hD hS hA [5, 6, 7, 8] (by decide) rfl rfl rfl) rfl rfl hl.1 rfl (lv_room (Nat.le_of_ble_eq_true rfl)) dX3_leastByTwos_73 ⟨Nat.le_of_ble_eq_true rfl, Nat.le_of_ble_eq_true rfl⟩) hP hD hS hA [5, 6, 7, 8] [0, 1, 2, 3, 4] rfl rfl (by decide) (by decide) (fun r115 u115 H locs hq115 hP hD hS => ?_)
        replace hP : va_P (dC, dI) vwCl [(km, .inl (cI, 6, .inl kfm)), (kd, .inl (cI, 6, .inl kfd)), (os, .inl (cI, 5, .inl (upd (upd (upd (upd (upd (upd (upd (upd (upd (upd (u5.1 0) 0 x12) 1 x22) 2 x32) 3 x42) 4 x52) 0 x66) 1 x76) 2 x86) 3 x96) 4 x106))), (ks, .inl (cI, 5, .inl kfs)), (kw, .inl (cI, 14, .inl kfw)), (o, .inr (3, [.ref k, .ref op, .int oto, .ref oq, .ref ov, .ref os])), (op, .inl (cI, 6, .inl ofp)), (k, .inr (0, [.ref ks, .ref kw, .ref kc, .int kwd, .int kbg, .int kme, .ref kq, .ref km, .ref kd, .int ksi, .ref ka, .ref kk])), (kq, .inl (cI, 6, .inl kfq))] H := hP
        replace hD : va_D A [(km, .inl (cI, 6, .inl kfm)), (kd, .inl (cI, 6, .inl kfd)), (os, .inl (cI, 5, .inl (upd (upd (upd (upd (upd (upd (upd (upd (upd (upd (u5.1 0) 0 x12) 1 x22) 2 x32) 3 x42) 4 x52) 0 x66) 1 x76) 2 x86) 3 x96) 4 x106))), (ks, .inl (cI, 5, .inl kfs)), (kw, .inl (cI, 14, .inl kfw)), (o, .inr (3, [.ref k, .ref op, .int oto, .ref oq, .ref ov, .ref os])), (op, .inl (cI, 6, .inl ofp)), (k, .inr (0, [.ref ks, .ref kw, .ref kc, .int kwd, .int kbg, .int kme, .ref kq, .ref km, .ref kd, .int ksi, .ref ka, .ref kk])), (kq, .inl (cI, 6, .inl kfq))] := hD
        refine lv_istore (lv' := [(4, .int r115), (3, .int 2), (5, .int 5), (2, .int x111), (6, .int x104), (0, .ref o), (1, .int i0)]) hx hb dX3_leastByTwos_76 hl (by decide) rfl (fun ls hl => ?_)
        refine lv_iconst (v := 0) hx hb dX3_leastByTwos_78 (by decide) ?_
        refine lv_istore (lv' := [(5, .int 0), (4, .int r115), (3, .int 2), (2, .int x111), (6, .int x104), (0, .ref o), (1, .int i0)]) hx hb dX3_leastByTwos_79 hl (by decide) rfl (fun ls hl => ?_)
        refine lv_iload hx hb dX3_leastByTwos_81 (lv_at hl 0 rfl) ?_
        refine lv_iconst (v := 4) hx hb dX3_leastByTwos_83 (by decide) ?_
        refine lv_icmp_gt (tgt := 139) hx hb dX3_leastByTwos_84 (by decide) (fun c116 => absurd c116 (by decide)) (fun c116 => ?_)
        refine lv_iload hx hb dX3_leastByTwos_87 (lv_at hl 1 rfl) ?_
        refine lv_aload_n hx hb dX3_leastByTwos_89 rfl (lv_at hl 5 rfl) ?_
        refine va_get (D := (dC, dI)) (ci := 3) (v := .ref os) (C := RX3) (T := TX3) (N := 6) hx hb hts hin3 hown hK hP 5 rfl rfl 5 (by decide) hw0 (fun _ h9 => h9) rfl dX3_leastByTwos_90 ?_
        refine lv_iload hx hb dX3_leastByTwos_93 (lv_at hl 0 rfl) ?_
        refine va_iald hx hb hK hP 2 0 rfl rfl (vin (by decide) (by decide)) dX3_leastByTwos_95 ?_
        refine lv_topi (fun y117 e117 => ?_)
        obtain rfl : x66 = y117 := e117.symm
        refine va_mmin hx hb (hml.trans hl.1.symm) hown hw1 hw2 hw3 hw4 (Nat.le_of_ble_eq_true rfl) (Nat.le_of_ble_eq_true rfl) (Nat.le_of_ble_eq_true rfl) (Nat.le_of_ble_eq_true rfl) dX3_leastByTwos_96 ?_
        refine lv_topi (fun x118 e118 => ?_)
        have f118 : x118.toInt ≤ r115.toInt ∧ x118.toInt ≤ x66.toInt ∧ (x118.toInt = r115.toInt ∨ x118.toInt = x66.toInt) := by rw [e118]; exact mmmin_t
        refine lv_istore (lv' := [(6, .int x118), (5, .int 0), (4, .int r115), (3, .int 2), (2, .int x111), (0, .ref o), (1, .int i0)]) hx hb dX3_leastByTwos_99 hl (by decide) rfl (fun ls hl => ?_)
        refine lv_aload_n hx hb dX3_leastByTwos_101 rfl (lv_at hl 5 rfl) ?_
        refine va_get (D := (dC, dI)) (ci := 3) (v := .ref os) (C := RX3) (T := TX3) (N := 6) hx hb hts hin3 hown hK hP 5 rfl rfl 5 (by decide) hw0 (fun _ h9 => h9) rfl dX3_leastByTwos_102 ?_
        refine lv_iload hx hb dX3_leastByTwos_105 (lv_at hl 1 rfl) ?_
        refine lv_dup2_11 hx hb dX3_leastByTwos_107 rfl rfl ?_
        refine va_iald hx hb hK hP 2 0 rfl rfl (vin (by decide) (by decide)) dX3_leastByTwos_108 ?_
        refine lv_topi (fun y119 e119 => ?_)
        obtain rfl : x66 = y119 := e119.symm
        refine lv_iload hx hb dX3_leastByTwos_109 (lv_at hl 0 rfl) ?_
        refine lv_isub hx hb dX3_leastByTwos_111 ?_
        refine lv_topi (fun x120 e120 => ?_)
        refine va_iast hx hb hK hP hD hS 2 0 rfl rfl (vin (by decide) (by decide)) dX3_leastByTwos_112 (fun H locs hP hD hS => ?_)
        replace hP : va_P (dC, dI) vwCl [(km, .inl (cI, 6, .inl kfm)), (kd, .inl (cI, 6, .inl kfd)), (os, .inl (cI, 5, .inl (upd (upd (upd (upd (upd (upd (upd (upd (upd (upd (upd (u5.1 0) 0 x12) 1 x22) 2 x32) 3 x42) 4 x52) 0 x66) 1 x76) 2 x86) 3 x96) 4 x106) 0 x120))), (ks, .inl (cI, 5, .inl kfs)), (kw, .inl (cI, 14, .inl kfw)), (o, .inr (3, [.ref k, .ref op, .int oto, .ref oq, .ref ov, .ref os])), (op, .inl (cI, 6, .inl ofp)), (k, .inr (0, [.ref ks, .ref kw, .ref kc, .int kwd, .int kbg, .int kme, .ref kq, .ref km, .ref kd, .int ksi, .ref ka, .ref kk])), (kq, .inl (cI, 6, .inl kfq))] H := hP
        replace hD : va_D A [(km, .inl (cI, 6, .inl kfm)), (kd, .inl (cI, 6, .inl kfd)), (os, .inl (cI, 5, .inl (upd (upd (upd (upd (upd (upd (upd (upd (upd (upd (upd (u5.1 0) 0 x12) 1 x22) 2 x32) 3 x42) 4 x52) 0 x66) 1 x76) 2 x86) 3 x96) 4 x106) 0 x120))), (ks, .inl (cI, 5, .inl kfs)), (kw, .inl (cI, 14, .inl kfw)), (o, .inr (3, [.ref k, .ref op, .int oto, .ref oq, .ref ov, .ref os])), (op, .inl (cI, 6, .inl ofp)), (k, .inr (0, [.ref ks, .ref kw, .ref kc, .int kwd, .int kbg, .int kme, .ref kq, .ref km, .ref kd, .int ksi, .ref ka, .ref kk])), (kq, .inl (cI, 6, .inl kfq))] := hD
        refine lv_iload hx hb dX3_leastByTwos_113 (lv_at hl 2 rfl) ?_
        refine lv_iload hx hb dX3_leastByTwos_115 (lv_at hl 0 rfl) ?_
        refine lv_isub hx hb dX3_leastByTwos_117 ?_
        refine lv_topi (fun x121 e121 => ?_)
        refine lv_istore (lv' := [(4, .int x121), (6, .int x118), (5, .int 0), (3, .int 2), (2, .int x111), (0, .ref o), (1, .int i0)]) hx hb dX3_leastByTwos_118 hl (by decide) rfl (fun ls hl => ?_)
        refine lv_iload_n hx hb dX3_leastByTwos_120 rfl (lv_at hl 4 rfl) ?_
        refine lv_iload hx hb dX3_leastByTwos_121 (lv_at hl 1 rfl) ?_
        refine lv_bipush (v := 11) hx hb dX3_leastByTwos_123 (by decide) ?_
        refine lv_imul hx hb dX3_leastByTwos_125 ?_
        refine lv_topi (fun x122 e122 => ?_)
        refine lv_iload_n hx hb dX3_leastByTwos_126 rfl (lv_at hl 3 rfl) ?_
        refine lv_imul hx hb dX3_leastByTwos_127 ?_
        refine lv_topi (fun x123 e123 => ?_)
        refine lv_iload hx hb dX3_leastByTwos_128 (lv_at hl 2 rfl) ?_
        refine lv_imul hx hb dX3_leastByTwos_130 ?_
        refine lv_topi (fun x124 e124 => ?_)
        obtain rfl : x124 = 0 := e124.trans (by simp)
        refine lv_iadd hx hb dX3_leastByTwos_131 ?_
        refine lv_topi (fun y125 e125 => ?_)
        obtain rfl : x111 = y125 := (e125.trans (by simp)).symm
        refine lv_istore_n (lv' := [(2, .int x111), (4, .int x121), (6, .int x118), (5, .int 0), (3, .int 2), (0, .ref o), (1, .int i0)]) hx hb dX3_leastByTwos_132 rfl hl (by decide) rfl (fun ls hl => ?_)
        refine lv_iinc (v := 1) (lv' := [(5, .int 1), (2, .int x111), (4, .int x121), (6, .int x118), (3, .int 2), (0, .ref o), (1, .int i0)]) hx hb dX3_leastByTwos_133 hl (k := 3) rfl (by decide) (by decide) rfl (fun ls hl => ?_)
        refine lv_goto (tgt := 81) hx hb dX3_leastByTwos_136 (by decide) ?_
        refine lv_iload hx hb dX3_leastByTwos_81 (lv_at hl 0 rfl) ?_
        refine lv_iconst (v := 4) hx hb dX3_leastByTwos_83 (by decide) ?_
        refine lv_icmp_gt (tgt := 139) hx hb dX3_leastByTwos_84 (by decide) (fun c126 => absurd c126 (by decide)) (fun c126 => ?_)
        refine lv_iload hx hb dX3_leastByTwos_87 (lv_at hl 2 rfl) ?_
        refine lv_aload_n hx hb dX3_leastByTwos_89 rfl (lv_at hl 5 rfl) ?_
        refine va_get (D := (dC, dI)) (ci := 3) (v := .ref os) (C := RX3) (T := TX3) (N := 6) hx hb hts hin3 hown hK hP 5 rfl rfl 5 (by decide) hw0 (fun _ h9 => h9) rfl dX3_leastByTwos_90 ?_
        refine lv_iload hx hb dX3_leastByTwos_93 (lv_at hl 0 rfl) ?_
        refine va_iald hx hb hK hP 2 0 rfl rfl (vin (by decide) (by decide)) dX3_leastByTwos_95 ?_
        refine lv_topi (fun y127 e127 => ?_)
        obtain rfl : x76 = y127 := e127.symm
        refine va_mmin hx hb (hml.trans hl.1.symm) hown hw1 hw2 hw3 hw4 (Nat.le_of_ble_eq_true rfl) (Nat.le_of_ble_eq_true rfl) (Nat.le_of_ble_eq_true rfl) (Nat.le_of_ble_eq_true rfl) dX3_leastByTwos_96 ?_
        refine lv_topi (fun x128 e128 => ?_)
        have f128 : x128.toInt ≤ x121.toInt ∧ x128.toInt ≤ x76.toInt ∧ (x128.toInt = x121.toInt ∨ x128.toInt = x76.toInt) := by rw [e128]; exact mmmin_t
        refine lv_istore (lv' := [(6, .int x128), (5, .int 1), (2, .int x111), (4, .int x121), (3, .int 2), (0, .ref o), (1, .int i0)]) hx hb dX3_leastByTwos_99 hl (by decide) rfl (fun ls hl => ?_)
        refine lv_aload_n hx hb dX3_leastByTwos_101 rfl (lv_at hl 5 rfl) ?_
        refine va_get (D := (dC, dI)) (ci := 3) (v := .ref os) (C := RX3) (T := TX3) (N := 6) hx hb hts hin3 hown hK hP 5 rfl rfl 5 (by decide) hw0 (fun _ h9 => h9) rfl dX3_leastByTwos_102 ?_
        refine lv_iload hx hb dX3_leastByTwos_105 (lv_at hl 1 rfl) ?_
        refine lv_dup2_11 hx hb dX3_leastByTwos_107 rfl rfl ?_
        refine va_iald hx hb hK hP 2 0 rfl rfl (vin (by decide) (by decide)) dX3_leastByTwos_108 ?_
        refine lv_topi (fun y129 e129 => ?_)
        obtain rfl : x76 = y129 := e129.symm
        refine lv_iload hx hb dX3_leastByTwos_109 (lv_at hl 0 rfl) ?_
        refine lv_isub hx hb dX3_leastByTwos_111 ?_
        refine lv_topi (fun x130 e130 => ?_)
        refine va_iast hx hb hK hP hD hS 2 0 rfl rfl (vin (by decide) (by decide)) dX3_leastByTwos_112 (fun H locs hP hD hS => ?_)
        replace hP : va_P (dC, dI) vwCl [(km, .inl (cI, 6, .inl kfm)), (kd, .inl (cI, 6, .inl kfd)), (os, .inl (cI, 5, .inl (upd (upd (upd (upd (upd (upd (upd (upd (upd (upd (upd (upd (u5.1 0) 0 x12) 1 x22) 2 x32) 3 x42) 4 x52) 0 x66) 1 x76) 2 x86) 3 x96) 4 x106) 0 x120) 1 x130))), (ks, .inl (cI, 5, .inl kfs)), (kw, .inl (cI, 14, .inl kfw)), (o, .inr (3, [.ref k, .ref op, .int oto, .ref oq, .ref ov, .ref os])), (op, .inl (cI, 6, .inl ofp)), (k, .inr (0, [.ref ks, .ref kw, .ref kc, .int kwd, .int kbg, .int kme, .ref kq, .ref km, .ref kd, .int ksi, .ref ka, .ref kk])), (kq, .inl (cI, 6, .inl kfq))] H := hP
        replace hD : va_D A [(km, .inl (cI, 6, .inl kfm)), (kd, .inl (cI, 6, .inl kfd)), (os, .inl (cI, 5, .inl (upd (upd (upd (upd (upd (upd (upd (upd (upd (upd (upd (upd (u5.1 0) 0 x12) 1 x22) 2 x32) 3 x42) 4 x52) 0 x66) 1 x76) 2 x86) 3 x96) 4 x106) 0 x120) 1 x130))), (ks, .inl (cI, 5, .inl kfs)), (kw, .inl (cI, 14, .inl kfw)), (o, .inr (3, [.ref k, .ref op, .int oto, .ref oq, .ref ov, .ref os])), (op, .inl (cI, 6, .inl ofp)), (k, .inr (0, [.ref ks, .ref kw, .ref kc, .int kwd, .int kbg, .int kme, .ref kq, .ref km, .ref kd, .int ksi, .ref ka, .ref kk])), (kq, .inl (cI, 6, .inl kfq))] := hD
        refine lv_iload hx hb dX3_leastByTwos_113 (lv_at hl 3 rfl) ?_
        refine lv_iload hx hb dX3_leastByTwos_115 (lv_at hl 0 rfl) ?_
        refine lv_isub hx hb dX3_leastByTwos_117 ?_
        refine lv_topi (fun x131 e131 => ?_)
        refine lv_istore (lv' := [(4, .int x131), (6, .int x128), (5, .int 1), (2, .int x111), (3, .int 2), (0, .ref o), (1, .int i0)]) hx hb dX3_leastByTwos_118 hl (by decide) rfl (fun ls hl => ?_)
        refine lv_iload_n hx hb dX3_leastByTwos_120 rfl (lv_at hl 3 rfl) ?_
        refine lv_iload hx hb dX3_leastByTwos_121 (lv_at hl 1 rfl) ?_
        refine lv_bipush (v := 11) hx hb dX3_leastByTwos_123 (by decide) ?_
        refine lv_imul hx hb dX3_leastByTwos_125 ?_
        refine lv_topi (fun x132 e132 => ?_)
        refine lv_iload_n hx hb dX3_leastByTwos_126 rfl (lv_at hl 4 rfl) ?_
        refine lv_imul hx hb dX3_leastByTwos_127 ?_
        refine lv_topi (fun x133 e133 => ?_)
        refine lv_iload hx hb dX3_leastByTwos_128 (lv_at hl 2 rfl) ?_
        refine lv_imul hx hb dX3_leastByTwos_130 ?_
        refine lv_topi (fun x134 e134 => ?_)
        refine lv_iadd hx hb dX3_leastByTwos_131 ?_
        refine lv_topi (fun x135 e135 => ?_)
        refine lv_istore_n (lv' := [(2, .int x135), (4, .int x131), (6, .int x128), (5, .int 1), (3, .int 2), (0, .ref o), (1, .int i0)]) hx hb dX3_leastByTwos_132 rfl hl (by decide) rfl (fun ls hl => ?_)
        refine lv_iinc (v := 2) (lv' := [(5, .int 2), (2, .int x135), (4, .int x131), (6, .int x128), (3, .int 2), (0, .ref o), (1, .int i0)]) hx hb dX3_leastByTwos_133 hl (k := 3) rfl (by decide) (by decide) rfl (fun ls hl => ?_)
        refine lv_goto (tgt := 81) hx hb dX3_leastByTwos_136 (by decide) ?_
        refine lv_iload hx hb dX3_leastByTwos_81 (lv_at hl 0 rfl) ?_
        refine lv_iconst (v := 4) hx hb dX3_leastByTwos_83 (by decide) ?_
        refine lv_icmp_gt (tgt := 139) hx hb dX3_leastByTwos_84 (by decide) (fun c136 => absurd c136 (by decide)) (fun c136 => ?_)
        refine lv_iload hx hb dX3_leastByTwos_87 (lv_at hl 2 rfl) ?_
        refine lv_aload_n hx hb dX3_leastByTwos_89 rfl (lv_at hl 5 rfl) ?_
        refine va_get (D := (dC, dI)) (ci := 3) (v := .ref os) (C := RX3) (T := TX3) (N := 6) hx hb hts hin3 hown hK hP 5 rfl rfl 5 (by decide) hw0 (fun _ h9 => h9) rfl dX3_leastByTwos_90 ?_
        refine lv_iload hx hb dX3_leastByTwos_93 (lv_at hl 0 rfl) ?_
        refine va_iald hx hb hK hP 2 0 rfl rfl (vin (by decide) (by decide)) dX3_leastByTwos_95 ?_
        refine lv_topi (fun y137 e137 => ?_)
        obtain rfl : x86 = y137 := e137.symm
        refine va_mmin hx hb (hml.trans hl.1.symm) hown hw1 hw2 hw3 hw4 (Nat.le_of_ble_eq_true rfl) (Nat.le_of_ble_eq_true rfl) (Nat.le_of_ble_eq_true rfl) (Nat.le_of_ble_eq_true rfl) dX3_leastByTwos_96 ?_
        refine lv_topi (fun x138 e138 => ?_)
        have f138 : x138.toInt ≤ x131.toInt ∧ x138.toInt ≤ x86.toInt ∧ (x138.toInt = x131.toInt ∨ x138.toInt = x86.toInt) := by rw [e138]; exact mmmin_t
        refine lv_istore (lv' := [(6, .int x138), (5, .int 2), (2, .int x135), (4, .int x131), (3, .int 2), (0, .ref o), (1, .int i0)]) hx hb dX3_leastByTwos_99 hl (by decide) rfl (fun ls hl => ?_)
        refine lv_aload_n hx hb dX3_leastByTwos_101 rfl (lv_at hl 5 rfl) ?_
        refine va_get (D := (dC, dI)) (ci := 3) (v := .ref os) (C := RX3) (T := TX3) (N := 6) hx hb hts hin3 hown hK hP 5 rfl rfl 5 (by decide) hw0 (fun _ h9 => h9) rfl dX3_leastByTwos_102 ?_
        refine lv_iload hx hb dX3_leastByTwos_105 (lv_at hl 1 rfl) ?_
        refine lv_dup2_11 hx hb dX3_leastByTwos_107 rfl rfl ?_
        refine va_iald hx hb hK hP 2 0 rfl rfl (vin (by decide) (by decide)) dX3_leastByTwos_108 ?_
        refine lv_topi (fun y139 e139 => ?_)
        obtain rfl : x86 = y139 := e139.symm
        refine lv_iload hx hb dX3_leastByTwos_109 (lv_at hl 0 rfl) ?_
        refine lv_isub hx hb dX3_leastByTwos_111 ?_
        refine lv_topi (fun x140 e140 => ?_)
        refine va_iast hx hb hK hP hD hS 2 0 rfl rfl (vin (by decide) (by decide)) dX3_leastByTwos_112 (fun H locs hP hD hS => ?_)
        replace hP : va_P (dC, dI) vwCl [(km, .inl (cI, 6, .inl kfm)), (kd, .inl (cI, 6, .inl kfd)), (os, .inl (cI, 5, .inl (upd (upd (upd (upd (upd (upd (upd (upd (upd (upd (upd (upd (upd (u5.1 0) 0 x12) 1 x22) 2 x32) 3 x42) 4 x52) 0 x66) 1 x76) 2 x86) 3 x96) 4 x106) 0 x120) 1 x130) 2 x140))), (ks, .inl (cI, 5, .inl kfs)), (kw, .inl (cI, 14, .inl kfw)), (o, .inr (3, [.ref k, .ref op, .int oto, .ref oq, .ref ov, .ref os])), (op, .inl (cI, 6, .inl ofp)), (k, .inr (0, [.ref ks, .ref kw, .ref kc, .int kwd, .int kbg, .int kme, .ref kq, .ref km, .ref kd, .int ksi, .ref ka, .ref kk])), (kq, .inl (cI, 6, .inl kfq))] H := hP
        replace hD : va_D A [(km, .inl (cI, 6, .inl kfm)), (kd, .inl (cI, 6, .inl kfd)), (os, .inl (cI, 5, .inl (upd (upd (upd (upd (upd (upd (upd (upd (upd (upd (upd (upd (upd (u5.1 0) 0 x12) 1 x22) 2 x32) 3 x42) 4 x52) 0 x66) 1 x76) 2 x86) 3 x96) 4 x106) 0 x120) 1 x130) 2 x140))), (ks, .inl (cI, 5, .inl kfs)), (kw, .inl (cI, 14, .inl kfw)), (o, .inr (3, [.ref k, .ref op, .int oto, .ref oq, .ref ov, .ref os])), (op, .inl (cI, 6, .inl ofp)), (k, .inr (0, [.ref ks, .ref kw, .ref kc, .int kwd, .int kbg, .int kme, .ref kq, .ref km, .ref kd, .int ksi, .ref ka, .ref kk])), (kq, .inl (cI, 6, .inl kfq))] := hD
        refine lv_iload hx hb dX3_leastByTwos_113 (lv_at hl 3 rfl) ?_
        refine lv_iload hx hb dX3_leastByTwos_115 (lv_at hl 0 rfl) ?_
        refine lv_isub hx hb dX3_leastByTwos_117 ?_
        refine lv_topi (fun x141 e141 => ?_)
        refine lv_istore (lv' := [(4, .int x141), (6, .int x138), (5, .int 2), (2, .int x135), (3, .int 2), (0, .ref o), (1, .int i0)]) hx hb dX3_leastByTwos_118 hl (by decide) rfl (fun ls hl => ?_)
        refine lv_iload_n hx hb dX3_leastByTwos_120 rfl (lv_at hl 3 rfl) ?_
        refine lv_iload hx hb dX3_leastByTwos_121 (lv_at hl 1 rfl) ?_
        refine lv_bipush (v := 11) hx hb dX3_leastByTwos_123 (by decide) ?_
        refine lv_imul hx hb dX3_leastByTwos_125 ?_
        refine lv_topi (fun x142 e142 => ?_)
        refine lv_iload_n hx hb dX3_leastByTwos_126 rfl (lv_at hl 4 rfl) ?_
        refine lv_imul hx hb dX3_leastByTwos_127 ?_
        refine lv_topi (fun x143 e143 => ?_)
        refine lv_iload hx hb dX3_leastByTwos_128 (lv_at hl 2 rfl) ?_
        refine lv_imul hx hb dX3_leastByTwos_130 ?_
        refine lv_topi (fun x144 e144 => ?_)
        refine lv_iadd hx hb dX3_leastByTwos_131 ?_
        refine lv_topi (fun x145 e145 => ?_)
        refine lv_istore_n (lv' := [(2, .int x145), (4, .int x141), (6, .int x138), (5, .int 2), (3, .int 2), (0, .ref o), (1, .int i0)]) hx hb dX3_leastByTwos_132 rfl hl (by decide) rfl (fun ls hl => ?_)
        refine lv_iinc (v := 3) (lv' := [(5, .int 3), (2, .int x145), (4, .int x141), (6, .int x138), (3, .int 2), (0, .ref o), (1, .int i0)]) hx hb dX3_leastByTwos_133 hl (k := 3) rfl (by decide) (by decide) rfl (fun ls hl => ?_)
        refine lv_goto (tgt := 81) hx hb dX3_leastByTwos_136 (by decide) ?_
        refine lv_iload hx hb dX3_leastByTwos_81 (lv_at hl 0 rfl) ?_
        refine lv_iconst (v := 4) hx hb dX3_leastByTwos_83 (by decide) ?_
        refine lv_icmp_gt (tgt := 139) hx hb dX3_leastByTwos_84 (by decide) (fun c146 => absurd c146 (by decide)) (fun c146 => ?_)
        refine lv_iload hx hb dX3_leastByTwos_87 (lv_at hl 2 rfl) ?_
        refine lv_aload_n hx hb dX3_leastByTwos_89 rfl (lv_at hl 5 rfl) ?_
        refine va_get (D := (dC, dI)) (ci := 3) (v := .ref os) (C := RX3) (T := TX3) (N := 6) hx hb hts hin3 hown hK hP 5 rfl rfl 5 (by decide) hw0 (fun _ h9 => h9) rfl dX3_leastByTwos_90 ?_
        refine lv_iload hx hb dX3_leastByTwos_93 (lv_at hl 0 rfl) ?_
        refine va_iald hx hb hK hP 2 0 rfl rfl (vin (by decide) (by decide)) dX3_leastByTwos_95 ?_
        refine lv_topi (fun y147 e147 => ?_)
        obtain rfl : x96 = y147 := e147.symm
        refine va_mmin hx hb (hml.trans hl.1.symm) hown hw1 hw2 hw3 hw4 (Nat.le_of_ble_eq_true rfl) (Nat.le_of_ble_eq_true rfl) (Nat.le_of_ble_eq_true rfl) (Nat.le_of_ble_eq_true rfl) dX3_leastByTwos_96 ?_
        refine lv_topi (fun x148 e148 => ?_)
        have f148 : x148.toInt ≤ x141.toInt ∧ x148.toInt ≤ x96.toInt ∧ (x148.toInt = x141.toInt ∨ x148.toInt = x96.toInt) := by rw [e148]; exact mmmin_t
        refine lv_istore (lv' := [(6, .int x148), (5, .int 3), (2, .int x145), (4, .int x141), (3, .int 2), (0, .ref o), (1, .int i0)]) hx hb dX3_leastByTwos_99 hl (by decide) rfl (fun ls hl => ?_)
        refine lv_aload_n hx hb dX3_leastByTwos_101 rfl (lv_at hl 5 rfl) ?_
        refine va_get (D := (dC, dI)) (ci := 3) (v := .ref os) (C := RX3) (T := TX3) (N := 6) hx hb hts hin3 hown hK hP 5 rfl rfl 5 (by decide) hw0 (fun _ h9 => h9) rfl dX3_leastByTwos_102 ?_
        refine lv_iload hx hb dX3_leastByTwos_105 (lv_at hl 1 rfl) ?_
        refine lv_dup2_11 hx hb dX3_leastByTwos_107 rfl rfl ?_
        refine va_iald hx hb hK hP 2 0 rfl rfl (vin (by decide) (by decide)) dX3_leastByTwos_108 ?_
        refine lv_topi (fun y149 e149 => ?_)
        obtain rfl : x96 = y149 := e149.symm
        refine lv_iload hx hb dX3_leastByTwos_109 (lv_at hl 0 rfl) ?_
        refine lv_isub hx hb dX3_leastByTwos_111 ?_
        refine lv_topi (fun x150 e150 => ?_)
        refine va_iast hx hb hK hP hD hS 2 0 rfl rfl (vin (by decide) (by decide)) dX3_leastByTwos_112 (fun H locs hP hD hS => ?_)
        replace hP : va_P (dC, dI) vwCl [(km, .inl (cI, 6, .inl kfm)), (kd, .inl (cI, 6, .inl kfd)), (os, .inl (cI, 5, .inl (upd (upd (upd (upd (upd (upd (upd (upd (upd (upd (upd (upd (upd (upd (u5.1 0) 0 x12) 1 x22) 2 x32) 3 x42) 4 x52) 0 x66) 1 x76) 2 x86) 3 x96) 4 x106) 0 x120) 1 x130) 2 x140) 3 x150))), (ks, .inl (cI, 5, .inl kfs)), (kw, .inl (cI, 14, .inl kfw)), (o, .inr (3, [.ref k, .ref op, .int oto, .ref oq, .ref ov, .ref os])), (op, .inl (cI, 6, .inl ofp)), (k, .inr (0, [.ref ks, .ref kw, .ref kc, .int kwd, .int kbg, .int kme, .ref kq, .ref km, .ref kd, .int ksi, .ref ka, .ref kk])), (kq, .inl (cI, 6, .inl kfq))] H := hP
        replace hD : va_D A [(km, .inl (cI, 6, .inl kfm)), (kd, .inl (cI, 6, .inl kfd)), (os, .inl (cI, 5, .inl (upd (upd (upd (upd (upd (upd (upd (upd (upd (upd (upd (upd (upd (upd (u5.1 0) 0 x12) 1 x22) 2 x32) 3 x42) 4 x52) 0 x66) 1 x76) 2 x86) 3 x96) 4 x106) 0 x120) 1 x130) 2 x140) 3 x150))), (ks, .inl (cI, 5, .inl kfs)), (kw, .inl (cI, 14, .inl kfw)), (o, .inr (3, [.ref k, .ref op, .int oto, .ref oq, .ref ov, .ref os])), (op, .inl (cI, 6, .inl ofp)), (k, .inr (0, [.ref ks, .ref kw, .ref kc, .int kwd, .int kbg, .int kme, .ref kq, .ref km, .ref kd, .int ksi, .ref ka, .ref kk])), (kq, .inl (cI, 6, .inl kfq))] := hD
        refine lv_iload hx hb dX3_leastByTwos_113 (lv_at hl 3 rfl) ?_
        refine lv_iload hx hb dX3_leastByTwos_115 (lv_at hl 0 rfl) ?_
        refine lv_isub hx hb dX3_leastByTwos_117 ?_
        refine lv_topi (fun x151 e151 => ?_)
        refine lv_istore (lv' := [(4, .int x151), (6, .int x148), (5, .int 3), (2, .int x145), (3, .int 2), (0, .ref o), (1, .int i0)]) hx hb dX3_leastByTwos_118 hl (by decide) rfl (fun ls hl => ?_)
        refine lv_iload_n hx hb dX3_leastByTwos_120 rfl (lv_at hl 3 rfl) ?_
        refine lv_iload hx hb dX3_leastByTwos_121 (lv_at hl 1 rfl) ?_
        refine lv_bipush (v := 11) hx hb dX3_leastByTwos_123 (by decide) ?_
        refine lv_imul hx hb dX3_leastByTwos_125 ?_
        refine lv_topi (fun x152 e152 => ?_)
        refine lv_iload_n hx hb dX3_leastByTwos_126 rfl (lv_at hl 4 rfl) ?_
        refine lv_imul hx hb dX3_leastByTwos_127 ?_
        refine lv_topi (fun x153 e153 => ?_)
        refine lv_iload hx hb dX3_leastByTwos_128 (lv_at hl 2 rfl) ?_
        refine lv_imul hx hb dX3_leastByTwos_130 ?_
        refine lv_topi (fun x154 e154 => ?_)
        refine lv_iadd hx hb dX3_leastByTwos_131 ?_
        refine lv_topi (fun x155 e155 => ?_)
        refine lv_istore_n (lv' := [(2, .int x155), (4, .int x151), (6, .int x148), (5, .int 3), (3, .int 2), (0, .ref o), (1, .int i0)]) hx hb dX3_leastByTwos_132 rfl hl (by decide) rfl (fun ls hl => ?_)
        refine lv_iinc (v := 4) (lv' := [(5, .int 4), (2, .int x155), (4, .int x151), (6, .int x148), (3, .int 2), (0, .ref o), (1, .int i0)]) hx hb dX3_leastByTwos_133 hl (k := 3) rfl (by decide) (by decide) rfl (fun ls hl => ?_)
        refine lv_goto (tgt := 81) hx hb dX3_leastByTwos_136 (by decide) ?_
        refine lv_iload hx hb dX3_leastByTwos_81 (lv_at hl 0 rfl) ?_
        refine lv_iconst (v := 4) hx hb dX3_leastByTwos_83 (by decide) ?_
        refine lv_icmp_gt (tgt := 139) hx hb dX3_leastByTwos_84 (by decide) (fun c156 => absurd c156 (by decide)) (fun c156 => ?_)
        refine lv_iload hx hb dX3_leastByTwos_87 (lv_at hl 2 rfl) ?_
        refine lv_aload_n hx hb dX3_leastByTwos_89 rfl (lv_at hl 5 rfl) ?_
        refine va_get (D := (dC, dI)) (ci := 3) (v := .ref os) (C := RX3) (T := TX3) (N := 6) hx hb hts hin3 hown hK hP 5 rfl rfl 5 (by decide) hw0 (fun _ h9 => h9) rfl dX3_leastByTwos_90 ?_
        refine lv_iload hx hb dX3_leastByTwos_93 (lv_at hl 0 rfl) ?_
        refine va_iald hx hb hK hP 2 0 rfl rfl (vin (by decide) (by decide)) dX3_leastByTwos_95 ?_
        refine lv_topi (fun y157 e157 => ?_)
        obtain rfl : x106 = y157 := e157.symm
        refine va_mmin hx hb (hml.trans hl.1.symm) hown hw1 hw2 hw3 hw4 (Nat.le_of_ble_eq_true rfl) (Nat.le_of_ble_eq_true rfl) (Nat.le_of_ble_eq_true rfl) (Nat.le_of_ble_eq_true rfl) dX3_leastByTwos_96 ?_
        refine lv_topi (fun x158 e158 => ?_)
        have f158 : x158.toInt ≤ x151.toInt ∧ x158.toInt ≤ x106.toInt ∧ (x158.toInt = x151.toInt ∨ x158.toInt = x106.toInt) := by rw [e158]; exact mmmin_t
        refine lv_istore (lv' := [(6, .int x158), (5, .int 4), (2, .int x155), (4, .int x151), (3, .int 2), (0, .ref o), (1, .int i0)]) hx hb dX3_leastByTwos_99 hl (by decide) rfl (fun ls hl => ?_)
        refine lv_aload_n hx hb dX3_leastByTwos_101 rfl (lv_at hl 5 rfl) ?_
        refine va_get (D := (dC, dI)) (ci := 3) (v := .ref os) (C := RX3) (T := TX3) (N := 6) hx hb hts hin3 hown hK hP 5 rfl rfl 5 (by decide) hw0 (fun _ h9 => h9) rfl dX3_leastByTwos_102 ?_
        refine lv_iload hx hb dX3_leastByTwos_105 (lv_at hl 1 rfl) ?_
        refine lv_dup2_11 hx hb dX3_leastByTwos_107 rfl rfl ?_
        refine va_iald hx hb hK hP 2 0 rfl rfl (vin (by decide) (by decide)) dX3_leastByTwos_108 ?_
        refine lv_topi (fun y159 e159 => ?_)
        obtain rfl : x106 = y159 := e159.symm
        refine lv_iload hx hb dX3_leastByTwos_109 (lv_at hl 0 rfl) ?_
        refine lv_isub hx hb dX3_leastByTwos_111 ?_
        refine lv_topi (fun x160 e160 => ?_)
        refine va_iast hx hb hK hP hD hS 2 0 rfl rfl (vin (by decide) (by decide)) dX3_leastByTwos_112 (fun H locs hP hD hS => ?_)
        replace hP : va_P (dC, dI) vwCl [(km, .inl (cI, 6, .inl kfm)), (kd, .inl (cI, 6, .inl kfd)), (os, .inl (cI, 5, .inl (upd (upd (upd (upd (upd (upd (upd (upd (upd (upd (upd (upd (upd (upd (upd (u5.1 0) 0 x12) 1 x22) 2 x32) 3 x42) 4 x52) 0 x66) 1 x76) 2 x86) 3 x96) 4 x106) 0 x120) 1 x130) 2 x140) 3 x150) 4 x160))), (ks, .inl (cI, 5, .inl kfs)), (kw, .inl (cI, 14, .inl kfw)), (o, .inr (3, [.ref k, .ref op, .int oto, .ref oq, .ref ov, .ref os])), (op, .inl (cI, 6, .inl ofp)), (k, .inr (0, [.ref ks, .ref kw, .ref kc, .int kwd, .int kbg, .int kme, .ref kq, .ref km, .ref kd, .int ksi, .ref ka, .ref kk])), (kq, .inl (cI, 6, .inl kfq))] H := hP
        replace hD : va_D A [(km, .inl (cI, 6, .inl kfm)), (kd, .inl (cI, 6, .inl kfd)), (os, .inl (cI, 5, .inl (upd (upd (upd (upd (upd (upd (upd (upd (upd (upd (upd (upd (upd (upd (upd (u5.1 0) 0 x12) 1 x22) 2 x32) 3 x42) 4 x52) 0 x66) 1 x76) 2 x86) 3 x96) 4 x106) 0 x120) 1 x130) 2 x140) 3 x150) 4 x160))), (ks, .inl (cI, 5, .inl kfs)), (kw, .inl (cI, 14, .inl kfw)), (o, .inr (3, [.ref k, .ref op, .int oto, .ref oq, .ref ov, .ref os])), (op, .inl (cI, 6, .inl ofp)), (k, .inr (0, [.ref ks, .ref kw, .ref kc, .int kwd, .int kbg, .int kme, .ref kq, .ref km, .ref kd, .int ksi, .ref ka, .ref kk])), (kq, .inl (cI, 6, .inl kfq))] := hD
        refine lv_iload hx hb dX3_leastByTwos_113 (lv_at hl 3 rfl) ?_
        refine lv_iload hx hb dX3_leastByTwos_115 (lv_at hl 0 rfl) ?_
        refine lv_isub hx hb dX3_leastByTwos_117 ?_
        refine lv_topi (fun x161 e161 => ?_)
        refine lv_istore (lv' := [(4, .int x161), (6, .int x158), (5, .int 4), (2, .int x155), (3, .int 2), (0, .ref o), (1, .int i0)]) hx hb dX3_leastByTwos_118 hl (by decide) rfl (fun ls hl => ?_)
        refine lv_iload_n hx hb dX3_leastByTwos_120 rfl (lv_at hl 3 rfl) ?_
        refine lv_iload hx hb dX3_leastByTwos_121 (lv_at hl 1 rfl) ?_
        refine lv_bipush (v := 11) hx hb dX3_leastByTwos_123 (by decide) ?_
        refine lv_imul hx hb dX3_leastByTwos_125 ?_
        refine lv_topi (fun x162 e162 => ?_)
        refine lv_iload_n hx hb dX3_leastByTwos_126 rfl (lv_at hl 4 rfl) ?_
        refine lv_imul hx hb dX3_leastByTwos_127 ?_
        refine lv_topi (fun x163 e163 => ?_)
        refine lv_iload hx hb dX3_leastByTwos_128 (lv_at hl 2 rfl) ?_
        refine lv_imul hx hb dX3_leastByTwos_130 ?_
        refine lv_topi (fun x164 e164 => ?_)
        refine lv_iadd hx hb dX3_leastByTwos_131 ?_
        refine lv_topi (fun x165 e165 => ?_)
        refine lv_istore_n (lv' := [(2, .int x165), (4, .int x161), (6, .int x158), (5, .int 4), (3, .int 2), (0, .ref o), (1, .int i0)]) hx hb dX3_leastByTwos_132 rfl hl (by decide) rfl (fun ls hl => ?_)
        refine lv_iinc (v := 5) (lv' := [(5, .int 5), (2, .int x165), (4, .int x161), (6, .int x158), (3, .int 2), (0, .ref o), (1, .int i0)]) hx hb dX3_leastByTwos_133 hl (k := 3) rfl (by decide) (by decide) rfl (fun ls hl => ?_)
        refine lv_goto (tgt := 81) hx hb dX3_leastByTwos_136 (by decide) ?_
        refine lv_iload hx hb dX3_leastByTwos_81 (lv_at hl 0 rfl) ?_
        refine lv_iconst (v := 4) hx hb dX3_leastByTwos_83 (by decide) ?_
        refine lv_icmp_gt (tgt := 139) hx hb dX3_leastByTwos_84 (by decide) (fun c166 => ?_) (fun c166 => absurd c166 (by decide))
        refine lv_iload hx hb dX3_leastByTwos_139 (lv_at hl 2 rfl) ?_
        refine lv_if_le (tgt := 147) hx hb dX3_leastByTwos_141 (by decide) (fun c167 => ?_) (fun c167 => ?_)
        · have t167 : x161.toInt ≤ (0 : Int) := (tle c167)
          refine lv_iinc (v := 1) (lv' := [(3, .int 1), (5, .int 5), (2, .int x165), (4, .int x161), (6, .int x158), (0, .ref o), (1, .int i0)]) hx hb dX3_leastByTwos_147 hl (k := 4) rfl (by decide) (by decide) rfl (fun ls hl => ?_)
          refine lv_goto (tgt := 66) hx hb dX3_leastByTwos_150 (by decide) ?_
          refine lv_iload_n hx hb dX3_leastByTwos_66 rfl (lv_at hl 0 rfl) ?_
          refine lv_iconst (v := 1) hx hb dX3_leastByTwos_67 (by decide) ?_
          refine lv_icmp_lt (tgt := 153) hx hb dX3_leastByTwos_68 (by decide) (fun c168 => absurd c168 (by decide)) (fun c168 => ?_)
          refine lv_aload_n hx hb dX3_leastByTwos_71 rfl (lv_at hl 5 rfl) ?_
          refine lv_iload_n hx hb dX3_leastByTwos_72 rfl (lv_at hl 0 rfl) ?_
          refine mx_i (wr := [(km, .inl (cI, 6, .inl kfm)), (kd, .inl (cI, 6, .inl kfd)), (os, .inl (cI, 5, .inl (upd (upd (upd (upd (upd (upd (upd (upd (upd (upd (upd (upd (upd (upd (upd (u5.1 0) 0 x12) 1 x22) 2 x32) 3 x42) 4 x52) 0 x66) 1 x76) 2 x86) 3 x96) 4 x106) 0 x120) 1 x130) 2 x140) 3 x150) 4 x160))), (ks, .inl (cI, 5, .inl kfs)), (kw, .inl (cI, 14, .inl kfw))]) (va_runV (As := [.int 1]) (rest := []) ⟨hx, hb, hml, hown, hts⟩ (c_X3_portionsOf l dC dI cI cZ cK tS aK aV o 1 k op oto oq ov os ofp ks kw kc kwd kbg kme kq km kd ksi ka kk kfq H.size h_ofp) (cwV 1 hts (gw_v (fun _ h9 => List.mem_cons_of_mem _ h9) wm_665 wm_666 wm_667 wm_26 wm_668) rfl rfl rfl (by decide +kernel) ⟨Nat.le_of_ble_eq_true rfl, Nat.le_of_ble_eq_true rfl⟩) (mx_preV (C := RX3) (T := TX3) (N := 6) (ci := 3) hKx hP hD hS hA [5, 6, 7, 8] (by decide) rfl rfl rfl) rfl rfl hl.1 rfl (lv_room (Nat.le_of_ble_eq_true rfl)) dX3_leastByTwos_73 ⟨Nat.le_of_ble_eq_true rfl, Nat.le_of_ble_eq_true rfl⟩) hP hD hS hA [5, 6, 7, 8] [0, 1, 2, 3, 4] rfl rfl (by decide) (by decide) (fun r169 u169 H locs hq169 hP hD hS => ?_)
          replace hP : va_P (dC, dI) vwCl [(km, .inl (cI, 6, .inl kfm)), (kd, .inl (cI, 6, .inl kfd)), (os, .inl (cI, 5, .inl (upd (upd (upd (upd (upd (upd (upd (upd (upd (upd (upd (upd (upd (upd (upd (u5.1 0) 0 x12) 1 x22) 2 x32) 3 x42) 4 x52) 0 x66) 1 x76) 2 x86) 3 x96) 4 x106) 0 x120) 1 x130) 2 x140) 3 x150) 4 x160))), (ks, .inl (cI, 5, .inl kfs)), (kw, .inl (cI, 14, .inl kfw)), (o, .inr (3, [.ref k, .ref op, .int oto, .ref oq, .ref ov, .ref os])), (op, .inl (cI, 6, .inl ofp)), (k, .inr (0, [.ref ks, .ref kw, .ref kc, .int kwd, .int kbg, .int kme, .ref kq, .ref km, .ref kd, .int ksi, .ref ka, .ref kk])), (kq, .inl (cI, 6, .inl kfq))] H := hP
          replace hD : va_D A [(km, .inl (cI, 6, .inl kfm)), (kd, .inl (cI, 6, .inl kfd)), (os, .inl (cI, 5, .inl (upd (upd (upd (upd (upd (upd (upd (upd (upd (upd (upd (upd (upd (upd (upd (u5.1 0) 0 x12) 1 x22) 2 x32) 3 x42) 4 x52) 0 x66) 1 x76) 2 x86) 3 x96) 4 x106) 0 x120) 1 x130) 2 x140) 3 x150) 4 x160))), (ks, .inl (cI, 5, .inl kfs)), (kw, .inl (cI, 14, .inl kfw)), (o, .inr (3, [.ref k, .ref op, .int oto, .ref oq, .ref ov, .ref os])), (op, .inl (cI, 6, .inl ofp)), (k, .inr (0, [.ref ks, .ref kw, .ref kc, .int kwd, .int kbg, .int kme, .ref kq, .ref km, .ref kd, .int ksi, .ref ka, .ref kk])), (kq, .inl (cI, 6, .inl kfq))] := hD
          refine lv_istore (lv' := [(4, .int r169), (3, .int 1), (5, .int 5), (2, .int x165), (6, .int x158), (0, .ref o), (1, .int i0)]) hx hb dX3_leastByTwos_76 hl (by decide) rfl (fun ls hl => ?_)
          refine lv_iconst (v := 0) hx hb dX3_leastByTwos_78 (by decide) ?_
          refine lv_istore (lv' := [(5, .int 0), (4, .int r169), (3, .int 1), (2, .int x165), (6, .int x158), (0, .ref o), (1, .int i0)]) hx hb dX3_leastByTwos_79 hl (by decide) rfl (fun ls hl => ?_)
          refine lv_iload hx hb dX3_leastByTwos_81 (lv_at hl 0 rfl) ?_
          refine lv_iconst (v := 4) hx hb dX3_leastByTwos_83 (by decide) ?_
          refine lv_icmp_gt (tgt := 139) hx hb dX3_leastByTwos_84 (by decide) (fun c170 => absurd c170 (by decide)) (fun c170 => ?_)
          refine lv_iload hx hb dX3_leastByTwos_87 (lv_at hl 1 rfl) ?_
          refine lv_aload_n hx hb dX3_leastByTwos_89 rfl (lv_at hl 5 rfl) ?_
          refine va_get (D := (dC, dI)) (ci := 3) (v := .ref os) (C := RX3) (T := TX3) (N := 6) hx hb hts hin3 hown hK hP 5 rfl rfl 5 (by decide) hw0 (fun _ h9 => h9) rfl dX3_leastByTwos_90 ?_
          refine lv_iload hx hb dX3_leastByTwos_93 (lv_at hl 0 rfl) ?_
          refine va_iald hx hb hK hP 2 0 rfl rfl (vin (by decide) (by decide)) dX3_leastByTwos_95 ?_
          refine lv_topi (fun y171 e171 => ?_)
          obtain rfl : x120 = y171 := e171.symm
          refine va_mmin hx hb (hml.trans hl.1.symm) hown hw1 hw2 hw3 hw4 (Nat.le_of_ble_eq_true rfl) (Nat.le_of_ble_eq_true rfl) (Nat.le_of_ble_eq_true rfl) (Nat.le_of_ble_eq_true rfl) dX3_leastByTwos_96 ?_
          refine lv_topi (fun x172 e172 => ?_)
          have f172 : x172.toInt ≤ r169.toInt ∧ x172.toInt ≤ x120.toInt ∧ (x172.toInt = r169.toInt ∨ x172.toInt = x120.toInt) := by rw [e172]; exact mmmin_t
          refine lv_istore (lv' := [(6, .int x172), (5, .int 0), (4, .int r169), (3, .int 1), (2, .int x165), (0, .ref o), (1, .int i0)]) hx hb dX3_leastByTwos_99 hl (by decide) rfl (fun ls hl => ?_)
          refine lv_aload_n hx hb dX3_leastByTwos_101 rfl (lv_at hl 5 rfl) ?_
          refine va_get (D := (dC, dI)) (ci := 3) (v := .ref os) (C := RX3) (T := TX3) (N := 6) hx hb hts hin3 hown hK hP 5 rfl rfl 5 (by decide) hw0 (fun _ h9 => h9) rfl dX3_leastByTwos_102 ?_
          refine lv_iload hx hb dX3_leastByTwos_105 (lv_at hl 1 rfl) ?_
          refine lv_dup2_11 hx hb dX3_leastByTwos_107 rfl rfl ?_
          refine va_iald hx hb hK hP 2 0 rfl rfl (vin (by decide) (by decide)) dX3_leastByTwos_108 ?_
          refine lv_topi (fun y173 e173 => ?_)
          obtain rfl : x120 = y173 := e173.symm
          refine lv_iload hx hb dX3_leastByTwos_109 (lv_at hl 0 rfl) ?_
          refine lv_isub hx hb dX3_leastByTwos_111 ?_
          refine lv_topi (fun x174 e174 => ?_)
          refine va_iast hx hb hK hP hD hS 2 0 rfl rfl (vin (by decide) (by decide)) dX3_leastByTwos_112 (fun H locs hP hD hS => ?_)
          replace hP : va_P (dC, dI) vwCl [(km, .inl (cI, 6, .inl kfm)), (kd, .inl (cI, 6, .inl kfd)), (os, .inl (cI, 5, .inl (upd (upd (upd (upd (upd (upd (upd (upd (upd (upd (upd (upd (upd (upd (upd (upd (u5.1 0) 0 x12) 1 x22) 2 x32) 3 x42) 4 x52) 0 x66) 1 x76) 2 x86) 3 x96) 4 x106) 0 x120) 1 x130) 2 x140) 3 x150) 4 x160) 0 x174))), (ks, .inl (cI, 5, .inl kfs)), (kw, .inl (cI, 14, .inl kfw)), (o, .inr (3, [.ref k, .ref op, .int oto, .ref oq, .ref ov, .ref os])), (op, .inl (cI, 6, .inl ofp)), (k, .inr (0, [.ref ks, .ref kw, .ref kc, .int kwd, .int kbg, .int kme, .ref kq, .ref km, .ref kd, .int ksi, .ref ka, .ref kk])), (kq, .inl (cI, 6, .inl kfq))] H := hP
          replace hD : va_D A [(km, .inl (cI, 6, .inl kfm)), (kd, .inl (cI, 6, .inl kfd)), (os, .inl (cI, 5, .inl (upd (upd (upd (upd (upd (upd (upd (upd (upd (upd (upd (upd (upd (upd (upd (upd (u5.1 0) 0 x12) 1 x22) 2 x32) 3 x42) 4 x52) 0 x66) 1 x76) 2 x86) 3 x96) 4 x106) 0 x120) 1 x130) 2 x140) 3 x150) 4 x160) 0 x174))), (ks, .inl (cI, 5, .inl kfs)), (kw, .inl (cI, 14, .inl kfw)), (o, .inr (3, [.ref k, .ref op, .int oto, .ref oq, .ref ov, .ref os])), (op, .inl (cI, 6, .inl ofp)), (k, .inr (0, [.ref ks, .ref kw, .ref kc, .int kwd, .int kbg, .int kme, .ref kq, .ref km, .ref kd, .int ksi, .ref ka, .ref kk])), (kq, .inl (cI, 6, .inl kfq))] := hD
          refine lv_iload hx hb dX3_leastByTwos_113 (lv_at hl 2 rfl) ?_
          refine lv_iload hx hb dX3_leastByTwos_115 (lv_at hl 0 rfl) ?_
          refine lv_isub hx hb dX3_leastByTwos_117 ?_
          refine lv_topi (fun x175 e175 => ?_)
          refine lv_istore (lv' := [(4, .int x175), (6, .int x172), (5, .int 0), (3, .int 1), (2, .int x165), (0, .ref o), (1, .int i0)]) hx hb dX3_leastByTwos_118 hl (by decide) rfl (fun ls hl => ?_)
          refine lv_iload_n hx hb dX3_leastByTwos_120 rfl (lv_at hl 4 rfl) ?_
          refine lv_iload hx hb dX3_leastByTwos_121 (lv_at hl 1 rfl) ?_
          refine lv_bipush (v := 11) hx hb dX3_leastByTwos_123 (by decide) ?_
          refine lv_imul hx hb dX3_leastByTwos_125 ?_
          refine lv_topi (fun x176 e176 => ?_)
          refine lv_iload_n hx hb dX3_leastByTwos_126 rfl (lv_at hl 3 rfl) ?_
          refine lv_imul hx hb dX3_leastByTwos_127 ?_
          refine lv_topi (fun x177 e177 => ?_)
          refine lv_iload hx hb dX3_leastByTwos_128 (lv_at hl 2 rfl) ?_
          refine lv_imul hx hb dX3_leastByTwos_130 ?_
          refine lv_topi (fun x178 e178 => ?_)
          obtain rfl : x178 = 0 := e178.trans (by simp)
          refine lv_iadd hx hb dX3_leastByTwos_131 ?_
          refine lv_topi (fun y179 e179 => ?_)
          obtain rfl : x165 = y179 := (e179.trans (by simp)).symm
          refine lv_istore_n (lv' := [(2, .int x165), (4, .int x175), (6, .int x172), (5, .int 0), (3, .int 1), (0, .ref o), (1, .int i0)]) hx hb dX3_leastByTwos_132 rfl hl (by decide) rfl (fun ls hl => ?_)
          refine lv_iinc (v := 1) (lv' := [(5, .int 1), (2, .int x165), (4, .int x175), (6, .int x172), (3, .int 1), (0, .ref o), (1, .int i0)]) hx hb dX3_leastByTwos_133 hl (k := 3) rfl (by decide) (by decide) rfl (fun ls hl => ?_)
          refine lv_goto (tgt := 81) hx hb dX3_leastByTwos_136 (by decide) ?_
          refine lv_iload hx hb dX3_leastByTwos_81 (lv_at hl 0 rfl) ?_
          refine lv_iconst (v := 4) hx hb dX3_leastByTwos_83 (by decide) ?_
          refine lv_icmp_gt (tgt := 139) hx hb dX3_leastByTwos_84 (by decide) (fun c180 => absurd c180 (by decide)) (fun c180 => ?_)
          refine lv_iload hx hb dX3_leastByTwos_87 (lv_at hl 2 rfl) ?_
          refine lv_aload_n hx hb dX3_leastByTwos_89 rfl (lv_at hl 5 rfl) ?_
          refine va_get (D := (dC, dI)) (ci := 3) (v := .ref os) (C := RX3) (T := TX3) (N := 6) hx hb hts hin3 hown hK hP 5 rfl rfl 5 (by decide) hw0 (fun _ h9 => h9) rfl dX3_leastByTwos_90 ?_
          refine lv_iload hx hb dX3_leastByTwos_93 (lv_at hl 0 rfl) ?_
          refine va_iald hx hb hK hP 2 0 rfl rfl (vin (by decide) (by decide)) dX3_leastByTwos_95 ?_
          refine lv_topi (fun y181 e181 => ?_)
          obtain rfl : x130 = y181 := e181.symm
          refine va_mmin hx hb (hml.trans hl.1.symm) hown hw1 hw2 hw3 hw4 (Nat.le_of_ble_eq_true rfl) (Nat.le_of_ble_eq_true rfl) (Nat.le_of_ble_eq_true rfl) (Nat.le_of_ble_eq_true rfl) dX3_leastByTwos_96 ?_
          refine lv_topi (fun x182 e182 => ?_)
          have f182 : x182.toInt ≤ x175.toInt ∧ x182.toInt ≤ x130.toInt ∧ (x182.toInt = x175.toInt ∨ x182.toInt = x130.toInt) := by rw [e182]; exact mmmin_t
          refine lv_istore (lv' := [(6, .int x182), (5, .int 1), (2, .int x165), (4, .int x175), (3, .int 1), (0, .ref o), (1, .int i0)]) hx hb dX3_leastByTwos_99 hl (by decide) rfl (fun ls hl => ?_)
          refine lv_aload_n hx hb dX3_leastByTwos_101 rfl (lv_at hl 5 rfl) ?_
          refine va_get (D := (dC, dI)) (ci := 3) (v := .ref os) (C := RX3) (T := TX3) (N := 6) hx hb hts hin3 hown hK hP 5 rfl rfl 5 (by decide) hw0 (fun _ h9 => h9) rfl dX3_leastByTwos_102 ?_
          refine lv_iload hx hb dX3_leastByTwos_105 (lv_at hl 1 rfl) ?_
          refine lv_dup2_11 hx hb dX3_leastByTwos_107 rfl rfl ?_
          refine va_iald hx hb hK hP 2 0 rfl rfl (vin (by decide) (by decide)) dX3_leastByTwos_108 ?_
          refine lv_topi (fun y183 e183 => ?_)
          obtain rfl : x130 = y183 := e183.symm
          refine lv_iload hx hb dX3_leastByTwos_109 (lv_at hl 0 rfl) ?_
          refine lv_isub hx hb dX3_leastByTwos_111 ?_
          refine lv_topi (fun x184 e184 => ?_)
          refine va_iast hx hb hK hP hD hS 2 0 rfl rfl (vin (by decide) (by decide)) dX3_leastByTwos_112 (fun H locs hP hD hS => ?_)
          replace hP : va_P (dC, dI) vwCl [(km, .inl (cI, 6, .inl kfm)), (kd, .inl (cI, 6, .inl kfd)), (os, .inl (cI, 5, .inl (upd (upd (upd (upd (upd (upd (upd (upd (upd (upd (upd (upd (upd (upd (upd (upd (upd (u5.1 0) 0 x12) 1 x22) 2 x32) 3 x42) 4 x52) 0 x66) 1 x76) 2 x86) 3 x96) 4 x106) 0 x120) 1 x130) 2 x140) 3 x150) 4 x160) 0 x174) 1 x184))), (ks, .inl (cI, 5, .inl kfs)), (kw, .inl (cI, 14, .inl kfw)), (o, .inr (3, [.ref k, .ref op, .int oto, .ref oq, .ref ov, .ref os])), (op, .inl (cI, 6, .inl ofp)), (k, .inr (0, [.ref ks, .ref kw, .ref kc, .int kwd, .int kbg, .int kme, .ref kq, .ref km, .ref kd, .int ksi, .ref ka, .ref kk])), (kq, .inl (cI, 6, .inl kfq))] H := hP
          replace hD : va_D A [(km, .inl (cI, 6, .inl kfm)), (kd, .inl (cI, 6, .inl kfd)), (os, .inl (cI, 5, .inl (upd (upd (upd (upd (upd (upd (upd (upd (upd (upd (upd (upd (upd (upd (upd (upd (upd (u5.1 0) 0 x12) 1 x22) 2 x32) 3 x42) 4 x52) 0 x66) 1 x76) 2 x86) 3 x96) 4 x106) 0 x120) 1 x130) 2 x140) 3 x150) 4 x160) 0 x174) 1 x184))), (ks, .inl (cI, 5, .inl kfs)), (kw, .inl (cI, 14, .inl kfw)), (o, .inr (3, [.ref k, .ref op, .int oto, .ref oq, .ref ov, .ref os])), (op, .inl (cI, 6, .inl ofp)), (k, .inr (0, [.ref ks, .ref kw, .ref kc, .int kwd, .int kbg, .int kme, .ref kq, .ref km, .ref kd, .int ksi, .ref ka, .ref kk])), (kq, .inl (cI, 6, .inl kfq))] := hD
          refine lv_iload hx hb dX3_leastByTwos_113 (lv_at hl 3 rfl) ?_
          refine lv_iload hx hb dX3_leastByTwos_115 (lv_at hl 0 rfl) ?_
          refine lv_isub hx hb dX3_leastByTwos_117 ?_
          refine lv_topi (fun x185 e185 => ?_)
          refine lv_istore (lv' := [(4, .int x185), (6, .int x182), (5, .int 1), (2, .int x165), (3, .int 1), (0, .ref o), (1, .int i0)]) hx hb dX3_leastByTwos_118 hl (by decide) rfl (fun ls hl => ?_)
          refine lv_iload_n hx hb dX3_leastByTwos_120 rfl (lv_at hl 3 rfl) ?_
          refine lv_iload hx hb dX3_leastByTwos_121 (lv_at hl 1 rfl) ?_
          refine lv_bipush (v := 11) hx hb dX3_leastByTwos_123 (by decide) ?_
          refine lv_imul hx hb dX3_leastByTwos_125 ?_
          refine lv_topi (fun x186 e186 => ?_)
          refine lv_iload_n hx hb dX3_leastByTwos_126 rfl (lv_at hl 4 rfl) ?_
          refine lv_imul hx hb dX3_leastByTwos_127 ?_
          refine lv_topi (fun x187 e187 => ?_)
          refine lv_iload hx hb dX3_leastByTwos_128 (lv_at hl 2 rfl) ?_
          refine lv_imul hx hb dX3_leastByTwos_130 ?_
          refine lv_topi (fun x188 e188 => ?_)
          refine lv_iadd hx hb dX3_leastByTwos_131 ?_
          refine lv_topi (fun x189 e189 => ?_)
          refine lv_istore_n (lv' := [(2, .int x189), (4, .int x185), (6, .int x182), (5, .int 1), (3, .int 1), (0, .ref o), (1, .int i0)]) hx hb dX3_leastByTwos_132 rfl hl (by decide) rfl (fun ls hl => ?_)
          refine lv_iinc (v := 2) (lv' := [(5, .int 2), (2, .int x189), (4, .int x185), (6, .int x182), (3, .int 1), (0, .ref o), (1, .int i0)]) hx hb dX3_leastByTwos_133 hl (k := 3) rfl (by decide) (by decide) rfl (fun ls hl => ?_)
          refine lv_goto (tgt := 81) hx hb dX3_leastByTwos_136 (by decide) ?_
          refine lv_iload hx hb dX3_leastByTwos_81 (lv_at hl 0 rfl) ?_
          refine lv_iconst (v := 4) hx hb dX3_leastByTwos_83 (by decide) ?_
          refine lv_icmp_gt (tgt := 139) hx hb dX3_leastByTwos_84 (by decide) (fun c190 => absurd c190 (by decide)) (fun c190 => ?_)
          refine lv_iload hx hb dX3_leastByTwos_87 (lv_at hl 2 rfl) ?_
          refine lv_aload_n hx hb dX3_leastByTwos_89 rfl (lv_at hl 5 rfl) ?_
          refine va_get (D := (dC, dI)) (ci := 3) (v := .ref os) (C := RX3) (T := TX3) (N := 6) hx hb hts hin3 hown hK hP 5 rfl rfl 5 (by decide) hw0 (fun _ h9 => h9) rfl dX3_leastByTwos_90 ?_
          refine lv_iload hx hb dX3_leastByTwos_93 (lv_at hl 0 rfl) ?_
          refine va_iald hx hb hK hP 2 0 rfl rfl (vin (by decide) (by decide)) dX3_leastByTwos_95 ?_
          refine lv_topi (fun y191 e191 => ?_)
          obtain rfl : x140 = y191 := e191.symm
          refine va_mmin hx hb (hml.trans hl.1.symm) hown hw1 hw2 hw3 hw4 (Nat.le_of_ble_eq_true rfl) (Nat.le_of_ble_eq_true rfl) (Nat.le_of_ble_eq_true rfl) (Nat.le_of_ble_eq_true rfl) dX3_leastByTwos_96 ?_
          refine lv_topi (fun x192 e192 => ?_)
          have f192 : x192.toInt ≤ x185.toInt ∧ x192.toInt ≤ x140.toInt ∧ (x192.toInt = x185.toInt ∨ x192.toInt = x140.toInt) := by rw [e192]; exact mmmin_t
          refine lv_istore (lv' := [(6, .int x192), (5, .int 2), (2, .int x189), (4, .int x185), (3, .int 1), (0, .ref o), (1, .int i0)]) hx hb dX3_leastByTwos_99 hl (by decide) rfl (fun ls hl => ?_)
          refine lv_aload_n hx hb dX3_leastByTwos_101 rfl (lv_at hl 5 rfl) ?_
          refine va_get (D := (dC, dI)) (ci := 3) (v := .ref os) (C := RX3) (T := TX3) (N := 6) hx hb hts hin3 hown hK hP 5 rfl rfl 5 (by decide) hw0 (fun _ h9 => h9) rfl dX3_leastByTwos_102 ?_
          refine lv_iload hx hb dX3_leastByTwos_105 (lv_at hl 1 rfl) ?_
          refine lv_dup2_11 hx hb dX3_leastByTwos_107 rfl rfl ?_
          refine va_iald hx hb hK hP 2 0 rfl rfl (vin (by decide) (by decide)) dX3_leastByTwos_108 ?_
          refine lv_topi (fun y193 e193 => ?_)
          obtain rfl : x140 = y193 := e193.symm
          refine lv_iload hx hb dX3_leastByTwos_109 (lv_at hl 0 rfl) ?_
          refine lv_isub hx hb dX3_leastByTwos_111 ?_
          refine lv_topi (fun x194 e194 => ?_)
          refine va_iast hx hb hK hP hD hS 2 0 rfl rfl (vin (by decide) (by decide)) dX3_leastByTwos_112 (fun H locs hP hD hS => ?_)
          replace hP : va_P (dC, dI) vwCl [(km, .inl (cI, 6, .inl kfm)), (kd, .inl (cI, 6, .inl kfd)), (os, .inl (cI, 5, .inl (upd (upd (upd (upd (upd (upd (upd (upd (upd (upd (upd (upd (upd (upd (upd (upd (upd (upd (u5.1 0) 0 x12) 1 x22) 2 x32) 3 x42) 4 x52) 0 x66) 1 x76) 2 x86) 3 x96) 4 x106) 0 x120) 1 x130) 2 x140) 3 x150) 4 x160) 0 x174) 1 x184) 2 x194))), (ks, .inl (cI, 5, .inl kfs)), (kw, .inl (cI, 14, .inl kfw)), (o, .inr (3, [.ref k, .ref op, .int oto, .ref oq, .ref ov, .ref os])), (op, .inl (cI, 6, .inl ofp)), (k, .inr (0, [.ref ks, .ref kw, .ref kc, .int kwd, .int kbg, .int kme, .ref kq, .ref km, .ref kd, .int ksi, .ref ka, .ref kk])), (kq, .inl (cI, 6, .inl kfq))] H := hP
          replace hD : va_D A [(km, .inl (cI, 6, .inl kfm)), (kd, .inl (cI, 6, .inl kfd)), (os, .inl (cI, 5, .inl (upd (upd (upd (upd (upd (upd (upd (upd (upd (upd (upd (upd (upd (upd (upd (upd (upd (upd (u5.1 0) 0 x12) 1 x22) 2 x32) 3 x42) 4 x52) 0 x66) 1 x76) 2 x86) 3 x96) 4 x106) 0 x120) 1 x130) 2 x140) 3 x150) 4 x160) 0 x174) 1 x184) 2 x194))), (ks, .inl (cI, 5, .inl kfs)), (kw, .inl (cI, 14, .inl kfw)), (o, .inr (3, [.ref k, .ref op, .int oto, .ref oq, .ref ov, .ref os])), (op, .inl (cI, 6, .inl ofp)), (k, .inr (0, [.ref ks, .ref kw, .ref kc, .int kwd, .int kbg, .int kme, .ref kq, .ref km, .ref kd, .int ksi, .ref ka, .ref kk])), (kq, .inl (cI, 6, .inl kfq))] := hD
          refine lv_iload hx hb dX3_leastByTwos_113 (lv_at hl 3 rfl) ?_
          refine lv_iload hx hb dX3_leastByTwos_115 (lv_at hl 0 rfl) ?_
          refine lv_isub hx hb dX3_leastByTwos_117 ?_
          refine lv_topi (fun x195 e195 => ?_)
          refine lv_istore (lv' := [(4, .int x195), (6, .int x192), (5, .int 2), (2, .int x189), (3, .int 1), (0, .ref o), (1, .int i0)]) hx hb dX3_leastByTwos_118 hl (by decide) rfl (fun ls hl => ?_)
          refine lv_iload_n hx hb dX3_leastByTwos_120 rfl (lv_at hl 3 rfl) ?_
          refine lv_iload hx hb dX3_leastByTwos_121 (lv_at hl 1 rfl) ?_
          refine lv_bipush (v := 11) hx hb dX3_leastByTwos_123 (by decide) ?_
          refine lv_imul hx hb dX3_leastByTwos_125 ?_
          refine lv_topi (fun x196 e196 => ?_)
          refine lv_iload_n hx hb dX3_leastByTwos_126 rfl (lv_at hl 4 rfl) ?_
          refine lv_imul hx hb dX3_leastByTwos_127 ?_
          refine lv_topi (fun x197 e197 => ?_)
          refine lv_iload hx hb dX3_leastByTwos_128 (lv_at hl 2 rfl) ?_
          refine lv_imul hx hb dX3_leastByTwos_130 ?_
          refine lv_topi (fun x198 e198 => ?_)
          refine lv_iadd hx hb dX3_leastByTwos_131 ?_
          refine lv_topi (fun x199 e199 => ?_)
          refine lv_istore_n (lv' := [(2, .int x199), (4, .int x195), (6, .int x192), (5, .int 2), (3, .int 1), (0, .ref o), (1, .int i0)]) hx hb dX3_leastByTwos_132 rfl hl (by decide) rfl (fun ls hl => ?_)
          refine lv_iinc (v := 3) (lv' := [(5, .int 3), (2, .int x199), (4, .int x195), (6, .int x192), (3, .int 1), (0, .ref o), (1, .int i0)]) hx hb dX3_leastByTwos_133 hl (k := 3) rfl (by decide) (by decide) rfl (fun ls hl => ?_)
          refine lv_goto (tgt := 81) hx hb dX3_leastByTwos_136 (by decide) ?_
          refine lv_iload hx hb dX3_leastByTwos_81 (lv_at hl 0 rfl) ?_
          refine lv_iconst (v := 4) hx hb dX3_leastByTwos_83 (by decide) ?_
          refine lv_icmp_gt (tgt := 139) hx hb dX3_leastByTwos_84 (by decide) (fun c200 => absurd c200 (by decide)) (fun c200 => ?_)
          refine lv_iload hx hb dX3_leastByTwos_87 (lv_at hl 2 rfl) ?_
          refine lv_aload_n hx hb dX3_leastByTwos_89 rfl (lv_at hl 5 rfl) ?_
          refine va_get (D := (dC, dI)) (ci := 3) (v := .ref os) (C := RX3) (T := TX3) (N := 6) hx hb hts hin3 hown hK hP 5 rfl rfl 5 (by decide) hw0 (fun _ h9 => h9) rfl dX3_leastByTwos_90 ?_
          refine lv_iload hx hb dX3_leastByTwos_93 (lv_at hl 0 rfl) ?_
          refine va_iald hx hb hK hP 2 0 rfl rfl (vin (by decide) (by decide)) dX3_leastByTwos_95 ?_
          refine lv_topi (fun y201 e201 => ?_)
          obtain rfl : x150 = y201 := e201.symm
          refine va_mmin hx hb (hml.trans hl.1.symm) hown hw1 hw2 hw3 hw4 (Nat.le_of_ble_eq_true rfl) (Nat.le_of_ble_eq_true rfl) (Nat.le_of_ble_eq_true rfl) (Nat.le_of_ble_eq_true rfl) dX3_leastByTwos_96 ?_
          refine lv_topi (fun x202 e202 => ?_)
          have f202 : x202.toInt ≤ x195.toInt ∧ x202.toInt ≤ x150.toInt ∧ (x202.toInt = x195.toInt ∨ x202.toInt = x150.toInt) := by rw [e202]; exact mmmin_t
          refine lv_istore (lv' := [(6, .int x202), (5, .int 3), (2, .int x199), (4, .int x195), (3, .int 1), (0, .ref o), (1, .int i0)]) hx hb dX3_leastByTwos_99 hl (by decide) rfl (fun ls hl => ?_)
          refine lv_aload_n hx hb dX3_leastByTwos_101 rfl (lv_at hl 5 rfl) ?_
          refine va_get (D := (dC, dI)) (ci := 3) (v := .ref os) (C := RX3) (T := TX3) (N := 6) hx hb hts hin3 hown hK hP 5 rfl rfl 5 (by decide) hw0 (fun _ h9 => h9) rfl dX3_leastByTwos_102 ?_
          refine lv_iload hx hb dX3_leastByTwos_105 (lv_at hl 1 rfl) ?_
          refine lv_dup2_11 hx hb dX3_leastByTwos_107 rfl rfl ?_
          refine va_iald hx hb hK hP 2 0 rfl rfl (vin (by decide) (by decide)) dX3_leastByTwos_108 ?_
          refine lv_topi (fun y203 e203 => ?_)
          obtain rfl : x150 = y203 := e203.symm
          refine lv_iload hx hb dX3_leastByTwos_109 (lv_at hl 0 rfl) ?_
          refine lv_isub hx hb dX3_leastByTwos_111 ?_
          refine lv_topi (fun x204 e204 => ?_)
          refine va_iast hx hb hK hP hD hS 2 0 rfl rfl (vin (by decide) (by decide)) dX3_leastByTwos_112 (fun H locs hP hD hS => ?_)
          replace hP : va_P (dC, dI) vwCl [(km, .inl (cI, 6, .inl kfm)), (kd, .inl (cI, 6, .inl kfd)), (os, .inl (cI, 5, .inl (upd (upd (upd (upd (upd (upd (upd (upd (upd (upd (upd (upd (upd (upd (upd (upd (upd (upd (upd (u5.1 0) 0 x12) 1 x22) 2 x32) 3 x42) 4 x52) 0 x66) 1 x76) 2 x86) 3 x96) 4 x106) 0 x120) 1 x130) 2 x140) 3 x150) 4 x160) 0 x174) 1 x184) 2 x194) 3 x204))), (ks, .inl (cI, 5, .inl kfs)), (kw, .inl (cI, 14, .inl kfw)), (o, .inr (3, [.ref k, .ref op, .int oto, .ref oq, .ref ov, .ref os])), (op, .inl (cI, 6, .inl ofp)), (k, .inr (0, [.ref ks, .ref kw, .ref kc, .int kwd, .int kbg, .int kme, .ref kq, .ref km, .ref kd, .int ksi, .ref ka, .ref kk])), (kq, .inl (cI, 6, .inl kfq))] H := hP
          replace hD : va_D A [(km, .inl (cI, 6, .inl kfm)), (kd, .inl (cI, 6, .inl kfd)), (os, .inl (cI, 5, .inl (upd (upd (upd (upd (upd (upd (upd (upd (upd (upd (upd (upd (upd (upd (upd (upd (upd (upd (upd (u5.1 0) 0 x12) 1 x22) 2 x32) 3 x42) 4 x52) 0 x66) 1 x76) 2 x86) 3 x96) 4 x106) 0 x120) 1 x130) 2 x140) 3 x150) 4 x160) 0 x174) 1 x184) 2 x194) 3 x204))), (ks, .inl (cI, 5, .inl kfs)), (kw, .inl (cI, 14, .inl kfw)), (o, .inr (3, [.ref k, .ref op, .int oto, .ref oq, .ref ov, .ref os])), (op, .inl (cI, 6, .inl ofp)), (k, .inr (0, [.ref ks, .ref kw, .ref kc, .int kwd, .int kbg, .int kme, .ref kq, .ref km, .ref kd, .int ksi, .ref ka, .ref kk])), (kq, .inl (cI, 6, .inl kfq))] := hD
          refine lv_iload hx hb dX3_leastByTwos_113 (lv_at hl 3 rfl) ?_
          refine lv_iload hx hb dX3_leastByTwos_115 (lv_at hl 0 rfl) ?_
          refine lv_isub hx hb dX3_leastByTwos_117 ?_
          refine lv_topi (fun x205 e205 => ?_)
          refine lv_istore (lv' := [(4, .int x205), (6, .int x202), (5, .int 3), (2, .int x199), (3, .int 1), (0, .ref o), (1, .int i0)]) hx hb dX3_leastByTwos_118 hl (by decide) rfl (fun ls hl => ?_)
          refine lv_iload_n hx hb dX3_leastByTwos_120 rfl (lv_at hl 3 rfl) ?_
          refine lv_iload hx hb dX3_leastByTwos_121 (lv_at hl 1 rfl) ?_
          refine lv_bipush (v := 11) hx hb dX3_leastByTwos_123 (by decide) ?_
          refine lv_imul hx hb dX3_leastByTwos_125 ?_
          refine lv_topi (fun x206 e206 => ?_)
          refine lv_iload_n hx hb dX3_leastByTwos_126 rfl (lv_at hl 4 rfl) ?_
          refine lv_imul hx hb dX3_leastByTwos_127 ?_
          refine lv_topi (fun x207 e207 => ?_)
          refine lv_iload hx hb dX3_leastByTwos_128 (lv_at hl 2 rfl) ?_
          refine lv_imul hx hb dX3_leastByTwos_130 ?_
          refine lv_topi (fun x208 e208 => ?_)
          refine lv_iadd hx hb dX3_leastByTwos_131 ?_
          refine lv_topi (fun x209 e209 => ?_)
          refine lv_istore_n (lv' := [(2, .int x209), (4, .int x205), (6, .int x202), (5, .int 3), (3, .int 1), (0, .ref o), (1, .int i0)]) hx hb dX3_leastByTwos_132 rfl hl (by decide) rfl (fun ls hl => ?_)
          refine lv_iinc (v := 4) (lv' := [(5, .int 4), (2, .int x209), (4, .int x205), (6, .int x202), (3, .int 1), (0, .ref o), (1, .int i0)]) hx hb dX3_leastByTwos_133 hl (k := 3) rfl (by decide) (by decide) rfl (fun ls hl => ?_)
          refine lv_goto (tgt := 81) hx hb dX3_leastByTwos_136 (by decide) ?_
          refine lv_iload hx hb dX3_leastByTwos_81 (lv_at hl 0 rfl) ?_
          refine lv_iconst (v := 4) hx hb dX3_leastByTwos_83 (by decide) ?_
          refine lv_icmp_gt (tgt := 139) hx hb dX3_leastByTwos_84 (by decide) (fun c210 => absurd c210 (by decide)) (fun c210 => ?_)
          refine lv_iload hx hb dX3_leastByTwos_87 (lv_at hl 2 rfl) ?_
          refine lv_aload_n hx hb dX3_leastByTwos_89 rfl (lv_at hl 5 rfl) ?_
          refine va_get (D := (dC, dI)) (ci := 3) (v := .ref os) (C := RX3) (T := TX3) (N := 6) hx hb hts hin3 hown hK hP 5 rfl rfl 5 (by decide) hw0 (fun _ h9 => h9) rfl dX3_leastByTwos_90 ?_
          refine lv_iload hx hb dX3_leastByTwos_93 (lv_at hl 0 rfl) ?_
          refine va_iald hx hb hK hP 2 0 rfl rfl (vin (by decide) (by decide)) dX3_leastByTwos_95 ?_
          refine lv_topi (fun y211 e211 => ?_)
          obtain rfl : x160 = y211 := e211.symm
          refine va_mmin hx hb (hml.trans hl.1.symm) hown hw1 hw2 hw3 hw4 (Nat.le_of_ble_eq_true rfl) (Nat.le_of_ble_eq_true rfl) (Nat.le_of_ble_eq_true rfl) (Nat.le_of_ble_eq_true rfl) dX3_leastByTwos_96 ?_
          refine lv_topi (fun x212 e212 => ?_)
          have f212 : x212.toInt ≤ x205.toInt ∧ x212.toInt ≤ x160.toInt ∧ (x212.toInt = x205.toInt ∨ x212.toInt = x160.toInt) := by rw [e212]; exact mmmin_t
          refine lv_istore (lv' := [(6, .int x212), (5, .int 4), (2, .int x209), (4, .int x205), (3, .int 1), (0, .ref o), (1, .int i0)]) hx hb dX3_leastByTwos_99 hl (by decide) rfl (fun ls hl => ?_)
          refine lv_aload_n hx hb dX3_leastByTwos_101 rfl (lv_at hl 5 rfl) ?_
          refine va_get (D := (dC, dI)) (ci := 3) (v := .ref os) (C := RX3) (T := TX3) (N := 6) hx hb hts hin3 hown hK hP 5 rfl rfl 5 (by decide) hw0 (fun _ h9 => h9) rfl dX3_leastByTwos_102 ?_
          refine lv_iload hx hb dX3_leastByTwos_105 (lv_at hl 1 rfl) ?_
          refine lv_dup2_11 hx hb dX3_leastByTwos_107 rfl rfl ?_
          refine va_iald hx hb hK hP 2 0 rfl rfl (vin (by decide) (by decide)) dX3_leastByTwos_108 ?_
          refine lv_topi (fun y213 e213 => ?_)
          obtain rfl : x160 = y213 := e213.symm
          refine lv_iload hx hb dX3_leastByTwos_109 (lv_at hl 0 rfl) ?_
          refine lv_isub hx hb dX3_leastByTwos_111 ?_
          refine lv_topi (fun x214 e214 => ?_)
          refine va_iast hx hb hK hP hD hS 2 0 rfl rfl (vin (by decide) (by decide)) dX3_leastByTwos_112 (fun H locs hP hD hS => ?_)
          replace hP : va_P (dC, dI) vwCl [(km, .inl (cI, 6, .inl kfm)), (kd, .inl (cI, 6, .inl kfd)), (os, .inl (cI, 5, .inl (upd (upd (upd (upd (upd (upd (upd (upd (upd (upd (upd (upd (upd (upd (upd (upd (upd (upd (upd (upd (u5.1 0) 0 x12) 1 x22) 2 x32) 3 x42) 4 x52) 0 x66) 1 x76) 2 x86) 3 x96) 4 x106) 0 x120) 1 x130) 2 x140) 3 x150) 4 x160) 0 x174) 1 x184) 2 x194) 3 x204) 4 x214))), (ks, .inl (cI, 5, .inl kfs)), (kw, .inl (cI, 14, .inl kfw)), (o, .inr (3, [.ref k, .ref op, .int oto, .ref oq, .ref ov, .ref os])), (op, .inl (cI, 6, .inl ofp)), (k, .inr (0, [.ref ks, .ref kw, .ref kc, .int kwd, .int kbg, .int kme, .ref kq, .ref km, .ref kd, .int ksi, .ref ka, .ref kk])), (kq, .inl (cI, 6, .inl kfq))] H := hP
          replace hD : va_D A [(km, .inl (cI, 6, .inl kfm)), (kd, .inl (cI, 6, .inl kfd)), (os, .inl (cI, 5, .inl (upd (upd (upd (upd (upd (upd (upd (upd (upd (upd (upd (upd (upd (upd (upd (upd (upd (upd (upd (upd (u5.1 0) 0 x12) 1 x22) 2 x32) 3 x42) 4 x52) 0 x66) 1 x76) 2 x86) 3 x96) 4 x106) 0 x120) 1 x130) 2 x140) 3 x150) 4 x160) 0 x174) 1 x184) 2 x194) 3 x204) 4 x214))), (ks, .inl (cI, 5, .inl kfs)), (kw, .inl (cI, 14, .inl kfw)), (o, .inr (3, [.ref k, .ref op, .int oto, .ref oq, .ref ov, .ref os])), (op, .inl (cI, 6, .inl ofp)), (k, .inr (0, [.ref ks, .ref kw, .ref kc, .int kwd, .int kbg, .int kme, .ref kq, .ref km, .ref kd, .int ksi, .ref ka, .ref kk])), (kq, .inl (cI, 6, .inl kfq))] := hD
          refine lv_iload hx hb dX3_leastByTwos_113 (lv_at hl 3 rfl) ?_
          refine lv_iload hx hb dX3_leastByTwos_115 (lv_at hl 0 rfl) ?_
          refine lv_isub hx hb dX3_leastByTwos_117 ?_
          refine lv_topi (fun x215 e215 => ?_)
          refine lv_istore (lv' := [(4, .int x215), (6, .int x212), (5, .int 4), (2, .int x209), (3, .int 1), (0, .ref o), (1, .int i0)]) hx hb dX3_leastByTwos_118 hl (by decide) rfl (fun ls hl => ?_)
          refine lv_iload_n hx hb dX3_leastByTwos_120 rfl (lv_at hl 3 rfl) ?_
          refine lv_iload hx hb dX3_leastByTwos_121 (lv_at hl 1 rfl) ?_
          refine lv_bipush (v := 11) hx hb dX3_leastByTwos_123 (by decide) ?_
          refine lv_imul hx hb dX3_leastByTwos_125 ?_
          refine lv_topi (fun x216 e216 => ?_)
          refine lv_iload_n hx hb dX3_leastByTwos_126 rfl (lv_at hl 4 rfl) ?_
          refine lv_imul hx hb dX3_leastByTwos_127 ?_
          refine lv_topi (fun x217 e217 => ?_)
          refine lv_iload hx hb dX3_leastByTwos_128 (lv_at hl 2 rfl) ?_
          refine lv_imul hx hb dX3_leastByTwos_130 ?_
          refine lv_topi (fun x218 e218 => ?_)
          refine lv_iadd hx hb dX3_leastByTwos_131 ?_
          refine lv_topi (fun x219 e219 => ?_)
          refine lv_istore_n (lv' := [(2, .int x219), (4, .int x215), (6, .int x212), (5, .int 4), (3, .int 1), (0, .ref o), (1, .int i0)]) hx hb dX3_leastByTwos_132 rfl hl (by decide) rfl (fun ls hl => ?_)
          refine lv_iinc (v := 5) (lv' := [(5, .int 5), (2, .int x219), (4, .int x215), (6, .int x212), (3, .int 1), (0, .ref o), (1, .int i0)]) hx hb dX3_leastByTwos_133 hl (k := 3) rfl (by decide) (by decide) rfl (fun ls hl => ?_)
          refine lv_goto (tgt := 81) hx hb dX3_leastByTwos_136 (by decide) ?_
          refine lv_iload hx hb dX3_leastByTwos_81 (lv_at hl 0 rfl) ?_
          refine lv_iconst (v := 4) hx hb dX3_leastByTwos_83 (by decide) ?_
          refine lv_icmp_gt (tgt := 139) hx hb dX3_leastByTwos_84 (by decide) (fun c220 => ?_) (fun c220 => absurd c220 (by decide))
          refine lv_iload hx hb dX3_leastByTwos_139 (lv_at hl 2 rfl) ?_
          refine lv_if_le (tgt := 147) hx hb dX3_leastByTwos_141 (by decide) (fun c221 => ?_) (fun c221 => ?_)
          · have t221 : x215.toInt ≤ (0 : Int) := (tle c221)
            refine lv_iinc (v := 0) (lv' := [(3, .int 0), (5, .int 5), (2, .int x219), (4, .int x215), (6, .int x212), (0, .ref o), (1, .int i0)]) hx hb dX3_leastByTwos_147 hl (k := 4) rfl (by decide) (by decide) rfl (fun ls hl => ?_)
            refine lv_goto (tgt := 66) hx hb dX3_leastByTwos_150 (by decide) ?_
            refine lv_iload_n hx hb dX3_leastByTwos_66 rfl (lv_at hl 0 rfl) ?_
            refine lv_iconst (v := 1) hx hb dX3_leastByTwos_67 (by decide) ?_
            refine lv_icmp_lt (tgt := 153) hx hb dX3_leastByTwos_68 (by decide) (fun c222 => ?_) (fun c222 => absurd c222 (by decide))
            refine lv_iload_n hx hb dX3_leastByTwos_153 rfl (lv_at hl 2 rfl) ?_
            have hP9 := mx_subP (wc := [(o, .inr (3, [.ref k, .ref op, .int oto, .ref oq, .ref ov, .ref os])), (op, .inl (cI, 6, .inl ofp)), (os, .inl (cI, 5, .inl (upd (upd (upd (upd (upd (upd (upd (upd (upd (upd (upd (upd (upd (upd (upd (upd (upd (upd (upd (upd (u5.1 0) 0 x12) 1 x22) 2 x32) 3 x42) 4 x52) 0 x66) 1 x76) 2 x86) 3 x96) 4 x106) 0 x120) 1 x130) 2 x140) 3 x150) 4 x160) 0 x174) 1 x184) 2 x194) 3 x204) 4 x214))), (k, .inr (0, [.ref ks, .ref kw, .ref kc, .int kwd, .int kbg, .int kme, .ref kq, .ref km, .ref kd, .int ksi, .ref ka, .ref kk])), (ks, .inl (cI, 5, .inl kfs)), (kw, .inl (cI, 14, .inl kfw)), (kq, .inl (cI, 6, .inl kfq)), (km, .inl (cI, 6, .inl kfm)), (kd, .inl (cI, 6, .inl kfd))]) hP [5, 6, 2, 7, 3, 4, 8, 0, 1] rfl
            have hD9 := hD.sub (ws' := [(o, .inr (3, [.ref k, .ref op, .int oto, .ref oq, .ref ov, .ref os])), (op, .inl (cI, 6, .inl ofp)), (os, .inl (cI, 5, .inl (upd (upd (upd (upd (upd (upd (upd (upd (upd (upd (upd (upd (upd (upd (upd (upd (upd (upd (upd (upd (u5.1 0) 0 x12) 1 x22) 2 x32) 3 x42) 4 x52) 0 x66) 1 x76) 2 x86) 3 x96) 4 x106) 0 x120) 1 x130) 2 x140) 3 x150) 4 x160) 0 x174) 1 x184) 2 x194) 3 x204) 4 x214))), (k, .inr (0, [.ref ks, .ref kw, .ref kc, .int kwd, .int kbg, .int kme, .ref kq, .ref km, .ref kd, .int ksi, .ref ka, .ref kk])), (ks, .inl (cI, 5, .inl kfs)), (kw, .inl (cI, 14, .inl kfw)), (kq, .inl (cI, 6, .inl kfq)), (km, .inl (cI, 6, .inl kfm)), (kd, .inl (cI, 6, .inl kfd))]) [5, 6, 2, 7, 3, 4, 8, 0, 1] (by decide) rfl
            exact W.iret (v := x219) hx hb hr (fun t ht hW => ⟨⟨x219, ((fun u9 => ([(upd (upd (upd (upd (upd (upd (upd (upd (upd (upd (upd (upd (upd (upd (upd (upd (upd (upd (upd (upd (u5.1 0) 0 x12) 1 x22) 2 x32) 3 x42) 4 x52) 0 x66) 1 x76) 2 x86) 3 x96) 4 x106) 0 x120) 1 x130) 2 x140) 3 x150) 4 x160) 0 x174) 1 x184) 2 x194) 3 x204) 4 x214)] : List (Nat → Int32)).getD u9 (fun _ => 0)), (fun u9 => ([] : List Int32).getD u9 0), (fun u9 => ([] : List Int64).getD u9 0)), rfl, trivial, by rw [ht]; exact hP9, hD9⟩, hS.F ht⟩) hS.2.2 dX3_leastByTwos_154
          · have t221 : (0 : Int) < x215.toInt := (tnle c221)
            refine lv_bipush (v := (-6)) hx hb dX3_leastByTwos_144 (by decide) ?_
            have hP9 := mx_subP (wc := [(o, .inr (3, [.ref k, .ref op, .int oto, .ref oq, .ref ov, .ref os])), (op, .inl (cI, 6, .inl ofp)), (os, .inl (cI, 5, .inl (upd (upd (upd (upd (upd (upd (upd (upd (upd (upd (upd (upd (upd (upd (upd (upd (upd (upd (upd (upd (u5.1 0) 0 x12) 1 x22) 2 x32) 3 x42) 4 x52) 0 x66) 1 x76) 2 x86) 3 x96) 4 x106) 0 x120) 1 x130) 2 x140) 3 x150) 4 x160) 0 x174) 1 x184) 2 x194) 3 x204) 4 x214))), (k, .inr (0, [.ref ks, .ref kw, .ref kc, .int kwd, .int kbg, .int kme, .ref kq, .ref km, .ref kd, .int ksi, .ref ka, .ref kk])), (ks, .inl (cI, 5, .inl kfs)), (kw, .inl (cI, 14, .inl kfw)), (kq, .inl (cI, 6, .inl kfq)), (km, .inl (cI, 6, .inl kfm)), (kd, .inl (cI, 6, .inl kfd))]) hP [5, 6, 2, 7, 3, 4, 8, 0, 1] rfl
            have hD9 := hD.sub (ws' := [(o, .inr (3, [.ref k, .ref op, .int oto, .ref oq, .ref ov, .ref os])), (op, .inl (cI, 6, .inl ofp)), (os, .inl (cI, 5, .inl (upd (upd (upd (upd (upd (upd (upd (upd (upd (upd (upd (upd (upd (upd (upd (upd (upd (upd (upd (upd (u5.1 0) 0 x12) 1 x22) 2 x32) 3 x42) 4 x52) 0 x66) 1 x76) 2 x86) 3 x96) 4 x106) 0 x120) 1 x130) 2 x140) 3 x150) 4 x160) 0 x174) 1 x184) 2 x194) 3 x204) 4 x214))), (k, .inr (0, [.ref ks, .ref kw, .ref kc, .int kwd, .int kbg, .int kme, .ref kq, .ref km, .ref kd, .int ksi, .ref ka, .ref kk])), (ks, .inl (cI, 5, .inl kfs)), (kw, .inl (cI, 14, .inl kfw)), (kq, .inl (cI, 6, .inl kfq)), (km, .inl (cI, 6, .inl kfm)), (kd, .inl (cI, 6, .inl kfd))]) [5, 6, 2, 7, 3, 4, 8, 0, 1] (by decide) rfl
            exact W.iret (v := (-6)) hx hb hr (fun t ht hW => ⟨⟨(-6), ((fun u9 => ([(upd (upd (upd (upd (upd (upd (upd (upd (upd (upd (upd (upd (upd (upd (upd (upd (upd (upd (upd (upd (u5.1 0) 0 x12) 1 x22) 2 x32) 3 x42) 4 x52) 0 x66) 1 x76) 2 x86) 3 x96) 4 x106) 0 x120) 1 x130) 2 x140) 3 x150) 4 x160) 0 x174) 1 x184) 2 x194) 3 x204) 4 x214)] : List (Nat → Int32)).getD u9 (fun _ => 0)), (fun u9 => ([] : List Int32).getD u9 0), (fun u9 => ([] : List Int64).getD u9 0)), rfl, trivial, by rw [ht]; exact hP9, hD9⟩, hS.F ht⟩) hS.2.2 dX3_leastByTwos_146
        · have t167 : (0 : Int) < x161.toInt := (tnle c167)
          refine lv_bipush (v := (-6)) hx hb dX3_leastByTwos_144 (by decide) ?_
          have hP9 := mx_subP (wc := [(o, .inr (3, [.ref k, .ref op, .int oto, .ref oq, .ref ov, .ref os])), (op, .inl (cI, 6, .inl ofp)), (os, .inl (cI, 5, .inl (upd (upd (upd (upd (upd (upd (upd (upd (upd (upd (upd (upd (upd (upd (upd (u5.1 0) 0 x12) 1 x22) 2 x32) 3 x42) 4 x52) 0 x66) 1 x76) 2 x86) 3 x96) 4 x106) 0 x120) 1 x130) 2 x140) 3 x150) 4 x160))), (k, .inr (0, [.ref ks, .ref kw, .ref kc, .int kwd, .int kbg, .int kme, .ref kq, .ref km, .ref kd, .int ksi, .ref ka, .ref kk])), (ks, .inl (cI, 5, .inl kfs)), (kw, .inl (cI, 14, .inl kfw)), (kq, .inl (cI, 6, .inl kfq)), (km, .inl (cI, 6, .inl kfm)), (kd, .inl (cI, 6, .inl kfd))]) hP [5, 6, 2, 7, 3, 4, 8, 0, 1] rfl
          have hD9 := hD.sub (ws' := [(o, .inr (3, [.ref k, .ref op, .int oto, .ref oq, .ref ov, .ref os])), (op, .inl (cI, 6, .inl ofp)), (os, .inl (cI, 5, .inl (upd (upd (upd (upd (upd (upd (upd (upd (upd (upd (upd (upd (upd (upd (upd (u5.1 0) 0 x12) 1 x22) 2 x32) 3 x42) 4 x52) 0 x66) 1 x76) 2 x86) 3 x96) 4 x106) 0 x120) 1 x130) 2 x140) 3 x150) 4 x160))), (k, .inr (0, [.ref ks, .ref kw, .ref kc, .int kwd, .int kbg, .int kme, .ref kq, .ref km, .ref kd, .int ksi, .ref ka, .ref kk])), (ks, .inl (cI, 5, .inl kfs)), (kw, .inl (cI, 14, .inl kfw)), (kq, .inl (cI, 6, .inl kfq)), (km, .inl (cI, 6, .inl kfm)), (kd, .inl (cI, 6, .inl kfd))]) [5, 6, 2, 7, 3, 4, 8, 0, 1] (by decide) rfl
          exact W.iret (v := (-6)) hx hb hr (fun t ht hW => ⟨⟨(-6), ((fun u9 => ([(upd (upd (upd (upd (upd (upd (upd (upd (upd (upd (upd (upd (upd (upd (upd (u5.1 0) 0 x12) 1 x22) 2 x32) 3 x42) 4 x52) 0 x66) 1 x76) 2 x86) 3 x96) 4 x106) 0 x120) 1 x130) 2 x140) 3 x150) 4 x160)] : List (Nat → Int32)).getD u9 (fun _ => 0)), (fun u9 => ([] : List Int32).getD u9 0), (fun u9 => ([] : List Int64).getD u9 0)), rfl, trivial, by rw [ht]; exact hP9, hD9⟩, hS.F ht⟩) hS.2.2 dX3_leastByTwos_146
      · have t113 : (0 : Int) < x107.toInt := (tnle c113)
        refine lv_bipush (v := (-6)) hx hb dX3_leastByTwos_144 (by decide) ?_
        have hP9 := mx_subP (wc := [(o, .inr (3, [.ref k, .ref op, .int oto, .ref oq, .ref ov, .ref os])), (op, .inl (cI, 6, .inl ofp)), (os, .inl (cI, 5, .inl (upd (upd (upd (upd (upd (upd (upd (upd (upd (upd (u5.1 0) 0 x12) 1 x22) 2 x32) 3 x42) 4 x52) 0 x66) 1 x76) 2 x86) 3 x96) 4 x106))), (k, .inr (0, [.ref ks, .ref kw, .ref kc, .int kwd, .int kbg, .int kme, .ref kq, .ref km, .ref kd, .int ksi, .ref ka, .ref kk])), (ks, .inl (cI, 5, .inl kfs)), (kw, .inl (cI, 14, .inl kfw)), (kq, .inl (cI, 6, .inl kfq)), (km, .inl (cI, 6, .inl kfm)), (kd, .inl (cI, 6, .inl kfd))]) hP [5, 6, 2, 7, 3, 4, 8, 0, 1] rfl
        have hD9 := hD.sub (ws' := [(o, .inr (3, [.ref k, .ref op, .int oto, .ref oq, .ref ov, .ref os])), (op, .inl (cI, 6, .inl ofp)), (os, .inl (cI, 5, .inl (upd (upd (upd (upd (upd (upd (upd (upd (upd (upd (u5.1 0) 0 x12) 1 x22) 2 x32) 3 x42) 4 x52) 0 x66) 1 x76) 2 x86) 3 x96) 4 x106))), (k, .inr (0, [.ref ks, .ref kw, .ref kc, .int kwd, .int kbg, .int kme, .ref kq, .ref km, .ref kd, .int ksi, .ref ka, .ref kk])), (ks, .inl (cI, 5, .inl kfs)), (kw, .inl (cI, 14, .inl kfw)), (kq, .inl (cI, 6, .inl kfq)), (km, .inl (cI, 6, .inl kfm)), (kd, .inl (cI, 6, .inl kfd))]) [5, 6, 2, 7, 3, 4, 8, 0, 1] (by decide) rfl
        exact W.iret (v := (-6)) hx hb hr (fun t ht hW => ⟨⟨(-6), ((fun u9 => ([(upd (upd (upd (upd (upd (upd (upd (upd (upd (upd (u5.1 0) 0 x12) 1 x22) 2 x32) 3 x42) 4 x52) 0 x66) 1 x76) 2 x86) 3 x96) 4 x106)] : List (Nat → Int32)).getD u9 (fun _ => 0)), (fun u9 => ([] : List Int32).getD u9 0), (fun u9 => ([] : List Int64).getD u9 0)), rfl, trivial, by rw [ht]; exact hP9, hD9⟩, hS.F ht⟩) hS.2.2 dX3_leastByTwos_146
    · have t59 : (0 : Int) < x53.toInt := (tnle c59)
      refine lv_bipush (v := (-6)) hx hb dX3_leastByTwos_144 (by decide) ?_
      have hP9 := mx_subP (wc := [(o, .inr (3, [.ref k, .ref op, .int oto, .ref oq, .ref ov, .ref os])), (op, .inl (cI, 6, .inl ofp)), (os, .inl (cI, 5, .inl (upd (upd (upd (upd (upd (u5.1 0) 0 x12) 1 x22) 2 x32) 3 x42) 4 x52))), (k, .inr (0, [.ref ks, .ref kw, .ref kc, .int kwd, .int kbg, .int kme, .ref kq, .ref km, .ref kd, .int ksi, .ref ka, .ref kk])), (ks, .inl (cI, 5, .inl kfs)), (kw, .inl (cI, 14, .inl kfw)), (kq, .inl (cI, 6, .inl kfq)), (km, .inl (cI, 6, .inl kfm)), (kd, .inl (cI, 6, .inl kfd))]) hP [5, 6, 2, 7, 3, 4, 8, 0, 1] rfl
      have hD9 := hD.sub (ws' := [(o, .inr (3, [.ref k, .ref op, .int oto, .ref oq, .ref ov, .ref os])), (op, .inl (cI, 6, .inl ofp)), (os, .inl (cI, 5, .inl (upd (upd (upd (upd (upd (u5.1 0) 0 x12) 1 x22) 2 x32) 3 x42) 4 x52))), (k, .inr (0, [.ref ks, .ref kw, .ref kc, .int kwd, .int kbg, .int kme, .ref kq, .ref km, .ref kd, .int ksi, .ref ka, .ref kk])), (ks, .inl (cI, 5, .inl kfs)), (kw, .inl (cI, 14, .inl kfw)), (kq, .inl (cI, 6, .inl kfq)), (km, .inl (cI, 6, .inl kfm)), (kd, .inl (cI, 6, .inl kfd))]) [5, 6, 2, 7, 3, 4, 8, 0, 1] (by decide) rfl
      exact W.iret (v := (-6)) hx hb hr (fun t ht hW => ⟨⟨(-6), ((fun u9 => ([(upd (upd (upd (upd (upd (u5.1 0) 0 x12) 1 x22) 2 x32) 3 x42) 4 x52)] : List (Nat → Int32)).getD u9 (fun _ => 0)), (fun u9 => ([] : List Int32).getD u9 0), (fun u9 => ([] : List Int64).getD u9 0)), rfl, trivial, by rw [ht]; exact hP9, hD9⟩, hS.F ht⟩) hS.2.2 dX3_leastByTwos_146
  | succ n1 ih =>
    skip
    refine lv_iload_n hx hb dX3_leastByTwos_4 rfl (lv_at hl 0 rfl) ?_
    refine lv_bipush (v := 6) hx hb dX3_leastByTwos_5 (by decide) ?_
    refine lv_icmp_ge (tgt := 59) hx hb dX3_leastByTwos_7 (by decide) (fun c223 => by exfalso; have t223 : (6 : Int) ≤ y3.toInt := (tle c223); omega) (fun c223 => ?_)
    refine lv_aload_n hx hb dX3_leastByTwos_10 rfl (lv_at hl 2 rfl) ?_
    refine va_get (D := (dC, dI)) (ci := 3) (v := .ref op) (C := RX3) (T := TX3) (N := 6) hx hb hts hin3 hown hK hP 0 rfl rfl 1 (by decide) hw5 (fun _ h9 => h9) rfl dX3_leastByTwos_11 ?_
    refine lv_iload_n hx hb dX3_leastByTwos_14 rfl (lv_at hl 0 rfl) ?_
    refine va_iald hx hb hK hP 1 0 rfl rfl (vin (by omega) (by omega)) dX3_leastByTwos_15 ?_
    refine lv_topi (fun x224 e224 => ?_)
    have g224 : 0 ≤ x224.toInt ∧ x224.toInt ≤ 9 := by rw [e224]; exact rgI h_ofp (by omega) (by omega)
    refine lv_if_le (tgt := 33) hx hb dX3_leastByTwos_16 (by decide) (fun c225 => ?_) (fun c225 => ?_)
    · have t225 : x224.toInt ≤ (0 : Int) := (tle c225)
      refine lv_iload_n hx hb dX3_leastByTwos_33 rfl (lv_at hl 1 rfl) ?_
      refine lv_aload_n hx hb dX3_leastByTwos_34 rfl (lv_at hl 2 rfl) ?_
      refine va_get (D := (dC, dI)) (ci := 3) (v := .ref op) (C := RX3) (T := TX3) (N := 6) hx hb hts hin3 hown hK hP 0 rfl rfl 1 (by decide) hw5 (fun _ h9 => h9) rfl dX3_leastByTwos_35 ?_
      refine lv_iload_n hx hb dX3_leastByTwos_38 rfl (lv_at hl 0 rfl) ?_
      refine va_iald hx hb hK hP 1 0 rfl rfl (vin (by omega) (by omega)) dX3_leastByTwos_39 ?_
      refine lv_topi (fun x226 e226 => ?_)
      have g226 : 0 ≤ x226.toInt ∧ x226.toInt ≤ 9 := by rw [e226]; exact rgI h_ofp (by omega) (by omega)
      refine lv_aload_n hx hb dX3_leastByTwos_40 rfl (lv_at hl 2 rfl) ?_
      refine va_get (D := (dC, dI)) (ci := 3) (v := .ref k) (C := RX3) (T := TX3) (N := 6) hx hb hts hin3 hown hK hP 0 rfl rfl 0 (by decide) hw6 (fun _ h9 => h9) rfl dX3_leastByTwos_41 ?_
      refine lv_iload_n hx hb dX3_leastByTwos_44 rfl (lv_at hl 0 rfl) ?_
      refine lv_iconst (v := 0) hx hb dX3_leastByTwos_45 (by decide) ?_
      refine lv_iconst (v := 0) hx hb dX3_leastByTwos_46 (by decide) ?_
      refine mx_i (wr := [(o, .inr (3, [.ref k, .ref op, .int oto, .ref oq, .ref ov, .ref os])), (op, .inl (cI, 6, .inl ofp)), (os, .inl (cI, 5, .inl ofs)), (ks, .inl (cI, 5, .inl kfs)), (kw, .inl (cI, 14, .inl kfw)), (kd, .inl (cI, 6, .inl kfd))]) (va_runV (As := [.int y3, .int 0, .int 0]) (rest := [.int x226, .int y2]) ⟨hx, hb, hml, hown, hts⟩ (c_X0_toBoil l dC dI cI cZ cK tS aK aV k y3 0 0 ks kw kc kwd kbg kme kq km kd ksi ka kk kfq kfm H.size (by have z8 : (0 : Int32).toInt = 0 := rfl; first | omega | decide | assumption | trivial)) (cwV 3 hts (gw_v (fun _ h9 => List.mem_cons_of_mem _ h9) wm_628 wm_390 wm_391 wm_14 wm_392) rfl rfl rfl (by decide +kernel) ⟨Nat.le_of_ble_eq_true rfl, Nat.le_of_ble_eq_true rfl⟩) (mx_preV (C := RX0) (T := TX0) (N := 12) (ci := 0) hKx hP hD hS hA [3, 6, 7] (by decide) rfl rfl rfl) rfl rfl hl.1 rfl (lv_room (Nat.le_of_ble_eq_true rfl)) dX3_leastByTwos_47 ⟨Nat.le_of_ble_eq_true rfl, Nat.le_of_ble_eq_true rfl⟩) hP hD hS hA [3, 6, 7] [0, 1, 2, 4, 5, 8] rfl rfl (by decide) (by decide) (fun r227 u227 H locs hq227 hP hD hS => ?_)
      replace hP : va_P (dC, dI) vwCl [(o, .inr (3, [.ref k, .ref op, .int oto, .ref oq, .ref ov, .ref os])), (op, .inl (cI, 6, .inl ofp)), (os, .inl (cI, 5, .inl ofs)), (ks, .inl (cI, 5, .inl kfs)), (kw, .inl (cI, 14, .inl kfw)), (kd, .inl (cI, 6, .inl kfd)), (k, .inr (0, [.ref ks, .ref kw, .ref kc, .int kwd, .int kbg, .int kme, .ref kq, .ref km, .ref kd, .int ksi, .ref ka, .ref kk])), (kq, .inl (cI, 6, .inl kfq)), (km, .inl (cI, 6, .inl kfm))] H := hP
      replace hD : va_D A [(o, .inr (3, [.ref k, .ref op, .int oto, .ref oq, .ref ov, .ref os])), (op, .inl (cI, 6, .inl ofp)), (os, .inl (cI, 5, .inl ofs)), (ks, .inl (cI, 5, .inl kfs)), (kw, .inl (cI, 14, .inl kfw)), (kd, .inl (cI, 6, .inl kfd)), (k, .inr (0, [.ref ks, .ref kw, .ref kc, .int kwd, .int kbg, .int kme, .ref kq, .ref km, .ref kd, .int ksi, .ref ka, .ref kk])), (kq, .inl (cI, 6, .inl kfq)), (km, .inl (cI, 6, .inl kfm))] := hD
      have hx227_0 := hq227
      replace hx227_0 : r227 = tbF (kfq y3.toNatClampNeg) (kfm y3.toNatClampNeg) (0 : Int32) (0 : Int32) := hx227_0
      refine lv_imul hx hb dX3_leastByTwos_50 ?_
      refine lv_topi (fun x228 e228 => ?_)
      refine lv_iadd hx hb dX3_leastByTwos_51 ?_
      refine lv_topi (fun x229 e229 => ?_)
      refine lv_istore_n (lv' := [(2, .int x229), (3, .int y3), (0, .ref o), (1, .int i0)]) hx hb dX3_leastByTwos_52 rfl hl (by decide) rfl (fun ls hl => ?_)
      obtain ⟨x230, e230⟩ : ∃ y : Int32, y = y3 + Int32.ofInt 1 := ⟨_, rfl⟩
      refine lv_iinc (v := x230) (lv' := [(3, .int x230), (2, .int x229), (0, .ref o), (1, .int i0)]) hx hb dX3_leastByTwos_53 hl (k := 1) rfl e230.symm (by decide) rfl (fun ls hl => ?_)
      have f230 : x230.toInt = y3.toInt + 1 := by rw [e230]; exact tinc (by decide) (by have t8 := tb y3; omega) (by have t8 := tb y3; omega)
      refine lv_goto (tgt := 4) hx hb dX3_leastByTwos_56 (by decide) ?_
      exact ih (H := H) (locs := locs) (ls := ls) (y2 := x229) (y3 := x230) hS (by omega)  (show lv_has ls 7 [(3, .int x230), (2, .int x229), (0, .ref o), (1, .int i0)] from lv_sub hl [0, 1, 2, 3] rfl) (mx_subP (wc := [(o, .inr (3, [.ref k, .ref op, .int oto, .ref oq, .ref ov, .ref os])), (op, .inl (cI, 6, .inl ofp)), (os, .inl (cI, 5, .inl ofs)), (k, .inr (0, [.ref ks, .ref kw, .ref kc, .int kwd, .int kbg, .int kme, .ref kq, .ref km, .ref kd, .int ksi, .ref ka, .ref kk])), (ks, .inl (cI, 5, .inl kfs)), (kw, .inl (cI, 14, .inl kfw)), (kq, .inl (cI, 6, .inl kfq)), (km, .inl (cI, 6, .inl kfm)), (kd, .inl (cI, 6, .inl kfd))]) hP [0, 1, 2, 6, 3, 4, 7, 8, 5] rfl) (by omega)
    · have t225 : (0 : Int) < x224.toInt := (tnle c225)
      refine lv_aload_n hx hb dX3_leastByTwos_19 rfl (lv_at hl 2 rfl) ?_
      refine va_get (D := (dC, dI)) (ci := 3) (v := .ref k) (C := RX3) (T := TX3) (N := 6) hx hb hts hin3 hown hK hP 0 rfl rfl 0 (by decide) hw6 (fun _ h9 => h9) rfl dX3_leastByTwos_20 ?_
      refine lv_iload_n hx hb dX3_leastByTwos_23 rfl (lv_at hl 0 rfl) ?_
      refine mx_i (wr := [(o, .inr (3, [.ref k, .ref op, .int oto, .ref oq, .ref ov, .ref os])), (op, .inl (cI, 6, .inl ofp)), (os, .inl (cI, 5, .inl ofs)), (kw, .inl (cI, 14, .inl kfw)), (kq, .inl (cI, 6, .inl kfq)), (km, .inl (cI, 6, .inl kfm))]) (va_runV (As := [.int y3]) (rest := []) ⟨hx, hb, hml, hown, hts⟩ (c_X0_isHot l dC dI cI cZ cK tS aK aV k y3 ks kw kc kwd kbg kme kq km kd ksi ka kk kfs kfd H.size (by first | omega | decide | assumption | trivial) (by first | omega | decide | assumption | trivial)) (cwV 1 hts (gw_v (fun _ h9 => List.mem_cons_of_mem _ h9) wm_629 wm_410 wm_411 wm_14 wm_412) rfl rfl rfl (by decide +kernel) ⟨Nat.le_of_ble_eq_true rfl, Nat.le_of_ble_eq_true rfl⟩) (mx_preV (C := RX0) (T := TX0) (N := 12) (ci := 0) hKx hP hD hS hA [3, 4, 8] (by decide) rfl rfl rfl) rfl rfl hl.1 rfl (lv_room (Nat.le_of_ble_eq_true rfl)) dX3_leastByTwos_24 ⟨Nat.le_of_ble_eq_true rfl, Nat.le_of_ble_eq_true rfl⟩) hP hD hS hA [3, 4, 8] [0, 1, 2, 5, 6, 7] rfl rfl (by decide) (by decide) (fun r231 u231 H locs hq231 hP hD hS => ?_)
      replace hP : va_P (dC, dI) vwCl [(o, .inr (3, [.ref k, .ref op, .int oto, .ref oq, .ref ov, .ref os])), (op, .inl (cI, 6, .inl ofp)), (os, .inl (cI, 5, .inl ofs)), (kw, .inl (cI, 14, .inl kfw)), (kq, .inl (cI, 6, .inl kfq)), (km, .inl (cI, 6, .inl kfm)), (k, .inr (0, [.ref ks, .ref kw, .ref kc, .int kwd, .int kbg, .int kme, .ref kq, .ref km, .ref kd, .int ksi, .ref ka, .ref kk])), (ks, .inl (cI, 5, .inl kfs)), (kd, .inl (cI, 6, .inl kfd))] H := hP
      replace hD : va_D A [(o, .inr (3, [.ref k, .ref op, .int oto, .ref oq, .ref ov, .ref os])), (op, .inl (cI, 6, .inl ofp)), (os, .inl (cI, 5, .inl ofs)), (kw, .inl (cI, 14, .inl kfw)), (kq, .inl (cI, 6, .inl kfq)), (km, .inl (cI, 6, .inl kfm)), (k, .inr (0, [.ref ks, .ref kw, .ref kc, .int kwd, .int kbg, .int kme, .ref kq, .ref km, .ref kd, .int ksi, .ref ka, .ref kk])), (ks, .inl (cI, 5, .inl kfs)), (kd, .inl (cI, 6, .inl kfd))] := hD
      refine lv_if_ne (tgt := 33) hx hb dX3_leastByTwos_27 (by decide) (fun c232 => ?_) (fun c232 => ?_)
      · have t232 : r231.toInt ≠ (0 : Int) := (tne c232)
        refine lv_iload_n hx hb dX3_leastByTwos_33 rfl (lv_at hl 1 rfl) ?_
        refine lv_aload_n hx hb dX3_leastByTwos_34 rfl (lv_at hl 2 rfl) ?_
        refine va_get (D := (dC, dI)) (ci := 3) (v := .ref op) (C := RX3) (T := TX3) (N := 6) hx hb hts hin3 hown hK hP 0 rfl rfl 1 (by decide) hw5 (fun _ h9 => h9) rfl dX3_leastByTwos_35 ?_
        refine lv_iload_n hx hb dX3_leastByTwos_38 rfl (lv_at hl 0 rfl) ?_
        refine va_iald hx hb hK hP 1 0 rfl rfl (vin (by omega) (by omega)) dX3_leastByTwos_39 ?_
        refine lv_topi (fun x233 e233 => ?_)
        have g233 : 0 ≤ x233.toInt ∧ x233.toInt ≤ 9 := by rw [e233]; exact rgI h_ofp (by omega) (by omega)
        refine lv_aload_n hx hb dX3_leastByTwos_40 rfl (lv_at hl 2 rfl) ?_
        refine va_get (D := (dC, dI)) (ci := 3) (v := .ref k) (C := RX3) (T := TX3) (N := 6) hx hb hts hin3 hown hK hP 0 rfl rfl 0 (by decide) hw6 (fun _ h9 => h9) rfl dX3_leastByTwos_41 ?_
        refine lv_iload_n hx hb dX3_leastByTwos_44 rfl (lv_at hl 0 rfl) ?_
        refine lv_iconst (v := 0) hx hb dX3_leastByTwos_45 (by decide) ?_
        refine lv_iconst (v := 0) hx hb dX3_leastByTwos_46 (by decide) ?_
        refine mx_i (wr := [(o, .inr (3, [.ref k, .ref op, .int oto, .ref oq, .ref ov, .ref os])), (op, .inl (cI, 6, .inl ofp)), (os, .inl (cI, 5, .inl ofs)), (kw, .inl (cI, 14, .inl kfw)), (ks, .inl (cI, 5, .inl kfs)), (kd, .inl (cI, 6, .inl kfd))]) (va_runV (As := [.int y3, .int 0, .int 0]) (rest := [.int x233, .int y2]) ⟨hx, hb, hml, hown, hts⟩ (c_X0_toBoil l dC dI cI cZ cK tS aK aV k y3 0 0 ks kw kc kwd kbg kme kq km kd ksi ka kk kfq kfm H.size (by have z8 : (0 : Int32).toInt = 0 := rfl; first | omega | decide | assumption | trivial)) (cwV 3 hts (gw_v (fun _ h9 => List.mem_cons_of_mem _ h9) wm_628 wm_390 wm_391 wm_14 wm_392) rfl rfl rfl (by decide +kernel) ⟨Nat.le_of_ble_eq_true rfl, Nat.le_of_ble_eq_true rfl⟩) (mx_preV (C := RX0) (T := TX0) (N := 12) (ci := 0) hKx hP hD hS hA [6, 4, 5] (by decide) rfl rfl rfl) rfl rfl hl.1 rfl (lv_room (Nat.le_of_ble_eq_true rfl)) dX3_leastByTwos_47 ⟨Nat.le_of_ble_eq_true rfl, Nat.le_of_ble_eq_true rfl⟩) hP hD hS hA [6, 4, 5] [0, 1, 2, 3, 7, 8] rfl rfl (by decide) (by decide) (fun r234 u234 H locs hq234 hP hD hS => ?_)
        replace hP : va_P (dC, dI) vwCl [(o, .inr (3, [.ref k, .ref op, .int oto, .ref oq, .ref ov, .ref os])), (op, .inl (cI, 6, .inl ofp)), (os, .inl (cI, 5, .inl ofs)), (kw, .inl (cI, 14, .inl kfw)), (ks, .inl (cI, 5, .inl kfs)), (kd, .inl (cI, 6, .inl kfd)), (k, .inr (0, [.ref ks, .ref kw, .ref kc, .int kwd, .int kbg, .int kme, .ref kq, .ref km, .ref kd, .int ksi, .ref ka, .ref kk])), (kq, .inl (cI, 6, .inl kfq)), (km, .inl (cI, 6, .inl kfm))] H := hP
        replace hD : va_D A [(o, .inr (3, [.ref k, .ref op, .int oto, .ref oq, .ref ov, .ref os])), (op, .inl (cI, 6, .inl ofp)), (os, .inl (cI, 5, .inl ofs)), (kw, .inl (cI, 14, .inl kfw)), (ks, .inl (cI, 5, .inl kfs)), (kd, .inl (cI, 6, .inl kfd)), (k, .inr (0, [.ref ks, .ref kw, .ref kc, .int kwd, .int kbg, .int kme, .ref kq, .ref km, .ref kd, .int ksi, .ref ka, .ref kk])), (kq, .inl (cI, 6, .inl kfq)), (km, .inl (cI, 6, .inl kfm))] := hD
        have hx234_0 := hq234
        replace hx234_0 : r234 = tbF (kfq y3.toNatClampNeg) (kfm y3.toNatClampNeg) (0 : Int32) (0 : Int32) := hx234_0
        refine lv_imul hx hb dX3_leastByTwos_50 ?_
        refine lv_topi (fun x235 e235 => ?_)
        refine lv_iadd hx hb dX3_leastByTwos_51 ?_
        refine lv_topi (fun x236 e236 => ?_)
        refine lv_istore_n (lv' := [(2, .int x236), (3, .int y3), (0, .ref o), (1, .int i0)]) hx hb dX3_leastByTwos_52 rfl hl (by decide) rfl (fun ls hl => ?_)
        obtain ⟨x237, e237⟩ : ∃ y : Int32, y = y3 + Int32.ofInt 1 := ⟨_, rfl⟩
        refine lv_iinc (v := x237) (lv' := [(3, .int x237), (2, .int x236), (0, .ref o), (1, .int i0)]) hx hb dX3_leastByTwos_53 hl (k := 1) rfl e237.symm (by decide) rfl (fun ls hl => ?_)
        have f237 : x237.toInt = y3.toInt + 1 := by rw [e237]; exact tinc (by decide) (by have t8 := tb y3; omega) (by have t8 := tb y3; omega)
        refine lv_goto (tgt := 4) hx hb dX3_leastByTwos_56 (by decide) ?_
        exact ih (H := H) (locs := locs) (ls := ls) (y2 := x236) (y3 := x237) hS (by omega)  (show lv_has ls 7 [(3, .int x237), (2, .int x236), (0, .ref o), (1, .int i0)] from lv_sub hl [0, 1, 2, 3] rfl) (mx_subP (wc := [(o, .inr (3, [.ref k, .ref op, .int oto, .ref oq, .ref ov, .ref os])), (op, .inl (cI, 6, .inl ofp)), (os, .inl (cI, 5, .inl ofs)), (k, .inr (0, [.ref ks, .ref kw, .ref kc, .int kwd, .int kbg, .int kme, .ref kq, .ref km, .ref kd, .int ksi, .ref ka, .ref kk])), (ks, .inl (cI, 5, .inl kfs)), (kw, .inl (cI, 14, .inl kfw)), (kq, .inl (cI, 6, .inl kfq)), (km, .inl (cI, 6, .inl kfm)), (kd, .inl (cI, 6, .inl kfd))]) hP [0, 1, 2, 6, 4, 3, 7, 8, 5] rfl) (by omega)
      · have t232 : r231.toInt = (0 : Int) := (teq c232)
        refine lv_bipush (v := (-6)) hx hb dX3_leastByTwos_30 (by decide) ?_
        have hP9 := mx_subP (wc := [(o, .inr (3, [.ref k, .ref op, .int oto, .ref oq, .ref ov, .ref os])), (op, .inl (cI, 6, .inl ofp)), (os, .inl (cI, 5, .inl ofs)), (k, .inr (0, [.ref ks, .ref kw, .ref kc, .int kwd, .int kbg, .int kme, .ref kq, .ref km, .ref kd, .int ksi, .ref ka, .ref kk])), (ks, .inl (cI, 5, .inl kfs)), (kw, .inl (cI, 14, .inl kfw)), (kq, .inl (cI, 6, .inl kfq)), (km, .inl (cI, 6, .inl kfm)), (kd, .inl (cI, 6, .inl kfd))]) hP [0, 1, 2, 6, 7, 3, 4, 5, 8] rfl
        have hD9 := hD.sub (ws' := [(o, .inr (3, [.ref k, .ref op, .int oto, .ref oq, .ref ov, .ref os])), (op, .inl (cI, 6, .inl ofp)), (os, .inl (cI, 5, .inl ofs)), (k, .inr (0, [.ref ks, .ref kw, .ref kc, .int kwd, .int kbg, .int kme, .ref kq, .ref km, .ref kd, .int ksi, .ref ka, .ref kk])), (ks, .inl (cI, 5, .inl kfs)), (kw, .inl (cI, 14, .inl kfw)), (kq, .inl (cI, 6, .inl kfq)), (km, .inl (cI, 6, .inl kfm)), (kd, .inl (cI, 6, .inl kfd))]) [0, 1, 2, 6, 7, 3, 4, 5, 8] (by decide) rfl
        exact W.iret (v := (-6)) hx hb hr (fun t ht hW => ⟨⟨(-6), ((fun u9 => ([ofs] : List (Nat → Int32)).getD u9 (fun _ => 0)), (fun u9 => ([] : List Int32).getD u9 0), (fun u9 => ([] : List Int64).getD u9 0)), rfl, trivial, by rw [ht]; exact hP9, hD9⟩, hS.F ht⟩) hS.2.2 dX3_leastByTwos_32
