set_option maxHeartbeats 4000000 in
set_option maxRecDepth 100000 in
theorem c_X3_mostWithin (l : Launch) (dC : Nat → ClassId) (dI : Nat → Nat → Nat) (cI cZ cK : ClassId) (tS : Nat) (aK aV : Nat → Nat) (o : Nat) (i0 : Int32) (i1 : Int32) (k : Nat) (op : Nat) (oto : Int32) (oq : Nat) (ov : Nat) (os : Nat) (ofp : Nat → Int32) (ofq : Nat → Int32) (ofv : Nat → Int32) (ks : Nat) (kw : Nat) (kc : Nat) (kwd : Int32) (kbg : Int32) (kme : Int32) (kq : Nat) (km : Nat) (kd : Nat) (ksi : Int32) (ka : Nat) (kk : Nat) (kfs : Nat → Int32) (kfw : Nat → Int32) (kfq : Nat → Int32) (kfm : Nat → Int32) (kfd : Nat → Int32) (sz : Nat) (h_ofp : rg ofp 6 0 9) (h_kfs_4 : 0 ≤ (kfs 4).toInt ∧ (kfs 4).toInt ≤ 13) (h_kfw : rg kfw 14 0 4) (h_i0 : 0 ≤ i0.toInt ∧ i0.toInt ≤ 13) (h_i1 : 0 ≤ i1.toInt ∧ i1.toInt ≤ 1) : Ci l yX3_mostWithin (wq yX3_mostWithin cX3_mostWithin 5 (some .int)) ({ frames := 7, cells := 0, slots := 0, locals := 189 }) dC dI cI cZ cK tS aK aV [.ref o, .int i0, .int i1] sz [(o, .inr (3, [.ref k, .ref op, .int oto, .ref oq, .ref ov, .ref os])), (op, .inl (cI, 6, .inl ofp)), (oq, .inl (cI, 6, .inl ofq)), (ov, .inl (cI, 6, .inl ofv)), (k, .inr (0, [.ref ks, .ref kw, .ref kc, .int kwd, .int kbg, .int kme, .ref kq, .ref km, .ref kd, .int ksi, .ref ka, .ref kk])), (ks, .inl (cI, 5, .inl kfs)), (kw, .inl (cI, 14, .inl kfw)), (kq, .inl (cI, 6, .inl kfq)), (km, .inl (cI, 6, .inl kfm)), (kd, .inl (cI, 6, .inl kfd))] (fun (r : Int32) (u : (Nat → Nat → Int32) × (Nat → Int32) × (Nat → Int64)) => rg (u.1 0) 6 0 9) (fun u => [(o, .inr (3, [.ref k, .ref op, .int oto, .ref oq, .ref ov, .ref os])), (op, .inl (cI, 6, .inl (u.1 0))), (oq, .inl (cI, 6, .inl (u.1 1))), (ov, .inl (cI, 6, .inl (u.1 2))), (k, .inr (0, [.ref ks, .ref kw, .ref kc, .int kwd, .int kbg, .int kme, .ref kq, .ref km, .ref kd, .int ksi, .ref ka, .ref kk])), (ks, .inl (cI, 5, .inl kfs)), (kw, .inl (cI, 14, .inl kfw)), (kq, .inl (cI, 6, .inl kfq)), (km, .inl (cI, 6, .inl kfm)), (kd, .inl (cI, 6, .inl kfd))]) := by
  refine Met.ofW (cc := cX3_mostWithin) (maxL := 5) (ret := (some .int)) (by decide) rfl ?_
  intro p e s m args below meth c s₁ B hml hv
  obtain ⟨rfl, hsz, hP, hKx, hD0⟩ := hv
  have hx := B.exec
  have hb := B.bytes
  have hr := B.returns
  have hts := atoms_spec (ws := wq yX3_mostWithin cX3_mostWithin 5 (some .int)) B.pre
  have hown : s.vm.findClass RX3 = some m.cls := findClass_of_methodNamed B.named
  have hlocks := B.notSynchronized
  subst hsz
  have hD := hD0.self (sz := s.heap.size)
  generalize hAe : va_A [(o, .inr (3, [.ref k, .ref op, .int oto, .ref oq, .ref ov, .ref os])), (op, .inl (cI, 6, .inl ofp)), (oq, .inl (cI, 6, .inl ofq)), (ov, .inl (cI, 6, .inl ofv)), (k, .inr (0, [.ref ks, .ref kw, .ref kc, .int kwd, .int kbg, .int kme, .ref kq, .ref km, .ref kd, .int ksi, .ref ka, .ref kk])), (ks, .inl (cI, 5, .inl kfs)), (kw, .inl (cI, 14, .inl kfw)), (kq, .inl (cI, 6, .inl kfq)), (km, .inl (cI, 6, .inl kfm)), (kd, .inl (cI, 6, .inl kfd))] s.heap.size = A at hD hKx ⊢
  have hA : ∀ q : Nat, s.heap.size ≤ q → A q := fun q h => by rw [← hAe]; exact Or.inr h
  have hS : va_S A s.heap s.heap [] := va_S.rf
  have hP : va_P (dC, dI) vwCl [(o, .inr (3, [.ref k, .ref op, .int oto, .ref oq, .ref ov, .ref os])), (op, .inl (cI, 6, .inl ofp)), (oq, .inl (cI, 6, .inl ofq)), (ov, .inl (cI, 6, .inl ofv)), (k, .inr (0, [.ref ks, .ref kw, .ref kc, .int kwd, .int kbg, .int kme, .ref kq, .ref km, .ref kd, .int ksi, .ref ka, .ref kk])), (ks, .inl (cI, 5, .inl kfs)), (kw, .inl (cI, 14, .inl kfw)), (kq, .inl (cI, 6, .inl kfq)), (km, .inl (cI, 6, .inl kfm)), (kd, .inl (cI, 6, .inl kfd))] s.heap := hP
  have hl := lv_entry ([.ref o, .int i0, .int i1]) (n := 5) (Nat.le_of_ble_eq_true rfl)
  rw [lg_entry_eq]
  generalize (lg_sl ([.ref o, .int i0, .int i1]) ++ List.replicate (5 - (lg_sl ([.ref o, .int i0, .int i1])).length) Slot.unset).toArray = ls at hl ⊢
  have hl : lv_has ls 5 [(0, .ref o), (1, .int i0), (2, .int i1)] := hl
  have hK := hKx.1
  have hin3 := fun w9 h9 => List.mem_cons_of_mem (Cond.code yX3_mostWithin cX3_mostWithin 5 (some .int)) (inlX3 w9 h9)
  have hin0 := fun w9 h9 => List.mem_cons_of_mem (Cond.code yX3_mostWithin cX3_mostWithin 5 (some .int)) (inlX0 w9 h9)
  have hw0 := hts (.fieldLink RX3 24 "OneCan$Order" "camp" "LOneCan$Camp;") (List.mem_cons_of_mem _ wm_82)
  have hw1 := hts (.fieldLink RX3 58 "OneCan$Camp" "settings" "[I") (List.mem_cons_of_mem _ wm_625)
  have hw2 := hts (.fieldLink RX3 9 "OneCan$Order" "portions" "[I") (List.mem_cons_of_mem _ wm_78)
  have hw3 := hts (.fieldLink RX3 15 "OneCan$Order" "prices" "[I") (List.mem_cons_of_mem _ wm_79)
  have hw4 := hts (.fieldLink RX3 18 "OneCan$Order" "values" "[I") (List.mem_cons_of_mem _ wm_80)
  have hw5 := hts (.fieldLink RX3 46 "OneCan$Camp" "minutes" "[I") (List.mem_cons_of_mem _ wm_586)
  have hw6 := hts (.fieldLink RX3 49 "OneCan$Camp" "quarts" "[I") (List.mem_cons_of_mem _ wm_597)
  have hw7 := hts (.methodLink RX3 64 Lib.Math.min.name) (List.mem_cons_of_mem _ wm_626)
  have hw8 := hts (.static Lib.Math.min.name) (List.mem_cons_of_mem _ wm_275)
  have hw9 := hts (.initialized "java/lang/Math") (List.mem_cons_of_mem _ wm_272)
  have hw10 := hts (.code Lib.Math.min.name Lib.Math.min.code 2 (some .int)) (List.mem_cons_of_mem _ wm_276)
  refine lv_iconst (v := 4) hx hb dX3_mostWithin_0 (by decide) ?_
  refine lv_istore_n (lv' := [(3, .int 4), (0, .ref o), (1, .int i0), (2, .int i1)]) hx hb dX3_mostWithin_1 rfl hl (by decide) rfl (fun ls hl => ?_)
  refine lv_aload_n hx hb dX3_mostWithin_2 rfl (lv_at hl 1 rfl) ?_
  refine va_get (D := (dC, dI)) (ci := 3) (v := .ref k) (C := RX3) (T := TX3) (N := 6) hx hb hts hin3 hown hK hP 0 rfl rfl 0 (by decide) hw0 (fun _ h9 => h9) rfl dX3_mostWithin_3 ?_
  refine va_get (D := (dC, dI)) (ci := 0) (v := .ref ks) (C := RX0) (T := TX0) (N := 12) hx hb hts hin0 hown hK hP 4 rfl rfl 0 (by decide) hw1 (fun _ h9 => h9) rfl dX3_mostWithin_6 ?_
  refine lv_iconst (v := 4) hx hb dX3_mostWithin_9 (by decide) ?_
  refine va_iald hx hb hK hP 5 0 rfl rfl (vin (by decide) (by decide)) dX3_mostWithin_10 ?_
  refine lv_topi (fun y1 e1 => ?_)
  obtain rfl : kfs 4 = y1 := e1.symm
  refine lv_istore (lv' := [(4, .int (kfs 4)), (3, .int 4), (0, .ref o), (1, .int i0), (2, .int i1)]) hx hb dX3_mostWithin_11 hl (by decide) rfl (fun ls hl => ?_)
  have z3 : (4 : Int32).toInt = 4 := rfl
  have hl0 := hl
  clear hl
  obtain ⟨H, hHe⟩ : ∃ H : Heap, H = s.heap := ⟨_, rfl⟩
  obtain ⟨locs, hlo⟩ : ∃ l : List Loc, l = [] := ⟨_, rfl⟩
  replace hP : va_P (dC, dI) vwCl [(o, .inr (3, [.ref k, .ref op, .int oto, .ref oq, .ref ov, .ref os])), (op, .inl (cI, 6, .inl ofp)), (oq, .inl (cI, 6, .inl ofq)), (ov, .inl (cI, 6, .inl ofv)), (k, .inr (0, [.ref ks, .ref kw, .ref kc, .int kwd, .int kbg, .int kme, .ref kq, .ref km, .ref kd, .int ksi, .ref ka, .ref kk])), (ks, .inl (cI, 5, .inl kfs)), (kw, .inl (cI, 14, .inl kfw)), (kq, .inl (cI, 6, .inl kfq)), (km, .inl (cI, 6, .inl kfm)), (kd, .inl (cI, 6, .inl kfd))] H := by rw [hHe]; exact hP
  replace hS : va_S A s.heap H locs := by rw [hHe, hlo]; exact hS
  rw [← hHe, ← hlo]
  clear hHe hlo
  have hP0 := hP
  clear hP
  have hD0 := hD
  clear hD
  obtain ⟨y3, y4, ex, hl, hP, hD⟩ : ∃ (y3 y4 : Int32), (0 ≤ y4.toInt ∧ y4.toInt ≤ 14) ∧ lv_has ls 5 [(4, .int y4), (3, .int y3), (0, .ref o), (1, .int i0), (2, .int i1)] ∧ va_P (dC, dI) vwCl [(o, .inr (3, [.ref k, .ref op, .int oto, .ref oq, .ref ov, .ref os])), (op, .inl (cI, 6, .inl ofp)), (oq, .inl (cI, 6, .inl ofq)), (ov, .inl (cI, 6, .inl ofv)), (k, .inr (0, [.ref ks, .ref kw, .ref kc, .int kwd, .int kbg, .int kme, .ref kq, .ref km, .ref kd, .int ksi, .ref ka, .ref kk])), (ks, .inl (cI, 5, .inl kfs)), (kw, .inl (cI, 14, .inl kfw)), (kq, .inl (cI, 6, .inl kfq)), (km, .inl (cI, 6, .inl kfm)), (kd, .inl (cI, 6, .inl kfd))] H ∧ va_D A [(o, .inr (3, [.ref k, .ref op, .int oto, .ref oq, .ref ov, .ref os])), (op, .inl (cI, 6, .inl ofp)), (oq, .inl (cI, 6, .inl ofq)), (ov, .inl (cI, 6, .inl ofv)), (k, .inr (0, [.ref ks, .ref kw, .ref kc, .int kwd, .int kbg, .int kme, .ref kq, .ref km, .ref kd, .int ksi, .ref ka, .ref kk])), (ks, .inl (cI, 5, .inl kfs)), (kw, .inl (cI, 14, .inl kfw)), (kq, .inl (cI, 6, .inl kfq)), (km, .inl (cI, 6, .inl kfm)), (kd, .inl (cI, 6, .inl kfd))] := ⟨4, (kfs 4), by omega, hl0, hP0, hD0⟩
  clear hl0 hP0 hD0
  obtain ⟨n2, hn⟩ : ∃ n : Nat, (n : Int) = ((i0.toInt + 1 - y4.toInt).toNat : Int) := ⟨(((i0.toInt + 1 - y4.toInt).toNat : Int)).toNat, by omega⟩
  induction n2 generalizing y3 y4 ls H locs with
  | zero =>
    skip
    refine lv_iload hx hb dX3_mostWithin_13 (lv_at hl 0 rfl) ?_
    refine lv_iload_n hx hb dX3_mostWithin_15 rfl (lv_at hl 3 rfl) ?_
    refine lv_icmp_gt (tgt := 40) hx hb dX3_mostWithin_16 (by decide) (fun c4 => ?_) (fun c4 => by exfalso; have t4 : y4.toInt ≤ i0.toInt := (tnlt c4); omega)
    refine lv_iconst (v := 0) hx hb dX3_mostWithin_40 (by decide) ?_
    refine lv_istore (lv' := [(4, .int 0), (3, .int y3), (0, .ref o), (1, .int i0), (2, .int i1)]) hx hb dX3_mostWithin_41 hl (by decide) rfl (fun ls hl => ?_)
    have z6 : (0 : Int32).toInt = 0 := rfl
    have hl0 := hl
    clear hl
    have hP0 := hP
    clear hP
    have hD0 := hD
    clear hD
    obtain ⟨y9, yfp, yfq, yfv, ex, h_yfp, hl, hP, hD⟩ : ∃ (y9 : Int32) (yfp yfq yfv : Nat → Int32), (0 ≤ y9.toInt ∧ y9.toInt ≤ 6) ∧ rg yfp 6 0 9 ∧ lv_has ls 5 [(4, .int y9), (3, .int y3), (0, .ref o), (1, .int i0), (2, .int i1)] ∧ va_P (dC, dI) vwCl [(o, .inr (3, [.ref k, .ref op, .int oto, .ref oq, .ref ov, .ref os])), (op, .inl (cI, 6, .inl yfp)), (oq, .inl (cI, 6, .inl yfq)), (ov, .inl (cI, 6, .inl yfv)), (k, .inr (0, [.ref ks, .ref kw, .ref kc, .int kwd, .int kbg, .int kme, .ref kq, .ref km, .ref kd, .int ksi, .ref ka, .ref kk])), (ks, .inl (cI, 5, .inl kfs)), (kw, .inl (cI, 14, .inl kfw)), (kq, .inl (cI, 6, .inl kfq)), (km, .inl (cI, 6, .inl kfm)), (kd, .inl (cI, 6, .inl kfd))] H ∧ va_D A [(o, .inr (3, [.ref k, .ref op, .int oto, .ref oq, .ref ov, .ref os])), (op, .inl (cI, 6, .inl yfp)), (oq, .inl (cI, 6, .inl yfq)), (ov, .inl (cI, 6, .inl yfv)), (k, .inr (0, [.ref ks, .ref kw, .ref kc, .int kwd, .int kbg, .int kme, .ref kq, .ref km, .ref kd, .int ksi, .ref ka, .ref kk])), (ks, .inl (cI, 5, .inl kfs)), (kw, .inl (cI, 14, .inl kfw)), (kq, .inl (cI, 6, .inl kfq)), (km, .inl (cI, 6, .inl kfm)), (kd, .inl (cI, 6, .inl kfd))] := ⟨0, ofp, ofq, ofv, by omega, h_ofp, hl0, hP0, hD0⟩
    clear hl0 hP0 hD0
    obtain ⟨n5, hn⟩ : ∃ n : Nat, (n : Int) = 6 - y9.toInt := ⟨(6 - y9.toInt).toNat, by omega⟩
    induction n5 generalizing y9 yfp yfq yfv ls H locs with
    | zero =>
      skip
      refine lv_iload hx hb dX3_mostWithin_43 (lv_at hl 0 rfl) ?_
      refine lv_bipush (v := 6) hx hb dX3_mostWithin_45 (by decide) ?_
      refine lv_icmp_ge (tgt := 130) hx hb dX3_mostWithin_47 (by decide) (fun c7 => ?_) (fun c7 => by exfalso; have t7 : y9.toInt < (6 : Int) := (tnle c7); omega)
      refine lv_iconst (v := 0) hx hb dX3_mostWithin_130 (by decide) ?_
      refine lv_aload_n hx hb dX3_mostWithin_131 rfl (lv_at hl 2 rfl) ?_
      refine va_get (D := (dC, dI)) (ci := 3) (v := .ref k) (C := RX3) (T := TX3) (N := 6) hx hb hts hin3 hown hK hP 0 rfl rfl 0 (by decide) hw0 (fun _ h9 => h9) rfl dX3_mostWithin_132 ?_
      refine va_get (D := (dC, dI)) (ci := 0) (v := .ref ks) (C := RX0) (T := TX0) (N := 12) hx hb hts hin0 hown hK hP 4 rfl rfl 0 (by decide) hw1 (fun _ h9 => h9) rfl dX3_mostWithin_135 ?_
      refine lv_iconst (v := 0) hx hb dX3_mostWithin_138 (by decide) ?_
      refine va_iald hx hb hK hP 5 0 rfl rfl (vin (by decide) (by decide)) dX3_mostWithin_139 ?_
      refine lv_topi (fun x8 e8 => ?_)
      refine lv_aload_n hx hb dX3_mostWithin_140 rfl (lv_at hl 2 rfl) ?_
      refine va_get (D := (dC, dI)) (ci := 3) (v := .ref op) (C := RX3) (T := TX3) (N := 6) hx hb hts hin3 hown hK hP 0 rfl rfl 1 (by decide) hw2 (fun _ h9 => h9) rfl dX3_mostWithin_141 ?_
      refine lv_aload_n hx hb dX3_mostWithin_144 rfl (lv_at hl 2 rfl) ?_
      refine va_get (D := (dC, dI)) (ci := 3) (v := .ref oq) (C := RX3) (T := TX3) (N := 6) hx hb hts hin3 hown hK hP 0 rfl rfl 3 (by decide) hw3 (fun _ h9 => h9) rfl dX3_mostWithin_145 ?_
      refine lv_aload_n hx hb dX3_mostWithin_148 rfl (lv_at hl 2 rfl) ?_
      refine va_get (D := (dC, dI)) (ci := 3) (v := .ref ov) (C := RX3) (T := TX3) (N := 6) hx hb hts hin3 hown hK hP 0 rfl rfl 4 (by decide) hw4 (fun _ h9 => h9) rfl dX3_mostWithin_149 ?_
      refine mx_i (wr := [(o, .inr (3, [.ref k, .ref op, .int oto, .ref oq, .ref ov, .ref os])), (k, .inr (0, [.ref ks, .ref kw, .ref kc, .int kwd, .int kbg, .int kme, .ref kq, .ref km, .ref kd, .int ksi, .ref ka, .ref kk])), (ks, .inl (cI, 5, .inl kfs)), (kw, .inl (cI, 14, .inl kfw)), (kq, .inl (cI, 6, .inl kfq)), (km, .inl (cI, 6, .inl kfm)), (kd, .inl (cI, 6, .inl kfd))]) (va_runS (As := [.int 0, .int x8, .ref op, .ref oq, .ref ov]) (rest := []) ⟨hx, hb, hml, hown, hts⟩ (c_X3_bestFrom_0 l dC dI cI cZ cK tS aK aV x8 op oq ov yfp yfq yfv H.size h_yfp) (va_cwS 5 hts (gw_s (fun _ h9 => List.mem_cons_of_mem _ h9) wm_630 wm_631 wm_26 wm_632) rfl rfl rfl (by decide +kernel) ⟨Nat.le_of_ble_eq_true rfl, Nat.le_of_ble_eq_true rfl⟩) (mx_preS hKx hP hD hS hA [1, 2, 3] (by decide) rfl) rfl rfl hl.1 rfl (lv_room (Nat.le_of_ble_eq_true rfl)) dX3_mostWithin_152 ⟨Nat.le_of_ble_eq_true rfl, Nat.le_of_ble_eq_true rfl⟩) hP hD hS hA [1, 2, 3] [0, 4, 5, 6, 7, 8, 9] rfl rfl (by decide) (by decide) (fun r9 u9 H locs hq9 hP hD hS => ?_)
      replace hP : va_P (dC, dI) vwCl [(o, .inr (3, [.ref k, .ref op, .int oto, .ref oq, .ref ov, .ref os])), (k, .inr (0, [.ref ks, .ref kw, .ref kc, .int kwd, .int kbg, .int kme, .ref kq, .ref km, .ref kd, .int ksi, .ref ka, .ref kk])), (ks, .inl (cI, 5, .inl kfs)), (kw, .inl (cI, 14, .inl kfw)), (kq, .inl (cI, 6, .inl kfq)), (km, .inl (cI, 6, .inl kfm)), (kd, .inl (cI, 6, .inl kfd)), (op, .inl (cI, 6, .inl yfp)), (oq, .inl (cI, 6, .inl yfq)), (ov, .inl (cI, 6, .inl yfv))] H := hP
      replace hD : va_D A [(o, .inr (3, [.ref k, .ref op, .int oto, .ref oq, .ref ov, .ref os])), (k, .inr (0, [.ref ks, .ref kw, .ref kc, .int kwd, .int kbg, .int kme, .ref kq, .ref km, .ref kd, .int ksi, .ref ka, .ref kk])), (ks, .inl (cI, 5, .inl kfs)), (kw, .inl (cI, 14, .inl kfw)), (kq, .inl (cI, 6, .inl kfq)), (km, .inl (cI, 6, .inl kfm)), (kd, .inl (cI, 6, .inl kfd)), (op, .inl (cI, 6, .inl yfp)), (oq, .inl (cI, 6, .inl yfq)), (ov, .inl (cI, 6, .inl yfv))] := hD
      have hP9 := mx_subP (wc := [(o, .inr (3, [.ref k, .ref op, .int oto, .ref oq, .ref ov, .ref os])), (op, .inl (cI, 6, .inl yfp)), (oq, .inl (cI, 6, .inl yfq)), (ov, .inl (cI, 6, .inl yfv)), (k, .inr (0, [.ref ks, .ref kw, .ref kc, .int kwd, .int kbg, .int kme, .ref kq, .ref km, .ref kd, .int ksi, .ref ka, .ref kk])), (ks, .inl (cI, 5, .inl kfs)), (kw, .inl (cI, 14, .inl kfw)), (kq, .inl (cI, 6, .inl kfq)), (km, .inl (cI, 6, .inl kfm)), (kd, .inl (cI, 6, .inl kfd))]) hP [0, 7, 8, 9, 1, 2, 3, 4, 5, 6] rfl
      have hD9 := hD.sub (ws' := [(o, .inr (3, [.ref k, .ref op, .int oto, .ref oq, .ref ov, .ref os])), (op, .inl (cI, 6, .inl yfp)), (oq, .inl (cI, 6, .inl yfq)), (ov, .inl (cI, 6, .inl yfv)), (k, .inr (0, [.ref ks, .ref kw, .ref kc, .int kwd, .int kbg, .int kme, .ref kq, .ref km, .ref kd, .int ksi, .ref ka, .ref kk])), (ks, .inl (cI, 5, .inl kfs)), (kw, .inl (cI, 14, .inl kfw)), (kq, .inl (cI, 6, .inl kfq)), (km, .inl (cI, 6, .inl kfm)), (kd, .inl (cI, 6, .inl kfd))]) [0, 7, 8, 9, 1, 2, 3, 4, 5, 6] (by decide) rfl
      exact W.iret (v := r9) hx hb hr (fun t ht hW => ⟨⟨r9, ((fun u9 => ([yfp, yfq, yfv] : List (Nat → Int32)).getD u9 (fun _ => 0)), (fun u9 => ([] : List Int32).getD u9 0), (fun u9 => ([] : List Int64).getD u9 0)), rfl, h_yfp, by rw [ht]; exact hP9, hD9⟩, hS.F ht⟩) hS.2.2 dX3_mostWithin_155
    | succ n5 ih =>
      skip
      refine lv_iload hx hb dX3_mostWithin_43 (lv_at hl 0 rfl) ?_
      refine lv_bipush (v := 6) hx hb dX3_mostWithin_45 (by decide) ?_
      refine lv_icmp_ge (tgt := 130) hx hb dX3_mostWithin_47 (by decide) (fun c10 => by exfalso; have t10 : (6 : Int) ≤ y9.toInt := (tle c10); omega) (fun c10 => ?_)
      refine lv_aload_n hx hb dX3_mostWithin_50 rfl (lv_at hl 2 rfl) ?_
      refine va_get (D := (dC, dI)) (ci := 3) (v := .ref oq) (C := RX3) (T := TX3) (N := 6) hx hb hts hin3 hown hK hP 0 rfl rfl 3 (by decide) hw3 (fun _ h9 => h9) rfl dX3_mostWithin_51 ?_
      refine lv_iload hx hb dX3_mostWithin_54 (lv_at hl 0 rfl) ?_
      refine lv_aload_n hx hb dX3_mostWithin_56 rfl (lv_at hl 2 rfl) ?_
      refine va_get (D := (dC, dI)) (ci := 3) (v := .ref k) (C := RX3) (T := TX3) (N := 6) hx hb hts hin3 hown hK hP 0 rfl rfl 0 (by decide) hw0 (fun _ h9 => h9) rfl dX3_mostWithin_57 ?_
      refine lv_iload hx hb dX3_mostWithin_60 (lv_at hl 0 rfl) ?_
      refine lv_iload_n hx hb dX3_mostWithin_62 rfl (lv_at hl 1 rfl) ?_
      refine lv_iconst (v := 0) hx hb dX3_mostWithin_63 (by decide) ?_
      refine mx_i (wr := [(o, .inr (3, [.ref k, .ref op, .int oto, .ref oq, .ref ov, .ref os])), (op, .inl (cI, 6, .inl yfp)), (oq, .inl (cI, 6, .inl yfq)), (ov, .inl (cI, 6, .inl yfv)), (ks, .inl (cI, 5, .inl kfs)), (kw, .inl (cI, 14, .inl kfw)), (kd, .inl (cI, 6, .inl kfd))]) (va_runV (As := [.int y9, .int y3, .int 0]) (rest := [.int y9, .ref oq]) ⟨hx, hb, hml, hown, hts⟩ (c_X0_toBoil l dC dI cI cZ cK tS aK aV k y9 y3 0 ks kw kc kwd kbg kme kq km kd ksi ka kk kfq kfm H.size (by have z8 : (0 : Int32).toInt = 0 := rfl; first | omega | decide | assumption | trivial)) (cwV 3 hts (gw_v (fun _ h9 => List.mem_cons_of_mem _ h9) wm_628 wm_390 wm_391 wm_14 wm_392) rfl rfl rfl (by decide +kernel) ⟨Nat.le_of_ble_eq_true rfl, Nat.le_of_ble_eq_true rfl⟩) (mx_preV (C := RX0) (T := TX0) (N := 12) (ci := 0) hKx hP hD hS hA [4, 7, 8] (by decide) rfl rfl rfl) rfl rfl hl.1 rfl (lv_room (Nat.le_of_ble_eq_true rfl)) dX3_mostWithin_64 ⟨Nat.le_of_ble_eq_true rfl, Nat.le_of_ble_eq_true rfl⟩) hP hD hS hA [4, 7, 8] [0, 1, 2, 3, 5, 6, 9] rfl rfl (by decide) (by decide) (fun r11 u11 H locs hq11 hP hD hS => ?_)
      replace hP : va_P (dC, dI) vwCl [(o, .inr (3, [.ref k, .ref op, .int oto, .ref oq, .ref ov, .ref os])), (op, .inl (cI, 6, .inl yfp)), (oq, .inl (cI, 6, .inl yfq)), (ov, .inl (cI, 6, .inl yfv)), (ks, .inl (cI, 5, .inl kfs)), (kw, .inl (cI, 14, .inl kfw)), (kd, .inl (cI, 6, .inl kfd)), (k, .inr (0, [.ref ks, .ref kw, .ref kc, .int kwd, .int kbg, .int kme, .ref kq, .ref km, .ref kd, .int ksi, .ref ka, .ref kk])), (kq, .inl (cI, 6, .inl kfq)), (km, .inl (cI, 6, .inl kfm))] H := hP
      replace hD : va_D A [(o, .inr (3, [.ref k, .ref op, .int oto, .ref oq, .ref ov, .ref os])), (op, .inl (cI, 6, .inl yfp)), (oq, .inl (cI, 6, .inl yfq)), (ov, .inl (cI, 6, .inl yfv)), (ks, .inl (cI, 5, .inl kfs)), (kw, .inl (cI, 14, .inl kfw)), (kd, .inl (cI, 6, .inl kfd)), (k, .inr (0, [.ref ks, .ref kw, .ref kc, .int kwd, .int kbg, .int kme, .ref kq, .ref km, .ref kd, .int ksi, .ref ka, .ref kk])), (kq, .inl (cI, 6, .inl kfq)), (km, .inl (cI, 6, .inl kfm))] := hD
      have hx11_0 := hq11
      replace hx11_0 : r11 = tbF (kfq y9.toNatClampNeg) (kfm y9.toNatClampNeg) y3 (0 : Int32) := hx11_0
      refine va_iast hx hb hK hP hD hS 2 0 rfl rfl (vin (by omega) (by omega)) dX3_mostWithin_67 (fun H locs hP hD hS => ?_)
      replace hP : va_P (dC, dI) vwCl [(o, .inr (3, [.ref k, .ref op, .int oto, .ref oq, .ref ov, .ref os])), (op, .inl (cI, 6, .inl yfp)), (oq, .inl (cI, 6, .inl (upd yfq y9.toNatClampNeg r11))), (ov, .inl (cI, 6, .inl yfv)), (ks, .inl (cI, 5, .inl kfs)), (kw, .inl (cI, 14, .inl kfw)), (kd, .inl (cI, 6, .inl kfd)), (k, .inr (0, [.ref ks, .ref kw, .ref kc, .int kwd, .int kbg, .int kme, .ref kq, .ref km, .ref kd, .int ksi, .ref ka, .ref kk])), (kq, .inl (cI, 6, .inl kfq)), (km, .inl (cI, 6, .inl kfm))] H := hP
      replace hD : va_D A [(o, .inr (3, [.ref k, .ref op, .int oto, .ref oq, .ref ov, .ref os])), (op, .inl (cI, 6, .inl yfp)), (oq, .inl (cI, 6, .inl (upd yfq y9.toNatClampNeg r11))), (ov, .inl (cI, 6, .inl yfv)), (ks, .inl (cI, 5, .inl kfs)), (kw, .inl (cI, 14, .inl kfw)), (kd, .inl (cI, 6, .inl kfd)), (k, .inr (0, [.ref ks, .ref kw, .ref kc, .int kwd, .int kbg, .int kme, .ref kq, .ref km, .ref kd, .int ksi, .ref ka, .ref kk])), (kq, .inl (cI, 6, .inl kfq)), (km, .inl (cI, 6, .inl kfm))] := hD
      refine lv_aload_n hx hb dX3_mostWithin_68 rfl (lv_at hl 2 rfl) ?_
      refine va_get (D := (dC, dI)) (ci := 3) (v := .ref ov) (C := RX3) (T := TX3) (N := 6) hx hb hts hin3 hown hK hP 0 rfl rfl 4 (by decide) hw4 (fun _ h9 => h9) rfl dX3_mostWithin_69 ?_
      refine lv_iload hx hb dX3_mostWithin_72 (lv_at hl 0 rfl) ?_
      refine lv_iload_n hx hb dX3_mostWithin_74 rfl (lv_at hl 4 rfl) ?_
      refine lv_if_eq (tgt := 102) hx hb dX3_mostWithin_75 (by decide) (fun c12 => ?_) (fun c12 => ?_)
      · have t12 : i1.toInt = (0 : Int) := (teq c12)
        refine lv_iconst (v := 1) hx hb dX3_mostWithin_102 (by decide) ?_
        refine va_iast hx hb hK hP hD hS 3 0 rfl rfl (vin (by omega) (by omega)) dX3_mostWithin_103 (fun H locs hP hD hS => ?_)
        replace hP : va_P (dC, dI) vwCl [(o, .inr (3, [.ref k, .ref op, .int oto, .ref oq, .ref ov, .ref os])), (op, .inl (cI, 6, .inl yfp)), (oq, .inl (cI, 6, .inl (upd yfq y9.toNatClampNeg r11))), (ov, .inl (cI, 6, .inl (upd yfv y9.toNatClampNeg 1))), (ks, .inl (cI, 5, .inl kfs)), (kw, .inl (cI, 14, .inl kfw)), (kd, .inl (cI, 6, .inl kfd)), (k, .inr (0, [.ref ks, .ref kw, .ref kc, .int kwd, .int kbg, .int kme, .ref kq, .ref km, .ref kd, .int ksi, .ref ka, .ref kk])), (kq, .inl (cI, 6, .inl kfq)), (km, .inl (cI, 6, .inl kfm))] H := hP
        replace hD : va_D A [(o, .inr (3, [.ref k, .ref op, .int oto, .ref oq, .ref ov, .ref os])), (op, .inl (cI, 6, .inl yfp)), (oq, .inl (cI, 6, .inl (upd yfq y9.toNatClampNeg r11))), (ov, .inl (cI, 6, .inl (upd yfv y9.toNatClampNeg 1))), (ks, .inl (cI, 5, .inl kfs)), (kw, .inl (cI, 14, .inl kfw)), (kd, .inl (cI, 6, .inl kfd)), (k, .inr (0, [.ref ks, .ref kw, .ref kc, .int kwd, .int kbg, .int kme, .ref kq, .ref km, .ref kd, .int ksi, .ref ka, .ref kk])), (kq, .inl (cI, 6, .inl kfq)), (km, .inl (cI, 6, .inl kfm))] := hD
        refine lv_aload_n hx hb dX3_mostWithin_104 rfl (lv_at hl 2 rfl) ?_
        refine va_get (D := (dC, dI)) (ci := 3) (v := .ref k) (C := RX3) (T := TX3) (N := 6) hx hb hts hin3 hown hK hP 0 rfl rfl 0 (by decide) hw0 (fun _ h9 => h9) rfl dX3_mostWithin_105 ?_
        refine lv_iload hx hb dX3_mostWithin_108 (lv_at hl 0 rfl) ?_
        refine mx_i (wr := [(o, .inr (3, [.ref k, .ref op, .int oto, .ref oq, .ref ov, .ref os])), (op, .inl (cI, 6, .inl yfp)), (oq, .inl (cI, 6, .inl (upd yfq y9.toNatClampNeg r11))), (ov, .inl (cI, 6, .inl (upd yfv y9.toNatClampNeg 1))), (kw, .inl (cI, 14, .inl kfw)), (kq, .inl (cI, 6, .inl kfq)), (km, .inl (cI, 6, .inl kfm))]) (va_runV (As := [.int y9]) (rest := []) ⟨hx, hb, hml, hown, hts⟩ (c_X0_isHot l dC dI cI cZ cK tS aK aV k y9 ks kw kc kwd kbg kme kq km kd ksi ka kk kfs kfd H.size (by first | omega | decide | assumption | trivial) (by first | omega | decide | assumption | trivial)) (cwV 1 hts (gw_v (fun _ h9 => List.mem_cons_of_mem _ h9) wm_629 wm_410 wm_411 wm_14 wm_412) rfl rfl rfl (by decide +kernel) ⟨Nat.le_of_ble_eq_true rfl, Nat.le_of_ble_eq_true rfl⟩) (mx_preV (C := RX0) (T := TX0) (N := 12) (ci := 0) hKx hP hD hS hA [7, 4, 6] (by decide) rfl rfl rfl) rfl rfl hl.1 rfl (lv_room (Nat.le_of_ble_eq_true rfl)) dX3_mostWithin_110 ⟨Nat.le_of_ble_eq_true rfl, Nat.le_of_ble_eq_true rfl⟩) hP hD hS hA [7, 4, 6] [0, 1, 2, 3, 5, 8, 9] rfl rfl (by decide) (by decide) (fun r13 u13 H locs hq13 hP hD hS => ?_)
        replace hP : va_P (dC, dI) vwCl [(o, .inr (3, [.ref k, .ref op, .int oto, .ref oq, .ref ov, .ref os])), (op, .inl (cI, 6, .inl yfp)), (oq, .inl (cI, 6, .inl (upd yfq y9.toNatClampNeg r11))), (ov, .inl (cI, 6, .inl (upd yfv y9.toNatClampNeg 1))), (kw, .inl (cI, 14, .inl kfw)), (kq, .inl (cI, 6, .inl kfq)), (km, .inl (cI, 6, .inl kfm)), (k, .inr (0, [.ref ks, .ref kw, .ref kc, .int kwd, .int kbg, .int kme, .ref kq, .ref km, .ref kd, .int ksi, .ref ka, .ref kk])), (ks, .inl (cI, 5, .inl kfs)), (kd, .inl (cI, 6, .inl kfd))] H := hP
        replace hD : va_D A [(o, .inr (3, [.ref k, .ref op, .int oto, .ref oq, .ref ov, .ref os])), (op, .inl (cI, 6, .inl yfp)), (oq, .inl (cI, 6, .inl (upd yfq y9.toNatClampNeg r11))), (ov, .inl (cI, 6, .inl (upd yfv y9.toNatClampNeg 1))), (kw, .inl (cI, 14, .inl kfw)), (kq, .inl (cI, 6, .inl kfq)), (km, .inl (cI, 6, .inl kfm)), (k, .inr (0, [.ref ks, .ref kw, .ref kc, .int kwd, .int kbg, .int kme, .ref kq, .ref km, .ref kd, .int ksi, .ref ka, .ref kk])), (ks, .inl (cI, 5, .inl kfs)), (kd, .inl (cI, 6, .inl kfd))] := hD
        refine lv_if_ne (tgt := 124) hx hb dX3_mostWithin_113 (by decide) (fun c14 => ?_) (fun c14 => ?_)
        · have t14 : r13.toInt ≠ (0 : Int) := (tne c14)
          obtain ⟨x15, e15⟩ : ∃ y : Int32, y = y9 + Int32.ofInt 1 := ⟨_, rfl⟩
          refine lv_iinc (v := x15) (lv' := [(4, .int x15), (3, .int y3), (0, .ref o), (1, .int i0), (2, .int i1)]) hx hb dX3_mostWithin_124 hl (k := 0) rfl e15.symm (by decide) rfl (fun ls hl => ?_)
          have f15 : x15.toInt = y9.toInt + 1 := by rw [e15]; exact tinc (by decide) (by have t8 := tb y9; omega) (by have t8 := tb y9; omega)
          refine lv_goto (tgt := 43) hx hb dX3_mostWithin_127 (by decide) ?_
          exact ih (H := H) (locs := locs) (ls := ls) (y9 := x15) (yfp := yfp) (yfq := (upd yfq y9.toNatClampNeg r11)) (yfv := (upd yfv y9.toNatClampNeg 1)) hS (by omega) h_yfp (show lv_has ls 5 [(4, .int x15), (3, .int y3), (0, .ref o), (1, .int i0), (2, .int i1)] from lv_sub hl [0, 1, 2, 3, 4] rfl) (mx_subP (wc := [(o, .inr (3, [.ref k, .ref op, .int oto, .ref oq, .ref ov, .ref os])), (op, .inl (cI, 6, .inl yfp)), (oq, .inl (cI, 6, .inl (upd yfq y9.toNatClampNeg r11))), (ov, .inl (cI, 6, .inl (upd yfv y9.toNatClampNeg 1))), (k, .inr (0, [.ref ks, .ref kw, .ref kc, .int kwd, .int kbg, .int kme, .ref kq, .ref km, .ref kd, .int ksi, .ref ka, .ref kk])), (ks, .inl (cI, 5, .inl kfs)), (kw, .inl (cI, 14, .inl kfw)), (kq, .inl (cI, 6, .inl kfq)), (km, .inl (cI, 6, .inl kfm)), (kd, .inl (cI, 6, .inl kfd))]) hP [0, 1, 2, 3, 7, 8, 4, 5, 6, 9] rfl) (hD.sub (ws' := [(o, .inr (3, [.ref k, .ref op, .int oto, .ref oq, .ref ov, .ref os])), (op, .inl (cI, 6, .inl yfp)), (oq, .inl (cI, 6, .inl (upd yfq y9.toNatClampNeg r11))), (ov, .inl (cI, 6, .inl (upd yfv y9.toNatClampNeg 1))), (k, .inr (0, [.ref ks, .ref kw, .ref kc, .int kwd, .int kbg, .int kme, .ref kq, .ref km, .ref kd, .int ksi, .ref ka, .ref kk])), (ks, .inl (cI, 5, .inl kfs)), (kw, .inl (cI, 14, .inl kfw)), (kq, .inl (cI, 6, .inl kfq)), (km, .inl (cI, 6, .inl kfm)), (kd, .inl (cI, 6, .inl kfd))]) [0, 1, 2, 3, 7, 8, 4, 5, 6, 9] (by decide) rfl) (by omega)
        · have t14 : r13.toInt = (0 : Int) := (teq c14)
          refine lv_aload_n hx hb dX3_mostWithin_116 rfl (lv_at hl 2 rfl) ?_
          refine va_get (D := (dC, dI)) (ci := 3) (v := .ref op) (C := RX3) (T := TX3) (N := 6) hx hb hts hin3 hown hK hP 0 rfl rfl 1 (by decide) hw2 (fun _ h9 => h9) rfl dX3_mostWithin_117 ?_
          refine lv_iload hx hb dX3_mostWithin_120 (lv_at hl 0 rfl) ?_
          refine lv_iconst (v := 0) hx hb dX3_mostWithin_122 (by decide) ?_
          refine va_iast hx hb hK hP hD hS 1 0 rfl rfl (vin (by omega) (by omega)) dX3_mostWithin_123 (fun H locs hP hD hS => ?_)
          replace hP : va_P (dC, dI) vwCl [(o, .inr (3, [.ref k, .ref op, .int oto, .ref oq, .ref ov, .ref os])), (op, .inl (cI, 6, .inl (upd yfp y9.toNatClampNeg 0))), (oq, .inl (cI, 6, .inl (upd yfq y9.toNatClampNeg r11))), (ov, .inl (cI, 6, .inl (upd yfv y9.toNatClampNeg 1))), (kw, .inl (cI, 14, .inl kfw)), (kq, .inl (cI, 6, .inl kfq)), (km, .inl (cI, 6, .inl kfm)), (k, .inr (0, [.ref ks, .ref kw, .ref kc, .int kwd, .int kbg, .int kme, .ref kq, .ref km, .ref kd, .int ksi, .ref ka, .ref kk])), (ks, .inl (cI, 5, .inl kfs)), (kd, .inl (cI, 6, .inl kfd))] H := hP
          replace hD : va_D A [(o, .inr (3, [.ref k, .ref op, .int oto, .ref oq, .ref ov, .ref os])), (op, .inl (cI, 6, .inl (upd yfp y9.toNatClampNeg 0))), (oq, .inl (cI, 6, .inl (upd yfq y9.toNatClampNeg r11))), (ov, .inl (cI, 6, .inl (upd yfv y9.toNatClampNeg 1))), (kw, .inl (cI, 14, .inl kfw)), (kq, .inl (cI, 6, .inl kfq)), (km, .inl (cI, 6, .inl kfm)), (k, .inr (0, [.ref ks, .ref kw, .ref kc, .int kwd, .int kbg, .int kme, .ref kq, .ref km, .ref kd, .int ksi, .ref ka, .ref kk])), (ks, .inl (cI, 5, .inl kfs)), (kd, .inl (cI, 6, .inl kfd))] := hD
          obtain ⟨x16, e16⟩ : ∃ y : Int32, y = y9 + Int32.ofInt 1 := ⟨_, rfl⟩
          refine lv_iinc (v := x16) (lv' := [(4, .int x16), (3, .int y3), (0, .ref o), (1, .int i0), (2, .int i1)]) hx hb dX3_mostWithin_124 hl (k := 0) rfl e16.symm (by decide) rfl (fun ls hl => ?_)
          have f16 : x16.toInt = y9.toInt + 1 := by rw [e16]; exact tinc (by decide) (by have t8 := tb y9; omega) (by have t8 := tb y9; omega)
          refine lv_goto (tgt := 43) hx hb dX3_mostWithin_127 (by decide) ?_
          exact ih (H := H) (locs := locs) (ls := ls) (y9 := x16) (yfp := (upd yfp y9.toNatClampNeg 0)) (yfq := (upd yfq y9.toNatClampNeg r11)) (yfv := (upd yfv y9.toNatClampNeg 1)) hS (by omega) (rg_upd h_yfp (by have z8 : (0 : Int32).toInt = 0 := rfl; omega) (by have z8 : (0 : Int32).toInt = 0 := rfl; omega)) (show lv_has ls 5 [(4, .int x16), (3, .int y3), (0, .ref o), (1, .int i0), (2, .int i1)] from lv_sub hl [0, 1, 2, 3, 4] rfl) (mx_subP (wc := [(o, .inr (3, [.ref k, .ref op, .int oto, .ref oq, .ref ov, .ref os])), (op, .inl (cI, 6, .inl (upd yfp y9.toNatClampNeg 0))), (oq, .inl (cI, 6, .inl (upd yfq y9.toNatClampNeg r11))), (ov, .inl (cI, 6, .inl (upd yfv y9.toNatClampNeg 1))), (k, .inr (0, [.ref ks, .ref kw, .ref kc, .int kwd, .int kbg, .int kme, .ref kq, .ref km, .ref kd, .int ksi, .ref ka, .ref kk])), (ks, .inl (cI, 5, .inl kfs)), (kw, .inl (cI, 14, .inl kfw)), (kq, .inl (cI, 6, .inl kfq)), (km, .inl (cI, 6, .inl kfm)), (kd, .inl (cI, 6, .inl kfd))]) hP [0, 1, 2, 3, 7, 8, 4, 5, 6, 9] rfl) (hD.sub (ws' := [(o, .inr (3, [.ref k, .ref op, .int oto, .ref oq, .ref ov, .ref os])), (op, .inl (cI, 6, .inl (upd yfp y9.toNatClampNeg 0))), (oq, .inl (cI, 6, .inl (upd yfq y9.toNatClampNeg r11))), (ov, .inl (cI, 6, .inl (upd yfv y9.toNatClampNeg 1))), (k, .inr (0, [.ref ks, .ref kw, .ref kc, .int kwd, .int kbg, .int kme, .ref kq, .ref km, .ref kd, .int ksi, .ref ka, .ref kk])), (ks, .inl (cI, 5, .inl kfs)), (kw, .inl (cI, 14, .inl kfw)), (kq, .inl (cI, 6, .inl kfq)), (km, .inl (cI, 6, .inl kfm)), (kd, .inl (cI, 6, .inl kfd))]) [0, 1, 2, 3, 7, 8, 4, 5, 6, 9] (by decide) rfl) (by omega)
      · have t12 : i1.toInt ≠ (0 : Int) := (tne c12)
        refine lv_aload_n hx hb dX3_mostWithin_78 rfl (lv_at hl 2 rfl) ?_
        refine va_get (D := (dC, dI)) (ci := 3) (v := .ref k) (C := RX3) (T := TX3) (N := 6) hx hb hts hin3 hown hK hP 0 rfl rfl 0 (by decide) hw0 (fun _ h9 => h9) rfl dX3_mostWithin_79 ?_
        refine va_get (D := (dC, dI)) (ci := 0) (v := .ref km) (C := RX0) (T := TX0) (N := 12) hx hb hts hin0 hown hK hP 7 rfl rfl 7 (by decide) hw5 (fun _ h9 => h9) rfl dX3_mostWithin_82 ?_
        refine lv_iload hx hb dX3_mostWithin_85 (lv_at hl 0 rfl) ?_
        refine va_iald hx hb hK hP 9 0 rfl rfl (vin (by omega) (by omega)) dX3_mostWithin_87 ?_
        refine lv_topi (fun x17 e17 => ?_)
        refine lv_aload_n hx hb dX3_mostWithin_88 rfl (lv_at hl 2 rfl) ?_
        refine va_get (D := (dC, dI)) (ci := 3) (v := .ref k) (C := RX3) (T := TX3) (N := 6) hx hb hts hin3 hown hK hP 0 rfl rfl 0 (by decide) hw0 (fun _ h9 => h9) rfl dX3_mostWithin_89 ?_
        refine va_get (D := (dC, dI)) (ci := 0) (v := .ref kq) (C := RX0) (T := TX0) (N := 12) hx hb hts hin0 hown hK hP 7 rfl rfl 6 (by decide) hw6 (fun _ h9 => h9) rfl dX3_mostWithin_92 ?_
        refine lv_iload hx hb dX3_mostWithin_95 (lv_at hl 0 rfl) ?_
        refine va_iald hx hb hK hP 8 0 rfl rfl (vin (by omega) (by omega)) dX3_mostWithin_97 ?_
        refine lv_topi (fun x18 e18 => ?_)
        refine lv_iadd hx hb dX3_mostWithin_98 ?_
        refine lv_topi (fun x19 e19 => ?_)
        refine lv_goto (tgt := 103) hx hb dX3_mostWithin_99 (by decide) ?_
        refine va_iast hx hb hK hP hD hS 3 0 rfl rfl (vin (by omega) (by omega)) dX3_mostWithin_103 (fun H locs hP hD hS => ?_)
        replace hP : va_P (dC, dI) vwCl [(o, .inr (3, [.ref k, .ref op, .int oto, .ref oq, .ref ov, .ref os])), (op, .inl (cI, 6, .inl yfp)), (oq, .inl (cI, 6, .inl (upd yfq y9.toNatClampNeg r11))), (ov, .inl (cI, 6, .inl (upd yfv y9.toNatClampNeg x19))), (ks, .inl (cI, 5, .inl kfs)), (kw, .inl (cI, 14, .inl kfw)), (kd, .inl (cI, 6, .inl kfd)), (k, .inr (0, [.ref ks, .ref kw, .ref kc, .int kwd, .int kbg, .int kme, .ref kq, .ref km, .ref kd, .int ksi, .ref ka, .ref kk])), (kq, .inl (cI, 6, .inl kfq)), (km, .inl (cI, 6, .inl kfm))] H := hP
        replace hD : va_D A [(o, .inr (3, [.ref k, .ref op, .int oto, .ref oq, .ref ov, .ref os])), (op, .inl (cI, 6, .inl yfp)), (oq, .inl (cI, 6, .inl (upd yfq y9.toNatClampNeg r11))), (ov, .inl (cI, 6, .inl (upd yfv y9.toNatClampNeg x19))), (ks, .inl (cI, 5, .inl kfs)), (kw, .inl (cI, 14, .inl kfw)), (kd, .inl (cI, 6, .inl kfd)), (k, .inr (0, [.ref ks, .ref kw, .ref kc, .int kwd, .int kbg, .int kme, .ref kq, .ref km, .ref kd, .int ksi, .ref ka, .ref kk])), (kq, .inl (cI, 6, .inl kfq)), (km, .inl (cI, 6, .inl kfm))] := hD
        refine lv_aload_n hx hb dX3_mostWithin_104 rfl (lv_at hl 2 rfl) ?_
        refine va_get (D := (dC, dI)) (ci := 3) (v := .ref k) (C := RX3) (T := TX3) (N := 6) hx hb hts hin3 hown hK hP 0 rfl rfl 0 (by decide) hw0 (fun _ h9 => h9) rfl dX3_mostWithin_105 ?_
        refine lv_iload hx hb dX3_mostWithin_108 (lv_at hl 0 rfl) ?_
        refine mx_i (wr := [(o, .inr (3, [.ref k, .ref op, .int oto, .ref oq, .ref ov, .ref os])), (op, .inl (cI, 6, .inl yfp)), (oq, .inl (cI, 6, .inl (upd yfq y9.toNatClampNeg r11))), (ov, .inl (cI, 6, .inl (upd yfv y9.toNatClampNeg x19))), (kw, .inl (cI, 14, .inl kfw)), (kq, .inl (cI, 6, .inl kfq)), (km, .inl (cI, 6, .inl kfm))]) (va_runV (As := [.int y9]) (rest := []) ⟨hx, hb, hml, hown, hts⟩ (c_X0_isHot l dC dI cI cZ cK tS aK aV k y9 ks kw kc kwd kbg kme kq km kd ksi ka kk kfs kfd H.size (by first | omega | decide | assumption | trivial) (by first | omega | decide | assumption | trivial)) (cwV 1 hts (gw_v (fun _ h9 => List.mem_cons_of_mem _ h9) wm_629 wm_410 wm_411 wm_14 wm_412) rfl rfl rfl (by decide +kernel) ⟨Nat.le_of_ble_eq_true rfl, Nat.le_of_ble_eq_true rfl⟩) (mx_preV (C := RX0) (T := TX0) (N := 12) (ci := 0) hKx hP hD hS hA [7, 4, 6] (by decide) rfl rfl rfl) rfl rfl hl.1 rfl (lv_room (Nat.le_of_ble_eq_true rfl)) dX3_mostWithin_110 ⟨Nat.le_of_ble_eq_true rfl, Nat.le_of_ble_eq_true rfl⟩) hP hD hS hA [7, 4, 6] [0, 1, 2, 3, 5, 8, 9] rfl rfl (by decide) (by decide) (fun r20 u20 H locs hq20 hP hD hS => ?_)
        replace hP : va_P (dC, dI) vwCl [(o, .inr (3, [.ref k, .ref op, .int oto, .ref oq, .ref ov, .ref os])), (op, .inl (cI, 6, .inl yfp)), (oq, .inl (cI, 6, .inl (upd yfq y9.toNatClampNeg r11))), (ov, .inl (cI, 6, .inl (upd yfv y9.toNatClampNeg x19))), (kw, .inl (cI, 14, .inl kfw)), (kq, .inl (cI, 6, .inl kfq)), (km, .inl (cI, 6, .inl kfm)), (k, .inr (0, [.ref ks, .ref kw, .ref kc, .int kwd, .int kbg, .int kme, .ref kq, .ref km, .ref kd, .int ksi, .ref ka, .ref kk])), (ks, .inl (cI, 5, .inl kfs)), (kd, .inl (cI, 6, .inl kfd))] H := hP
        replace hD : va_D A [(o, .inr (3, [.ref k, .ref op, .int oto, .ref oq, .ref ov, .ref os])), (op, .inl (cI, 6, .inl yfp)), (oq, .inl (cI, 6, .inl (upd yfq y9.toNatClampNeg r11))), (ov, .inl (cI, 6, .inl (upd yfv y9.toNatClampNeg x19))), (kw, .inl (cI, 14, .inl kfw)), (kq, .inl (cI, 6, .inl kfq)), (km, .inl (cI, 6, .inl kfm)), (k, .inr (0, [.ref ks, .ref kw, .ref kc, .int kwd, .int kbg, .int kme, .ref kq, .ref km, .ref kd, .int ksi, .ref ka, .ref kk])), (ks, .inl (cI, 5, .inl kfs)), (kd, .inl (cI, 6, .inl kfd))] := hD
        refine lv_if_ne (tgt := 124) hx hb dX3_mostWithin_113 (by decide) (fun c21 => ?_) (fun c21 => ?_)
        · have t21 : r20.toInt ≠ (0 : Int) := (tne c21)
          obtain ⟨x22, e22⟩ : ∃ y : Int32, y = y9 + Int32.ofInt 1 := ⟨_, rfl⟩
          refine lv_iinc (v := x22) (lv' := [(4, .int x22), (3, .int y3), (0, .ref o), (1, .int i0), (2, .int i1)]) hx hb dX3_mostWithin_124 hl (k := 0) rfl e22.symm (by decide) rfl (fun ls hl => ?_)
          have f22 : x22.toInt = y9.toInt + 1 := by rw [e22]; exact tinc (by decide) (by have t8 := tb y9; omega) (by have t8 := tb y9; omega)
          refine lv_goto (tgt := 43) hx hb dX3_mostWithin_127 (by decide) ?_
          exact ih (H := H) (locs := locs) (ls := ls) (y9 := x22) (yfp := yfp) (yfq := (upd yfq y9.toNatClampNeg r11)) (yfv := (upd yfv y9.toNatClampNeg x19)) hS (by omega) h_yfp (show lv_has ls 5 [(4, .int x22), (3, .int y3), (0, .ref o), (1, .int i0), (2, .int i1)] from lv_sub hl [0, 1, 2, 3, 4] rfl) (mx_subP (wc := [(o, .inr (3, [.ref k, .ref op, .int oto, .ref oq, .ref ov, .ref os])), (op, .inl (cI, 6, .inl yfp)), (oq, .inl (cI, 6, .inl (upd yfq y9.toNatClampNeg r11))), (ov, .inl (cI, 6, .inl (upd yfv y9.toNatClampNeg x19))), (k, .inr (0, [.ref ks, .ref kw, .ref kc, .int kwd, .int kbg, .int kme, .ref kq, .ref km, .ref kd, .int ksi, .ref ka, .ref kk])), (ks, .inl (cI, 5, .inl kfs)), (kw, .inl (cI, 14, .inl kfw)), (kq, .inl (cI, 6, .inl kfq)), (km, .inl (cI, 6, .inl kfm)), (kd, .inl (cI, 6, .inl kfd))]) hP [0, 1, 2, 3, 7, 8, 4, 5, 6, 9] rfl) (hD.sub (ws' := [(o, .inr (3, [.ref k, .ref op, .int oto, .ref oq, .ref ov, .ref os])), (op, .inl (cI, 6, .inl yfp)), (oq, .inl (cI, 6, .inl (upd yfq y9.toNatClampNeg r11))), (ov, .inl (cI, 6, .inl (upd yfv y9.toNatClampNeg x19))), (k, .inr (0, [.ref ks, .ref kw, .ref kc, .int kwd, .int kbg, .int kme, .ref kq, .ref km, .ref kd, .int ksi, .ref ka, .ref kk])), (ks, .inl (cI, 5, .inl kfs)), (kw, .inl (cI, 14, .inl kfw)), (kq, .inl (cI, 6, .inl kfq)), (km, .inl (cI, 6, .inl kfm)), (kd, .inl (cI, 6, .inl kfd))]) [0, 1, 2, 3, 7, 8, 4, 5, 6, 9] (by decide) rfl) (by omega)
        · have t21 : r20.toInt = (0 : Int) := (teq c21)
          refine lv_aload_n hx hb dX3_mostWithin_116 rfl (lv_at hl 2 rfl) ?_
          refine va_get (D := (dC, dI)) (ci := 3) (v := .ref op) (C := RX3) (T := TX3) (N := 6) hx hb hts hin3 hown hK hP 0 rfl rfl 1 (by decide) hw2 (fun _ h9 => h9) rfl dX3_mostWithin_117 ?_
          refine lv_iload hx hb dX3_mostWithin_120 (lv_at hl 0 rfl) ?_
          refine lv_iconst (v := 0) hx hb dX3_mostWithin_122 (by decide) ?_
          refine va_iast hx hb hK hP hD hS 1 0 rfl rfl (vin (by omega) (by omega)) dX3_mostWithin_123 (fun H locs hP hD hS => ?_)
          replace hP : va_P (dC, dI) vwCl [(o, .inr (3, [.ref k, .ref op, .int oto, .ref oq, .ref ov, .ref os])), (op, .inl (cI, 6, .inl (upd yfp y9.toNatClampNeg 0))), (oq, .inl (cI, 6, .inl (upd yfq y9.toNatClampNeg r11))), (ov, .inl (cI, 6, .inl (upd yfv y9.toNatClampNeg x19))), (kw, .inl (cI, 14, .inl kfw)), (kq, .inl (cI, 6, .inl kfq)), (km, .inl (cI, 6, .inl kfm)), (k, .inr (0, [.ref ks, .ref kw, .ref kc, .int kwd, .int kbg, .int kme, .ref kq, .ref km, .ref kd, .int ksi, .ref ka, .ref kk])), (ks, .inl (cI, 5, .inl kfs)), (kd, .inl (cI, 6, .inl kfd))] H := hP
          replace hD : va_D A [(o, .inr (3, [.ref k, .ref op, .int oto, .ref oq, .ref ov, .ref os])), (op, .inl (cI, 6, .inl (upd yfp y9.toNatClampNeg 0))), (oq, .inl (cI, 6, .inl (upd yfq y9.toNatClampNeg r11))), (ov, .inl (cI, 6, .inl (upd yfv y9.toNatClampNeg x19))), (kw, .inl (cI, 14, .inl kfw)), (kq, .inl (cI, 6, .inl kfq)), (km, .inl (cI, 6, .inl kfm)), (k, .inr (0, [.ref ks, .ref kw, .ref kc, .int kwd, .int kbg, .int kme, .ref kq, .ref km, .ref kd, .int ksi, .ref ka, .ref kk])), (ks, .inl (cI, 5, .inl kfs)), (kd, .inl (cI, 6, .inl kfd))] := hD
          obtain ⟨x23, e23⟩ : ∃ y : Int32, y = y9 + Int32.ofInt 1 := ⟨_, rfl⟩
          refine lv_iinc (v := x23) (lv' := [(4, .int x23), (3, .int y3), (0, .ref o), (1, .int i0), (2, .int i1)]) hx hb dX3_mostWithin_124 hl (k := 0) rfl e23.symm (by decide) rfl (fun ls hl => ?_)
          have f23 : x23.toInt = y9.toInt + 1 := by rw [e23]; exact tinc (by decide) (by have t8 := tb y9; omega) (by have t8 := tb y9; omega)
          refine lv_goto (tgt := 43) hx hb dX3_mostWithin_127 (by decide) ?_
          exact ih (H := H) (locs := locs) (ls := ls) (y9 := x23) (yfp := (upd yfp y9.toNatClampNeg 0)) (yfq := (upd yfq y9.toNatClampNeg r11)) (yfv := (upd yfv y9.toNatClampNeg x19)) hS (by omega) (rg_upd h_yfp (by have z8 : (0 : Int32).toInt = 0 := rfl; omega) (by have z8 : (0 : Int32).toInt = 0 := rfl; omega)) (show lv_has ls 5 [(4, .int x23), (3, .int y3), (0, .ref o), (1, .int i0), (2, .int i1)] from lv_sub hl [0, 1, 2, 3, 4] rfl) (mx_subP (wc := [(o, .inr (3, [.ref k, .ref op, .int oto, .ref oq, .ref ov, .ref os])), (op, .inl (cI, 6, .inl (upd yfp y9.toNatClampNeg 0))), (oq, .inl (cI, 6, .inl (upd yfq y9.toNatClampNeg r11))), (ov, .inl (cI, 6, .inl (upd yfv y9.toNatClampNeg x19))), (k, .inr (0, [.ref ks, .ref kw, .ref kc, .int kwd, .int kbg, .int kme, .ref kq, .ref km, .ref kd, .int ksi, .ref ka, .ref kk])), (ks, .inl (cI, 5, .inl kfs)), (kw, .inl (cI, 14, .inl kfw)), (kq, .inl (cI, 6, .inl kfq)), (km, .inl (cI, 6, .inl kfm)), (kd, .inl (cI, 6, .inl kfd))]) hP [0, 1, 2, 3, 7, 8, 4, 5, 6, 9] rfl) (hD.sub (ws' := [(o, .inr (3, [.ref k, .ref op, .int oto, .ref oq, .ref ov, .ref os])), (op, .inl (cI, 6, .inl (upd yfp y9.toNatClampNeg 0))), (oq, .inl (cI, 6, .inl (upd yfq y9.toNatClampNeg r11))), (ov, .inl (cI, 6, .inl (upd yfv y9.toNatClampNeg x19))), (k, .inr (0, [.ref ks, .ref kw, .ref kc, .int kwd, .int kbg, .int kme, .ref kq, .ref km, .ref kd, .int ksi, .ref ka, .ref kk])), (ks, .inl (cI, 5, .inl kfs)), (kw, .inl (cI, 14, .inl kfw)), (kq, .inl (cI, 6, .inl kfq)), (km, .inl (cI, 6, .inl kfm)), (kd, .inl (cI, 6, .inl kfd))]) [0, 1, 2, 3, 7, 8, 4, 5, 6, 9] (by decide) rfl) (by omega)
  | succ n2 ih =>
    skip
    refine lv_iload hx hb dX3_mostWithin_13 (lv_at hl 0 rfl) ?_
    refine lv_iload_n hx hb dX3_mostWithin_15 rfl (lv_at hl 3 rfl) ?_
    refine lv_icmp_gt (tgt := 40) hx hb dX3_mostWithin_16 (by decide) (fun c24 => by exfalso; have t24 : i0.toInt < y4.toInt := (tlt c24); omega) (fun c24 => ?_)
    refine lv_iload_n hx hb dX3_mostWithin_19 rfl (lv_at hl 1 rfl) ?_
    refine lv_aload_n hx hb dX3_mostWithin_20 rfl (lv_at hl 2 rfl) ?_
    refine va_get (D := (dC, dI)) (ci := 3) (v := .ref k) (C := RX3) (T := TX3) (N := 6) hx hb hts hin3 hown hK hP 0 rfl rfl 0 (by decide) hw0 (fun _ h9 => h9) rfl dX3_mostWithin_21 ?_
    refine lv_iload hx hb dX3_mostWithin_24 (lv_at hl 0 rfl) ?_
    refine lv_iconst (v := 0) hx hb dX3_mostWithin_26 (by decide) ?_
    refine mx_i (wr := [(o, .inr (3, [.ref k, .ref op, .int oto, .ref oq, .ref ov, .ref os])), (op, .inl (cI, 6, .inl ofp)), (oq, .inl (cI, 6, .inl ofq)), (ov, .inl (cI, 6, .inl ofv)), (kq, .inl (cI, 6, .inl kfq)), (km, .inl (cI, 6, .inl kfm)), (kd, .inl (cI, 6, .inl kfd))]) (va_runV (As := [.int y4, .int 0]) (rest := [.int y3]) ⟨hx, hb, hml, hown, hts⟩ (c_X0_windOn l dC dI cI cZ cK tS aK aV k y4 0 ks kw kc kwd kbg kme kq km kd ksi ka kk kfs kfw H.size (by have z8 : (0 : Int32).toInt = 0 := rfl; first | omega | decide | assumption | trivial) h_kfw (by have z8 : (0 : Int32).toInt = 0 := rfl; first | omega | decide | assumption | trivial) (by have z8 : (0 : Int32).toInt = 0 := rfl; first | omega | decide | assumption | trivial)) (cwV 2 hts (gw_v (fun _ h9 => List.mem_cons_of_mem _ h9) wm_627 wm_384 wm_385 wm_14 wm_386) rfl rfl rfl (by decide +kernel) ⟨Nat.le_of_ble_eq_true rfl, Nat.le_of_ble_eq_true rfl⟩) (mx_preV (C := RX0) (T := TX0) (N := 12) (ci := 0) hKx hP hD hS hA [4, 5, 6] (by decide) rfl rfl rfl) rfl rfl hl.1 rfl (lv_room (Nat.le_of_ble_eq_true rfl)) dX3_mostWithin_27 ⟨Nat.le_of_ble_eq_true rfl, Nat.le_of_ble_eq_true rfl⟩) hP hD hS hA [4, 5, 6] [0, 1, 2, 3, 7, 8, 9] rfl rfl (by decide) (by decide) (fun r25 u25 H locs hq25 hP hD hS => ?_)
    replace hP : va_P (dC, dI) vwCl [(o, .inr (3, [.ref k, .ref op, .int oto, .ref oq, .ref ov, .ref os])), (op, .inl (cI, 6, .inl ofp)), (oq, .inl (cI, 6, .inl ofq)), (ov, .inl (cI, 6, .inl ofv)), (kq, .inl (cI, 6, .inl kfq)), (km, .inl (cI, 6, .inl kfm)), (kd, .inl (cI, 6, .inl kfd)), (k, .inr (0, [.ref ks, .ref kw, .ref kc, .int kwd, .int kbg, .int kme, .ref kq, .ref km, .ref kd, .int ksi, .ref ka, .ref kk])), (ks, .inl (cI, 5, .inl kfs)), (kw, .inl (cI, 14, .inl kfw))] H := hP
    replace hD : va_D A [(o, .inr (3, [.ref k, .ref op, .int oto, .ref oq, .ref ov, .ref os])), (op, .inl (cI, 6, .inl ofp)), (oq, .inl (cI, 6, .inl ofq)), (ov, .inl (cI, 6, .inl ofv)), (kq, .inl (cI, 6, .inl kfq)), (km, .inl (cI, 6, .inl kfm)), (kd, .inl (cI, 6, .inl kfd)), (k, .inr (0, [.ref ks, .ref kw, .ref kc, .int kwd, .int kbg, .int kme, .ref kq, .ref km, .ref kd, .int ksi, .ref ka, .ref kk])), (ks, .inl (cI, 5, .inl kfs)), (kw, .inl (cI, 14, .inl kfw))] := hD
    obtain ⟨hx25_0, hr25⟩ := hq25
    replace hx25_0 : (0 : Int32).toInt ≠ 0 ∨ r25 = woF (kfs 3) (kfw y4.toNatClampNeg) := hx25_0
    refine va_mmin hx hb (hml.trans hl.1.symm) hown hw7 hw8 hw9 hw10 (Nat.le_of_ble_eq_true rfl) (Nat.le_of_ble_eq_true rfl) (Nat.le_of_ble_eq_true rfl) (Nat.le_of_ble_eq_true rfl) dX3_mostWithin_30 ?_
    refine lv_topi (fun x26 e26 => ?_)
    have f26 : x26.toInt ≤ y3.toInt ∧ x26.toInt ≤ r25.toInt ∧ (x26.toInt = y3.toInt ∨ x26.toInt = r25.toInt) := by rw [e26]; exact mmmin_t
    refine lv_istore_n (lv' := [(3, .int x26), (4, .int y4), (0, .ref o), (1, .int i0), (2, .int i1)]) hx hb dX3_mostWithin_33 rfl hl (by decide) rfl (fun ls hl => ?_)
    obtain ⟨x27, e27⟩ : ∃ y : Int32, y = y4 + Int32.ofInt 1 := ⟨_, rfl⟩
    refine lv_iinc (v := x27) (lv' := [(4, .int x27), (3, .int x26), (0, .ref o), (1, .int i0), (2, .int i1)]) hx hb dX3_mostWithin_34 hl (k := 1) rfl e27.symm (by decide) rfl (fun ls hl => ?_)
    have f27 : x27.toInt = y4.toInt + 1 := by rw [e27]; exact tinc (by decide) (by have t8 := tb y4; omega) (by have t8 := tb y4; omega)
    refine lv_goto (tgt := 13) hx hb dX3_mostWithin_37 (by decide) ?_
    exact ih (H := H) (locs := locs) (ls := ls) (y3 := x26) (y4 := x27) hS (by omega)  (show lv_has ls 5 [(4, .int x27), (3, .int x26), (0, .ref o), (1, .int i0), (2, .int i1)] from lv_sub hl [0, 1, 2, 3, 4] rfl) (mx_subP (wc := [(o, .inr (3, [.ref k, .ref op, .int oto, .ref oq, .ref ov, .ref os])), (op, .inl (cI, 6, .inl ofp)), (oq, .inl (cI, 6, .inl ofq)), (ov, .inl (cI, 6, .inl ofv)), (k, .inr (0, [.ref ks, .ref kw, .ref kc, .int kwd, .int kbg, .int kme, .ref kq, .ref km, .ref kd, .int ksi, .ref ka, .ref kk])), (ks, .inl (cI, 5, .inl kfs)), (kw, .inl (cI, 14, .inl kfw)), (kq, .inl (cI, 6, .inl kfq)), (km, .inl (cI, 6, .inl kfm)), (kd, .inl (cI, 6, .inl kfd))]) hP [0, 1, 2, 3, 7, 8, 9, 4, 5, 6] rfl) (by omega)
set_option maxHeartbeats 4000000 in
set_option maxRecDepth 100000 in
theorem c_X3_countSlots (l : Launch) (dC : Nat → ClassId) (dI : Nat → Nat → Nat) (cI cZ cK : ClassId) (tS : Nat) (aK aV : Nat → Nat) (o : Nat) (i0 : Int32) (k : Nat) (op : Nat) (oto : Int32) (oq : Nat) (ov : Nat) (os : Nat) (ofs : Nat → Int32) (ks : Nat) (kw : Nat) (kc : Nat) (kwd : Int32) (kbg : Int32) (kme : Int32) (kq : Nat) (km : Nat) (kd : Nat) (ksi : Int32) (ka : Nat) (kk : Nat) (kfs : Nat → Int32) (kfw : Nat → Int32) (sz : Nat) (h_kfs_4 : 0 ≤ (kfs 4).toInt ∧ (kfs 4).toInt ≤ 13) (h_kfw : rg kfw 14 0 4) (h_i0 : 0 ≤ i0.toInt ∧ i0.toInt ≤ 13) : Cv l yX3_countSlots (wq yX3_countSlots cX3_countSlots 3 none) ({ frames := 2, cells := 0, slots := 0, locals := 44 }) dC dI cI cZ cK tS aK aV [.ref o, .int i0] sz [(o, .inr (3, [.ref k, .ref op, .int oto, .ref oq, .ref ov, .ref os])), (os, .inl (cI, 5, .inl ofs)), (k, .inr (0, [.ref ks, .ref kw, .ref kc, .int kwd, .int kbg, .int kme, .ref kq, .ref km, .ref kd, .int ksi, .ref ka, .ref kk])), (ks, .inl (cI, 5, .inl kfs)), (kw, .inl (cI, 14, .inl kfw))] (fun (u : (Nat → Nat → Int32) × (Nat → Int32) × (Nat → Int64)) => True) (fun u => [(o, .inr (3, [.ref k, .ref op, .int oto, .ref oq, .ref ov, .ref os])), (os, .inl (cI, 5, .inl (u.1 0))), (k, .inr (0, [.ref ks, .ref kw, .ref kc, .int kwd, .int kbg, .int kme, .ref kq, .ref km, .ref kd, .int ksi, .ref ka, .ref kk])), (ks, .inl (cI, 5, .inl kfs)), (kw, .inl (cI, 14, .inl kfw))]) := by
  refine Met.ofW (cc := cX3_countSlots) (maxL := 3) (ret := none) (by decide) rfl ?_
  intro p e s m args below meth c s₁ B hml hv
  obtain ⟨rfl, hsz, hP, hKx, hD0⟩ := hv
  have hx := B.exec
  have hb := B.bytes
  have hr := B.returns
  have hts := atoms_spec (ws := wq yX3_countSlots cX3_countSlots 3 none) B.pre
  have hown : s.vm.findClass RX3 = some m.cls := findClass_of_methodNamed B.named
  have hlocks := B.notSynchronized
  subst hsz
  have hD := hD0.self (sz := s.heap.size)
  generalize hAe : va_A [(o, .inr (3, [.ref k, .ref op, .int oto, .ref oq, .ref ov, .ref os])), (os, .inl (cI, 5, .inl ofs)), (k, .inr (0, [.ref ks, .ref kw, .ref kc, .int kwd, .int kbg, .int kme, .ref kq, .ref km, .ref kd, .int ksi, .ref ka, .ref kk])), (ks, .inl (cI, 5, .inl kfs)), (kw, .inl (cI, 14, .inl kfw))] s.heap.size = A at hD hKx ⊢
  have hA : ∀ q : Nat, s.heap.size ≤ q → A q := fun q h => by rw [← hAe]; exact Or.inr h
  have hS : va_S A s.heap s.heap [] := va_S.rf
  have hP : va_P (dC, dI) vwCl [(o, .inr (3, [.ref k, .ref op, .int oto, .ref oq, .ref ov, .ref os])), (os, .inl (cI, 5, .inl ofs)), (k, .inr (0, [.ref ks, .ref kw, .ref kc, .int kwd, .int kbg, .int kme, .ref kq, .ref km, .ref kd, .int ksi, .ref ka, .ref kk])), (ks, .inl (cI, 5, .inl kfs)), (kw, .inl (cI, 14, .inl kfw))] s.heap := hP
  have hl := lv_entry ([.ref o, .int i0]) (n := 3) (Nat.le_of_ble_eq_true rfl)
  rw [lg_entry_eq]
  generalize (lg_sl ([.ref o, .int i0]) ++ List.replicate (3 - (lg_sl ([.ref o, .int i0])).length) Slot.unset).toArray = ls at hl ⊢
  have hl : lv_has ls 3 [(0, .ref o), (1, .int i0)] := hl
  have hK := hKx.1
  have hin3 := fun w9 h9 => List.mem_cons_of_mem (Cond.code yX3_countSlots cX3_countSlots 3 none) (inlX3 w9 h9)
  have hin0 := fun w9 h9 => List.mem_cons_of_mem (Cond.code yX3_countSlots cX3_countSlots 3 none) (inlX0 w9 h9)
  have hw0 := hts (.fieldLink RX3 21 "OneCan$Order" "slots" "[I") (List.mem_cons_of_mem _ wm_81)
  have hw1 := hts (.fieldLink RX3 24 "OneCan$Order" "camp" "LOneCan$Camp;") (List.mem_cons_of_mem _ wm_82)
  have hw2 := hts (.fieldLink RX3 58 "OneCan$Camp" "settings" "[I") (List.mem_cons_of_mem _ wm_625)
  refine lv_iconst (v := 0) hx hb dX3_countSlots_0 (by decide) ?_
  refine lv_istore_n (lv' := [(2, .int 0), (0, .ref o), (1, .int i0)]) hx hb dX3_countSlots_1 rfl hl (by decide) rfl (fun ls hl => ?_)
  refine lv_iload_n hx hb dX3_countSlots_2 rfl (lv_at hl 0 rfl) ?_
  refine lv_iconst (v := 4) hx hb dX3_countSlots_3 (by decide) ?_
  refine lv_icmp_gt (tgt := 20) hx hb dX3_countSlots_4 (by decide) (fun c1 => absurd c1 (by decide)) (fun c1 => ?_)
  refine lv_aload_n hx hb dX3_countSlots_7 rfl (lv_at hl 1 rfl) ?_
  refine va_get (D := (dC, dI)) (ci := 3) (v := .ref os) (C := RX3) (T := TX3) (N := 6) hx hb hts hin3 hown hK hP 0 rfl rfl 5 (by decide) hw0 (fun _ h9 => h9) rfl dX3_countSlots_8 ?_
  refine lv_iload_n hx hb dX3_countSlots_11 rfl (lv_at hl 0 rfl) ?_
  refine lv_iconst (v := 0) hx hb dX3_countSlots_12 (by decide) ?_
  refine va_iast hx hb hK hP hD hS 1 0 rfl rfl (vin (by decide) (by decide)) dX3_countSlots_13 (fun H locs hP hD hS => ?_)
  replace hP : va_P (dC, dI) vwCl [(o, .inr (3, [.ref k, .ref op, .int oto, .ref oq, .ref ov, .ref os])), (os, .inl (cI, 5, .inl (upd ofs 0 0))), (k, .inr (0, [.ref ks, .ref kw, .ref kc, .int kwd, .int kbg, .int kme, .ref kq, .ref km, .ref kd, .int ksi, .ref ka, .ref kk])), (ks, .inl (cI, 5, .inl kfs)), (kw, .inl (cI, 14, .inl kfw))] H := hP
  replace hD : va_D A [(o, .inr (3, [.ref k, .ref op, .int oto, .ref oq, .ref ov, .ref os])), (os, .inl (cI, 5, .inl (upd ofs 0 0))), (k, .inr (0, [.ref ks, .ref kw, .ref kc, .int kwd, .int kbg, .int kme, .ref kq, .ref km, .ref kd, .int ksi, .ref ka, .ref kk])), (ks, .inl (cI, 5, .inl kfs)), (kw, .inl (cI, 14, .inl kfw))] := hD
  refine lv_iinc (v := 1) (lv' := [(2, .int 1), (0, .ref o), (1, .int i0)]) hx hb dX3_countSlots_14 hl (k := 0) rfl (by decide) (by decide) rfl (fun ls hl => ?_)
  refine lv_goto (tgt := 2) hx hb dX3_countSlots_17 (by decide) ?_
  refine lv_iload_n hx hb dX3_countSlots_2 rfl (lv_at hl 0 rfl) ?_
  refine lv_iconst (v := 4) hx hb dX3_countSlots_3 (by decide) ?_
  refine lv_icmp_gt (tgt := 20) hx hb dX3_countSlots_4 (by decide) (fun c2 => absurd c2 (by decide)) (fun c2 => ?_)
  refine lv_aload_n hx hb dX3_countSlots_7 rfl (lv_at hl 1 rfl) ?_
  refine va_get (D := (dC, dI)) (ci := 3) (v := .ref os) (C := RX3) (T := TX3) (N := 6) hx hb hts hin3 hown hK hP 0 rfl rfl 5 (by decide) hw0 (fun _ h9 => h9) rfl dX3_countSlots_8 ?_
  refine lv_iload_n hx hb dX3_countSlots_11 rfl (lv_at hl 0 rfl) ?_
  refine lv_iconst (v := 0) hx hb dX3_countSlots_12 (by decide) ?_
  refine va_iast hx hb hK hP hD hS 1 0 rfl rfl (vin (by decide) (by decide)) dX3_countSlots_13 (fun H locs hP hD hS => ?_)
  replace hP : va_P (dC, dI) vwCl [(o, .inr (3, [.ref k, .ref op, .int oto, .ref oq, .ref ov, .ref os])), (os, .inl (cI, 5, .inl (upd (upd ofs 0 0) 1 0))), (k, .inr (0, [.ref ks, .ref kw, .ref kc, .int kwd, .int kbg, .int kme, .ref kq, .ref km, .ref kd, .int ksi, .ref ka, .ref kk])), (ks, .inl (cI, 5, .inl kfs)), (kw, .inl (cI, 14, .inl kfw))] H := hP
  replace hD : va_D A [(o, .inr (3, [.ref k, .ref op, .int oto, .ref oq, .ref ov, .ref os])), (os, .inl (cI, 5, .inl (upd (upd ofs 0 0) 1 0))), (k, .inr (0, [.ref ks, .ref kw, .ref kc, .int kwd, .int kbg, .int kme, .ref kq, .ref km, .ref kd, .int ksi, .ref ka, .ref kk])), (ks, .inl (cI, 5, .inl kfs)), (kw, .inl (cI, 14, .inl kfw))] := hD
  refine lv_iinc (v := 2) (lv' := [(2, .int 2), (0, .ref o), (1, .int i0)]) hx hb dX3_countSlots_14 hl (k := 0) rfl (by decide) (by decide) rfl (fun ls hl => ?_)
  refine lv_goto (tgt := 2) hx hb dX3_countSlots_17 (by decide) ?_
  refine lv_iload_n hx hb dX3_countSlots_2 rfl (lv_at hl 0 rfl) ?_
  refine lv_iconst (v := 4) hx hb dX3_countSlots_3 (by decide) ?_
  refine lv_icmp_gt (tgt := 20) hx hb dX3_countSlots_4 (by decide) (fun c3 => absurd c3 (by decide)) (fun c3 => ?_)
  refine lv_aload_n hx hb dX3_countSlots_7 rfl (lv_at hl 1 rfl) ?_
  refine va_get (D := (dC, dI)) (ci := 3) (v := .ref os) (C := RX3) (T := TX3) (N := 6) hx hb hts hin3 hown hK hP 0 rfl rfl 5 (by decide) hw0 (fun _ h9 => h9) rfl dX3_countSlots_8 ?_
  refine lv_iload_n hx hb dX3_countSlots_11 rfl (lv_at hl 0 rfl) ?_
  refine lv_iconst (v := 0) hx hb dX3_countSlots_12 (by decide) ?_
  refine va_iast hx hb hK hP hD hS 1 0 rfl rfl (vin (by decide) (by decide)) dX3_countSlots_13 (fun H locs hP hD hS => ?_)
  replace hP : va_P (dC, dI) vwCl [(o, .inr (3, [.ref k, .ref op, .int oto, .ref oq, .ref ov, .ref os])), (os, .inl (cI, 5, .inl (upd (upd (upd ofs 0 0) 1 0) 2 0))), (k, .inr (0, [.ref ks, .ref kw, .ref kc, .int kwd, .int kbg, .int kme, .ref kq, .ref km, .ref kd, .int ksi, .ref ka, .ref kk])), (ks, .inl (cI, 5, .inl kfs)), (kw, .inl (cI, 14, .inl kfw))] H := hP
  replace hD : va_D A [(o, .inr (3, [.ref k, .ref op, .int oto, .ref oq, .ref ov, .ref os])), (os, .inl (cI, 5, .inl (upd (upd (upd ofs 0 0) 1 0) 2 0))), (k, .inr (0, [.ref ks, .ref kw, .ref kc, .int kwd, .int kbg, .int kme, .ref kq, .ref km, .ref kd, .int ksi, .ref ka, .ref kk])), (ks, .inl (cI, 5, .inl kfs)), (kw, .inl (cI, 14, .inl kfw))] := hD
  refine lv_iinc (v := 3) (lv' := [(2, .int 3), (0, .ref o), (1, .int i0)]) hx hb dX3_countSlots_14 hl (k := 0) rfl (by decide) (by decide) rfl (fun ls hl => ?_)
  refine lv_goto (tgt := 2) hx hb dX3_countSlots_17 (by decide) ?_
  refine lv_iload_n hx hb dX3_countSlots_2 rfl (lv_at hl 0 rfl) ?_
  refine lv_iconst (v := 4) hx hb dX3_countSlots_3 (by decide) ?_
  refine lv_icmp_gt (tgt := 20) hx hb dX3_countSlots_4 (by decide) (fun c4 => absurd c4 (by decide)) (fun c4 => ?_)
  refine lv_aload_n hx hb dX3_countSlots_7 rfl (lv_at hl 1 rfl) ?_
  refine va_get (D := (dC, dI)) (ci := 3) (v := .ref os) (C := RX3) (T := TX3) (N := 6) hx hb hts hin3 hown hK hP 0 rfl rfl 5 (by decide) hw0 (fun _ h9 => h9) rfl dX3_countSlots_8 ?_
  refine lv_iload_n hx hb dX3_countSlots_11 rfl (lv_at hl 0 rfl) ?_
  refine lv_iconst (v := 0) hx hb dX3_countSlots_12 (by decide) ?_
  refine va_iast hx hb hK hP hD hS 1 0 rfl rfl (vin (by decide) (by decide)) dX3_countSlots_13 (fun H locs hP hD hS => ?_)
  replace hP : va_P (dC, dI) vwCl [(o, .inr (3, [.ref k, .ref op, .int oto, .ref oq, .ref ov, .ref os])), (os, .inl (cI, 5, .inl (upd (upd (upd (upd ofs 0 0) 1 0) 2 0) 3 0))), (k, .inr (0, [.ref ks, .ref kw, .ref kc, .int kwd, .int kbg, .int kme, .ref kq, .ref km, .ref kd, .int ksi, .ref ka, .ref kk])), (ks, .inl (cI, 5, .inl kfs)), (kw, .inl (cI, 14, .inl kfw))] H := hP
  replace hD : va_D A [(o, .inr (3, [.ref k, .ref op, .int oto, .ref oq, .ref ov, .ref os])), (os, .inl (cI, 5, .inl (upd (upd (upd (upd ofs 0 0) 1 0) 2 0) 3 0))), (k, .inr (0, [.ref ks, .ref kw, .ref kc, .int kwd, .int kbg, .int kme, .ref kq, .ref km, .ref kd, .int ksi, .ref ka, .ref kk])), (ks, .inl (cI, 5, .inl kfs)), (kw, .inl (cI, 14, .inl kfw))] := hD
  refine lv_iinc (v := 4) (lv' := [(2, .int 4), (0, .ref o), (1, .int i0)]) hx hb dX3_countSlots_14 hl (k := 0) rfl (by decide) (by decide) rfl (fun ls hl => ?_)
  refine lv_goto (tgt := 2) hx hb dX3_countSlots_17 (by decide) ?_
  refine lv_iload_n hx hb dX3_countSlots_2 rfl (lv_at hl 0 rfl) ?_
  refine lv_iconst (v := 4) hx hb dX3_countSlots_3 (by decide) ?_
  refine lv_icmp_gt (tgt := 20) hx hb dX3_countSlots_4 (by decide) (fun c5 => absurd c5 (by decide)) (fun c5 => ?_)
  refine lv_aload_n hx hb dX3_countSlots_7 rfl (lv_at hl 1 rfl) ?_
  refine va_get (D := (dC, dI)) (ci := 3) (v := .ref os) (C := RX3) (T := TX3) (N := 6) hx hb hts hin3 hown hK hP 0 rfl rfl 5 (by decide) hw0 (fun _ h9 => h9) rfl dX3_countSlots_8 ?_
  refine lv_iload_n hx hb dX3_countSlots_11 rfl (lv_at hl 0 rfl) ?_
  refine lv_iconst (v := 0) hx hb dX3_countSlots_12 (by decide) ?_
  refine va_iast hx hb hK hP hD hS 1 0 rfl rfl (vin (by decide) (by decide)) dX3_countSlots_13 (fun H locs hP hD hS => ?_)
  replace hP : va_P (dC, dI) vwCl [(o, .inr (3, [.ref k, .ref op, .int oto, .ref oq, .ref ov, .ref os])), (os, .inl (cI, 5, .inl (upd (upd (upd (upd (upd ofs 0 0) 1 0) 2 0) 3 0) 4 0))), (k, .inr (0, [.ref ks, .ref kw, .ref kc, .int kwd, .int kbg, .int kme, .ref kq, .ref km, .ref kd, .int ksi, .ref ka, .ref kk])), (ks, .inl (cI, 5, .inl kfs)), (kw, .inl (cI, 14, .inl kfw))] H := hP
  replace hD : va_D A [(o, .inr (3, [.ref k, .ref op, .int oto, .ref oq, .ref ov, .ref os])), (os, .inl (cI, 5, .inl (upd (upd (upd (upd (upd ofs 0 0) 1 0) 2 0) 3 0) 4 0))), (k, .inr (0, [.ref ks, .ref kw, .ref kc, .int kwd, .int kbg, .int kme, .ref kq, .ref km, .ref kd, .int ksi, .ref ka, .ref kk])), (ks, .inl (cI, 5, .inl kfs)), (kw, .inl (cI, 14, .inl kfw))] := hD
  refine lv_iinc (v := 5) (lv' := [(2, .int 5), (0, .ref o), (1, .int i0)]) hx hb dX3_countSlots_14 hl (k := 0) rfl (by decide) (by decide) rfl (fun ls hl => ?_)
  refine lv_goto (tgt := 2) hx hb dX3_countSlots_17 (by decide) ?_
  refine lv_iload_n hx hb dX3_countSlots_2 rfl (lv_at hl 0 rfl) ?_
  refine lv_iconst (v := 4) hx hb dX3_countSlots_3 (by decide) ?_
  refine lv_icmp_gt (tgt := 20) hx hb dX3_countSlots_4 (by decide) (fun c6 => ?_) (fun c6 => absurd c6 (by decide))
  refine lv_aload_n hx hb dX3_countSlots_20 rfl (lv_at hl 1 rfl) ?_
  refine va_get (D := (dC, dI)) (ci := 3) (v := .ref k) (C := RX3) (T := TX3) (N := 6) hx hb hts hin3 hown hK hP 0 rfl rfl 0 (by decide) hw1 (fun _ h9 => h9) rfl dX3_countSlots_21 ?_
  refine va_get (D := (dC, dI)) (ci := 0) (v := .ref ks) (C := RX0) (T := TX0) (N := 12) hx hb hts hin0 hown hK hP 2 rfl rfl 0 (by decide) hw2 (fun _ h9 => h9) rfl dX3_countSlots_24 ?_
  refine lv_iconst (v := 4) hx hb dX3_countSlots_27 (by decide) ?_
  refine va_iald hx hb hK hP 3 0 rfl rfl (vin (by decide) (by decide)) dX3_countSlots_28 ?_
  refine lv_topi (fun y7 e7 => ?_)
  obtain rfl : kfs 4 = y7 := e7.symm
  refine lv_istore_n (lv' := [(2, .int (kfs 4)), (0, .ref o), (1, .int i0)]) hx hb dX3_countSlots_29 rfl hl (by decide) rfl (fun ls hl => ?_)
  have hl0 := hl
  clear hl
  have hP0 := hP
  clear hP
  have hD0 := hD
  clear hD
  obtain ⟨y2, yfs, ex, hl, hP, hD⟩ : ∃ (y2 : Int32) (yfs : Nat → Int32), (0 ≤ y2.toInt ∧ y2.toInt ≤ 14) ∧ lv_has ls 3 [(2, .int y2), (0, .ref o), (1, .int i0)] ∧ va_P (dC, dI) vwCl [(o, .inr (3, [.ref k, .ref op, .int oto, .ref oq, .ref ov, .ref os])), (os, .inl (cI, 5, .inl yfs)), (k, .inr (0, [.ref ks, .ref kw, .ref kc, .int kwd, .int kbg, .int kme, .ref kq, .ref km, .ref kd, .int ksi, .ref ka, .ref kk])), (ks, .inl (cI, 5, .inl kfs)), (kw, .inl (cI, 14, .inl kfw))] H ∧ va_D A [(o, .inr (3, [.ref k, .ref op, .int oto, .ref oq, .ref ov, .ref os])), (os, .inl (cI, 5, .inl yfs)), (k, .inr (0, [.ref ks, .ref kw, .ref kc, .int kwd, .int kbg, .int kme, .ref kq, .ref km, .ref kd, .int ksi, .ref ka, .ref kk])), (ks, .inl (cI, 5, .inl kfs)), (kw, .inl (cI, 14, .inl kfw))] := ⟨(kfs 4), (upd (upd (upd (upd (upd ofs 0 0) 1 0) 2 0) 3 0) 4 0), by omega, hl0, hP0, hD0⟩
  clear hl0 hP0 hD0
  obtain ⟨n8, hn⟩ : ∃ n : Nat, (n : Int) = ((i0.toInt + 1 - y2.toInt).toNat : Int) := ⟨(((i0.toInt + 1 - y2.toInt).toNat : Int)).toNat, by omega⟩
  induction n8 generalizing y2 yfs ls H locs with
  | zero =>
    skip
    refine lv_iload_n hx hb dX3_countSlots_30 rfl (lv_at hl 0 rfl) ?_
    refine lv_iload_n hx hb dX3_countSlots_31 rfl (lv_at hl 2 rfl) ?_
    refine lv_icmp_gt (tgt := 59) hx hb dX3_countSlots_32 (by decide) (fun c9 => ?_) (fun c9 => by exfalso; have t9 : y2.toInt ≤ i0.toInt := (tnlt c9); omega)
    have hP9 := mx_subP (wc := [(o, .inr (3, [.ref k, .ref op, .int oto, .ref oq, .ref ov, .ref os])), (os, .inl (cI, 5, .inl yfs)), (k, .inr (0, [.ref ks, .ref kw, .ref kc, .int kwd, .int kbg, .int kme, .ref kq, .ref km, .ref kd, .int ksi, .ref ka, .ref kk])), (ks, .inl (cI, 5, .inl kfs)), (kw, .inl (cI, 14, .inl kfw))]) hP [0, 1, 2, 3, 4] rfl
    have hD9 := hD.sub (ws' := [(o, .inr (3, [.ref k, .ref op, .int oto, .ref oq, .ref ov, .ref os])), (os, .inl (cI, 5, .inl yfs)), (k, .inr (0, [.ref ks, .ref kw, .ref kc, .int kwd, .int kbg, .int kme, .ref kq, .ref km, .ref kd, .int ksi, .ref ka, .ref kk])), (ks, .inl (cI, 5, .inl kfs)), (kw, .inl (cI, 14, .inl kfw))]) [0, 1, 2, 3, 4] (by decide) rfl
    exact W.vret hx hb hr (fun t ht hW => ⟨⟨((fun u9 => ([yfs] : List (Nat → Int32)).getD u9 (fun _ => 0)), (fun u9 => ([] : List Int32).getD u9 0), (fun u9 => ([] : List Int64).getD u9 0)), rfl, trivial, by rw [ht]; exact hP9, hD9⟩, hS.F ht⟩) hS.2.2 dX3_countSlots_59
  | succ n8 ih =>
    skip
    refine lv_iload_n hx hb dX3_countSlots_30 rfl (lv_at hl 0 rfl) ?_
    refine lv_iload_n hx hb dX3_countSlots_31 rfl (lv_at hl 2 rfl) ?_
    refine lv_icmp_gt (tgt := 59) hx hb dX3_countSlots_32 (by decide) (fun c10 => by exfalso; have t10 : i0.toInt < y2.toInt := (tlt c10); omega) (fun c10 => ?_)
    refine lv_aload_n hx hb dX3_countSlots_35 rfl (lv_at hl 1 rfl) ?_
    refine va_get (D := (dC, dI)) (ci := 3) (v := .ref os) (C := RX3) (T := TX3) (N := 6) hx hb hts hin3 hown hK hP 0 rfl rfl 5 (by decide) hw0 (fun _ h9 => h9) rfl dX3_countSlots_36 ?_
    refine lv_aload_n hx hb dX3_countSlots_39 rfl (lv_at hl 1 rfl) ?_
    refine va_get (D := (dC, dI)) (ci := 3) (v := .ref k) (C := RX3) (T := TX3) (N := 6) hx hb hts hin3 hown hK hP 0 rfl rfl 0 (by decide) hw1 (fun _ h9 => h9) rfl dX3_countSlots_40 ?_
    refine lv_iload_n hx hb dX3_countSlots_43 rfl (lv_at hl 0 rfl) ?_
    refine lv_iconst (v := 0) hx hb dX3_countSlots_44 (by decide) ?_
    refine mx_i (wr := [(o, .inr (3, [.ref k, .ref op, .int oto, .ref oq, .ref ov, .ref os])), (os, .inl (cI, 5, .inl yfs))]) (va_runV (As := [.int y2, .int 0]) (rest := [.ref os]) ⟨hx, hb, hml, hown, hts⟩ (c_X0_windOn l dC dI cI cZ cK tS aK aV k y2 0 ks kw kc kwd kbg kme kq km kd ksi ka kk kfs kfw H.size (by have z8 : (0 : Int32).toInt = 0 := rfl; first | omega | decide | assumption | trivial) h_kfw (by have z8 : (0 : Int32).toInt = 0 := rfl; first | omega | decide | assumption | trivial) (by have z8 : (0 : Int32).toInt = 0 := rfl; first | omega | decide | assumption | trivial)) (cwV 2 hts (gw_v (fun _ h9 => List.mem_cons_of_mem _ h9) wm_627 wm_384 wm_385 wm_14 wm_386) rfl rfl rfl (by decide +kernel) ⟨Nat.le_of_ble_eq_true rfl, Nat.le_of_ble_eq_true rfl⟩) (mx_preV (C := RX0) (T := TX0) (N := 12) (ci := 0) hKx hP hD hS hA [2, 3, 4] (by decide) rfl rfl rfl) rfl rfl hl.1 rfl (lv_room (Nat.le_of_ble_eq_true rfl)) dX3_countSlots_45 ⟨Nat.le_of_ble_eq_true rfl, Nat.le_of_ble_eq_true rfl⟩) hP hD hS hA [2, 3, 4] [0, 1] rfl rfl (by decide) (by decide) (fun r11 u11 H locs hq11 hP hD hS => ?_)
    replace hP : va_P (dC, dI) vwCl [(o, .inr (3, [.ref k, .ref op, .int oto, .ref oq, .ref ov, .ref os])), (os, .inl (cI, 5, .inl yfs)), (k, .inr (0, [.ref ks, .ref kw, .ref kc, .int kwd, .int kbg, .int kme, .ref kq, .ref km, .ref kd, .int ksi, .ref ka, .ref kk])), (ks, .inl (cI, 5, .inl kfs)), (kw, .inl (cI, 14, .inl kfw))] H := hP
    replace hD : va_D A [(o, .inr (3, [.ref k, .ref op, .int oto, .ref oq, .ref ov, .ref os])), (os, .inl (cI, 5, .inl yfs)), (k, .inr (0, [.ref ks, .ref kw, .ref kc, .int kwd, .int kbg, .int kme, .ref kq, .ref km, .ref kd, .int ksi, .ref ka, .ref kk])), (ks, .inl (cI, 5, .inl kfs)), (kw, .inl (cI, 14, .inl kfw))] := hD
    obtain ⟨hx11_0, hr11⟩ := hq11
    replace hx11_0 : (0 : Int32).toInt ≠ 0 ∨ r11 = woF (kfs 3) (kfw y2.toNatClampNeg) := hx11_0
    refine lv_dup2_11 hx hb dX3_countSlots_48 rfl rfl ?_
    refine va_iald hx hb hK hP 1 0 rfl rfl (vin (by omega) (by omega)) dX3_countSlots_49 ?_
    refine lv_topi (fun x12 e12 => ?_)
    refine lv_iconst (v := 2) hx hb dX3_countSlots_50 (by decide) ?_
    refine lv_iadd hx hb dX3_countSlots_51 ?_
    refine lv_topi (fun x13 e13 => ?_)
    refine va_iast hx hb hK hP hD hS 1 0 rfl rfl (vin (by omega) (by omega)) dX3_countSlots_52 (fun H locs hP hD hS => ?_)
    replace hP : va_P (dC, dI) vwCl [(o, .inr (3, [.ref k, .ref op, .int oto, .ref oq, .ref ov, .ref os])), (os, .inl (cI, 5, .inl (upd yfs r11.toNatClampNeg x13))), (k, .inr (0, [.ref ks, .ref kw, .ref kc, .int kwd, .int kbg, .int kme, .ref kq, .ref km, .ref kd, .int ksi, .ref ka, .ref kk])), (ks, .inl (cI, 5, .inl kfs)), (kw, .inl (cI, 14, .inl kfw))] H := hP
    replace hD : va_D A [(o, .inr (3, [.ref k, .ref op, .int oto, .ref oq, .ref ov, .ref os])), (os, .inl (cI, 5, .inl (upd yfs r11.toNatClampNeg x13))), (k, .inr (0, [.ref ks, .ref kw, .ref kc, .int kwd, .int kbg, .int kme, .ref kq, .ref km, .ref kd, .int ksi, .ref ka, .ref kk])), (ks, .inl (cI, 5, .inl kfs)), (kw, .inl (cI, 14, .inl kfw))] := hD
    obtain ⟨x14, e14⟩ : ∃ y : Int32, y = y2 + Int32.ofInt 1 := ⟨_, rfl⟩
    refine lv_iinc (v := x14) (lv' := [(2, .int x14), (0, .ref o), (1, .int i0)]) hx hb dX3_countSlots_53 hl (k := 0) rfl e14.symm (by decide) rfl (fun ls hl => ?_)
    have f14 : x14.toInt = y2.toInt + 1 := by rw [e14]; exact tinc (by decide) (by have t8 := tb y2; omega) (by have t8 := tb y2; omega)
    refine lv_goto (tgt := 30) hx hb dX3_countSlots_56 (by decide) ?_
    exact ih (H := H) (locs := locs) (ls := ls) (y2 := x14) (yfs := (upd yfs r11.toNatClampNeg x13)) hS (by omega)  (show lv_has ls 3 [(2, .int x14), (0, .ref o), (1, .int i0)] from lv_sub hl [0, 1, 2] rfl) (mx_subP (wc := [(o, .inr (3, [.ref k, .ref op, .int oto, .ref oq, .ref ov, .ref os])), (os, .inl (cI, 5, .inl (upd yfs r11.toNatClampNeg x13))), (k, .inr (0, [.ref ks, .ref kw, .ref kc, .int kwd, .int kbg, .int kme, .ref kq, .ref km, .ref kd, .int ksi, .ref ka, .ref kk])), (ks, .inl (cI, 5, .inl kfs)), (kw, .inl (cI, 14, .inl kfw))]) hP [0, 1, 2, 3, 4] rfl) (hD.sub (ws' := [(o, .inr (3, [.ref k, .ref op, .int oto, .ref oq, .ref ov, .ref os])), (os, .inl (cI, 5, .inl (upd yfs r11.toNatClampNeg x13))), (k, .inr (0, [.ref ks, .ref kw, .ref kc, .int kwd, .int kbg, .int kme, .ref kq, .ref km, .ref kd, .int ksi, .ref ka, .ref kk])), (ks, .inl (cI, 5, .inl kfs)), (kw, .inl (cI, 14, .inl kfw))]) [0, 1, 2, 3, 4] (by decide) rfl) (by omega)
set_option maxHeartbeats 4000000 in
set_option maxRecDepth 100000 in
theorem c_X3_portionsOf (l : Launch) (dC : Nat → ClassId) (dI : Nat → Nat → Nat) (cI cZ cK : ClassId) (tS : Nat) (aK aV : Nat → Nat) (o : Nat) (i0 : Int32) (k : Nat) (op : Nat) (oto : Int32) (oq : Nat) (ov : Nat) (os : Nat) (ofp : Nat → Int32) (ks : Nat) (kw : Nat) (kc : Nat) (kwd : Int32) (kbg : Int32) (kme : Int32) (kq : Nat) (km : Nat) (kd : Nat) (ksi : Int32) (ka : Nat) (kk : Nat) (kfq : Nat → Int32) (sz : Nat) (h_ofp : rg ofp 6 0 9) : Ci l yX3_portionsOf (wq yX3_portionsOf cX3_portionsOf 4 (some .int)) ({ frames := 0, cells := 0, slots := 0, locals := 0 }) dC dI cI cZ cK tS aK aV [.ref o, .int i0] sz [(o, .inr (3, [.ref k, .ref op, .int oto, .ref oq, .ref ov, .ref os])), (op, .inl (cI, 6, .inl ofp)), (k, .inr (0, [.ref ks, .ref kw, .ref kc, .int kwd, .int kbg, .int kme, .ref kq, .ref km, .ref kd, .int ksi, .ref ka, .ref kk])), (kq, .inl (cI, 6, .inl kfq))] (fun (r : Int32) (u : Unit) => True) (fun _ => [(o, .inr (3, [.ref k, .ref op, .int oto, .ref oq, .ref ov, .ref os])), (op, .inl (cI, 6, .inl ofp)), (k, .inr (0, [.ref ks, .ref kw, .ref kc, .int kwd, .int kbg, .int kme, .ref kq, .ref km, .ref kd, .int ksi, .ref ka, .ref kk])), (kq, .inl (cI, 6, .inl kfq))]) := by
  refine Met.ofW (cc := cX3_portionsOf) (maxL := 4) (ret := (some .int)) (by decide) rfl ?_
  intro p e s m args below meth c s₁ B hml hv
  obtain ⟨rfl, hsz, hP, hKx, hD0⟩ := hv
  have hx := B.exec
  have hb := B.bytes
  have hr := B.returns
  have hts := atoms_spec (ws := wq yX3_portionsOf cX3_portionsOf 4 (some .int)) B.pre
  have hown : s.vm.findClass RX3 = some m.cls := findClass_of_methodNamed B.named
  have hlocks := B.notSynchronized
  subst hsz
  have hD := hD0.self (sz := s.heap.size)
  generalize hAe : va_A [(o, .inr (3, [.ref k, .ref op, .int oto, .ref oq, .ref ov, .ref os])), (op, .inl (cI, 6, .inl ofp)), (k, .inr (0, [.ref ks, .ref kw, .ref kc, .int kwd, .int kbg, .int kme, .ref kq, .ref km, .ref kd, .int ksi, .ref ka, .ref kk])), (kq, .inl (cI, 6, .inl kfq))] s.heap.size = A at hD hKx ⊢
  have hA : ∀ q : Nat, s.heap.size ≤ q → A q := fun q h => by rw [← hAe]; exact Or.inr h
  have hS : va_S A s.heap s.heap [] := va_S.rf
  have hP : va_P (dC, dI) vwCl [(o, .inr (3, [.ref k, .ref op, .int oto, .ref oq, .ref ov, .ref os])), (op, .inl (cI, 6, .inl ofp)), (k, .inr (0, [.ref ks, .ref kw, .ref kc, .int kwd, .int kbg, .int kme, .ref kq, .ref km, .ref kd, .int ksi, .ref ka, .ref kk])), (kq, .inl (cI, 6, .inl kfq))] s.heap := hP
  have hl := lv_entry ([.ref o, .int i0]) (n := 4) (Nat.le_of_ble_eq_true rfl)
  rw [lg_entry_eq]
  generalize (lg_sl ([.ref o, .int i0]) ++ List.replicate (4 - (lg_sl ([.ref o, .int i0])).length) Slot.unset).toArray = ls at hl ⊢
  have hl : lv_has ls 4 [(0, .ref o), (1, .int i0)] := hl
  have hK := hKx.1
  have hin3 := fun w9 h9 => List.mem_cons_of_mem (Cond.code yX3_portionsOf cX3_portionsOf 4 (some .int)) (inlX3 w9 h9)
  have hin0 := fun w9 h9 => List.mem_cons_of_mem (Cond.code yX3_portionsOf cX3_portionsOf 4 (some .int)) (inlX0 w9 h9)
  have hw0 := hts (.fieldLink RX3 24 "OneCan$Order" "camp" "LOneCan$Camp;") (List.mem_cons_of_mem _ wm_82)
  have hw1 := hts (.fieldLink RX3 49 "OneCan$Camp" "quarts" "[I") (List.mem_cons_of_mem _ wm_597)
  have hw2 := hts (.fieldLink RX3 9 "OneCan$Order" "portions" "[I") (List.mem_cons_of_mem _ wm_78)
  refine lv_iconst (v := 0) hx hb dX3_portionsOf_0 (by decide) ?_
  refine lv_istore_n (lv' := [(2, .int 0), (0, .ref o), (1, .int i0)]) hx hb dX3_portionsOf_1 rfl hl (by decide) rfl (fun ls hl => ?_)
  refine lv_iconst (v := 0) hx hb dX3_portionsOf_2 (by decide) ?_
  refine lv_istore_n (lv' := [(3, .int 0), (2, .int 0), (0, .ref o), (1, .int i0)]) hx hb dX3_portionsOf_3 rfl hl (by decide) rfl (fun ls hl => ?_)
  have z2 : (0 : Int32).toInt = 0 := rfl
  have z3 : (0 : Int32).toInt = 0 := rfl
  have hl0 := hl
  clear hl
  obtain ⟨y2, y3, ex, hl⟩ : ∃ (y2 y3 : Int32), (0 ≤ y3.toInt ∧ y3.toInt ≤ 6) ∧ lv_has ls 4 [(3, .int y3), (2, .int y2), (0, .ref o), (1, .int i0)] := ⟨0, 0, by omega, hl0⟩
  clear hl0
  obtain ⟨n1, hn⟩ : ∃ n : Nat, (n : Int) = 6 - y3.toInt := ⟨(6 - y3.toInt).toNat, by omega⟩
  induction n1 generalizing y2 y3 ls with
  | zero =>
    skip
    refine lv_iload_n hx hb dX3_portionsOf_4 rfl (lv_at hl 0 rfl) ?_
    refine lv_bipush (v := 6) hx hb dX3_portionsOf_5 (by decide) ?_
    refine lv_icmp_ge (tgt := 38) hx hb dX3_portionsOf_7 (by decide) (fun c4 => ?_) (fun c4 => by exfalso; have t4 : y3.toInt < (6 : Int) := (tnle c4); omega)
    refine lv_iload_n hx hb dX3_portionsOf_38 rfl (lv_at hl 1 rfl) ?_
    have hP9 := mx_subP (wc := [(o, .inr (3, [.ref k, .ref op, .int oto, .ref oq, .ref ov, .ref os])), (op, .inl (cI, 6, .inl ofp)), (k, .inr (0, [.ref ks, .ref kw, .ref kc, .int kwd, .int kbg, .int kme, .ref kq, .ref km, .ref kd, .int ksi, .ref ka, .ref kk])), (kq, .inl (cI, 6, .inl kfq))]) hP [0, 1, 2, 3] rfl
    have hD9 := hD.sub (ws' := [(o, .inr (3, [.ref k, .ref op, .int oto, .ref oq, .ref ov, .ref os])), (op, .inl (cI, 6, .inl ofp)), (k, .inr (0, [.ref ks, .ref kw, .ref kc, .int kwd, .int kbg, .int kme, .ref kq, .ref km, .ref kd, .int ksi, .ref ka, .ref kk])), (kq, .inl (cI, 6, .inl kfq))]) [0, 1, 2, 3] (by decide) rfl
    exact W.iret (v := y2) hx hb hr (fun t ht hW => ⟨⟨y2, (), rfl, trivial, by rw [ht]; exact hP9, hD9⟩, hS.F ht⟩) hS.2.2 dX3_portionsOf_39
  | succ n1 ih =>
    skip
    refine lv_iload_n hx hb dX3_portionsOf_4 rfl (lv_at hl 0 rfl) ?_
    refine lv_bipush (v := 6) hx hb dX3_portionsOf_5 (by decide) ?_
    refine lv_icmp_ge (tgt := 38) hx hb dX3_portionsOf_7 (by decide) (fun c5 => by exfalso; have t5 : (6 : Int) ≤ y3.toInt := (tle c5); omega) (fun c5 => ?_)
    refine lv_aload_n hx hb dX3_portionsOf_10 rfl (lv_at hl 2 rfl) ?_
    refine va_get (D := (dC, dI)) (ci := 3) (v := .ref k) (C := RX3) (T := TX3) (N := 6) hx hb hts hin3 hown hK hP 0 rfl rfl 0 (by decide) hw0 (fun _ h9 => h9) rfl dX3_portionsOf_11 ?_
    refine va_get (D := (dC, dI)) (ci := 0) (v := .ref kq) (C := RX0) (T := TX0) (N := 12) hx hb hts hin0 hown hK hP 2 rfl rfl 6 (by decide) hw1 (fun _ h9 => h9) rfl dX3_portionsOf_14 ?_
    refine lv_iload_n hx hb dX3_portionsOf_17 rfl (lv_at hl 0 rfl) ?_
    refine va_iald hx hb hK hP 3 0 rfl rfl (vin (by omega) (by omega)) dX3_portionsOf_18 ?_
    refine lv_topi (fun x6 e6 => ?_)
    refine lv_iload_n hx hb dX3_portionsOf_19 rfl (lv_at hl 3 rfl) ?_
    refine lv_icmp_ne (tgt := 32) hx hb dX3_portionsOf_20 (by decide) (fun c7 => ?_) (fun c7 => ?_)
    · have t7 : x6.toInt ≠ i0.toInt := (tne c7)
      obtain ⟨x8, e8⟩ : ∃ y : Int32, y = y3 + Int32.ofInt 1 := ⟨_, rfl⟩
      refine lv_iinc (v := x8) (lv' := [(3, .int x8), (2, .int y2), (0, .ref o), (1, .int i0)]) hx hb dX3_portionsOf_32 hl (k := 0) rfl e8.symm (by decide) rfl (fun ls hl => ?_)
      have f8 : x8.toInt = y3.toInt + 1 := by rw [e8]; exact tinc (by decide) (by have t8 := tb y3; omega) (by have t8 := tb y3; omega)
      refine lv_goto (tgt := 4) hx hb dX3_portionsOf_35 (by decide) ?_
      exact ih (ls := ls) (y2 := y2) (y3 := x8) (by omega) (show lv_has ls 4 [(3, .int x8), (2, .int y2), (0, .ref o), (1, .int i0)] from lv_sub hl [0, 1, 2, 3] rfl) (by omega)
    · have t7 : x6.toInt = i0.toInt := (teq c7)
      refine lv_iload_n hx hb dX3_portionsOf_23 rfl (lv_at hl 1 rfl) ?_
      refine lv_aload_n hx hb dX3_portionsOf_24 rfl (lv_at hl 2 rfl) ?_
      refine va_get (D := (dC, dI)) (ci := 3) (v := .ref op) (C := RX3) (T := TX3) (N := 6) hx hb hts hin3 hown hK hP 0 rfl rfl 1 (by decide) hw2 (fun _ h9 => h9) rfl dX3_portionsOf_25 ?_
      refine lv_iload_n hx hb dX3_portionsOf_28 rfl (lv_at hl 0 rfl) ?_
      refine va_iald hx hb hK hP 1 0 rfl rfl (vin (by omega) (by omega)) dX3_portionsOf_29 ?_
      refine lv_topi (fun x9 e9 => ?_)
      have g9 : 0 ≤ x9.toInt ∧ x9.toInt ≤ 9 := by rw [e9]; exact rgI h_ofp (by omega) (by omega)
      refine lv_iadd hx hb dX3_portionsOf_30 ?_
      refine lv_topi (fun x10 e10 => ?_)
      refine lv_istore_n (lv' := [(2, .int x10), (3, .int y3), (0, .ref o), (1, .int i0)]) hx hb dX3_portionsOf_31 rfl hl (by decide) rfl (fun ls hl => ?_)
      obtain ⟨x11, e11⟩ : ∃ y : Int32, y = y3 + Int32.ofInt 1 := ⟨_, rfl⟩
      refine lv_iinc (v := x11) (lv' := [(3, .int x11), (2, .int x10), (0, .ref o), (1, .int i0)]) hx hb dX3_portionsOf_32 hl (k := 1) rfl e11.symm (by decide) rfl (fun ls hl => ?_)
      have f11 : x11.toInt = y3.toInt + 1 := by rw [e11]; exact tinc (by decide) (by have t8 := tb y3; omega) (by have t8 := tb y3; omega)
      refine lv_goto (tgt := 4) hx hb dX3_portionsOf_35 (by decide) ?_
      exact ih (ls := ls) (y2 := x10) (y3 := x11) (by omega) (show lv_has ls 4 [(3, .int x11), (2, .int x10), (0, .ref o), (1, .int i0)] from lv_sub hl [0, 1, 2, 3] rfl) (by omega)
