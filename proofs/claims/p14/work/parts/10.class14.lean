set_option maxHeartbeats 4000000 in
set_option maxRecDepth 100000 in
theorem c_X5_boundBySights (l : Launch) (dC : Nat → ClassId) (dI : Nat → Nat → Nat) (cI cZ cK : ClassId) (tS : Nat) (aK aV : Nat → Nat) (f : Nat) (k : Nat) (d : Nat) (j : Nat) (fl : Nat) (fh : Nat) (ff : Nat) (fa : Nat) (fm : Nat) (fct : Int32) (frb : Int32) (fsl : Int32) (ffl : Nat → Int32) (ffh : Nat → Int32) (ds : Nat) (dsz : Int32) (dk : Nat) (dw : Nat) (dac : Int32) (dwr : Int32) (ks : Nat) (kw : Nat) (kc : Nat) (kwd : Int32) (kbg : Int32) (kme : Int32) (kq : Nat) (km : Nat) (kd : Nat) (ksi : Int32) (ka : Nat) (kk : Nat) (kfa : Nat → Int32) (kfk : Nat → Int32) (sz : Nat) (h_kfa : rg kfa 8 0 60) (h_dac : 0 ≤ dac.toInt ∧ dac.toInt ≤ 60) (h_ksi : 0 ≤ ksi.toInt ∧ ksi.toInt ≤ 8) : Ci l yX5_boundBySights (wq yX5_boundBySights cX5_boundBySights 4 (some .boolean)) ({ frames := 1, cells := 0, slots := 0, locals := 21 }) dC dI cI cZ cK tS aK aV [.ref f] sz [(f, .inr (5, [.ref k, .ref d, .ref j, .ref fl, .ref fh, .ref ff, .ref fa, .ref fm, .int fct, .int frb, .int fsl])), (fl, .inl (cI, 61, .inl ffl)), (fh, .inl (cI, 61, .inl ffh)), (d, .inr (4, [.ref ds, .int dsz, .ref dk, .ref dw, .int dac, .int dwr])), (k, .inr (0, [.ref ks, .ref kw, .ref kc, .int kwd, .int kbg, .int kme, .ref kq, .ref km, .ref kd, .int ksi, .ref ka, .ref kk])), (ka, .inl (cI, 8, .inl kfa)), (kk, .inl (cI, 8, .inl kfk))] (fun (r : Int32) (u : (Nat → Nat → Int32) × (Nat → Int32) × (Nat → Int64)) => True) (fun u => [(f, .inr (5, [.ref k, .ref d, .ref j, .ref fl, .ref fh, .ref ff, .ref fa, .ref fm, .int fct, .int frb, .int fsl])), (fl, .inl (cI, 61, .inl (u.1 1))), (fh, .inl (cI, 61, .inl (u.1 0))), (d, .inr (4, [.ref ds, .int dsz, .ref dk, .ref dw, .int dac, .int dwr])), (k, .inr (0, [.ref ks, .ref kw, .ref kc, .int kwd, .int kbg, .int kme, .ref kq, .ref km, .ref kd, .int ksi, .ref ka, .ref kk])), (ka, .inl (cI, 8, .inl kfa)), (kk, .inl (cI, 8, .inl kfk))]) := by
  refine Met.ofW (cc := cX5_boundBySights) (maxL := 4) (ret := (some .boolean)) (by decide) rfl ?_
  intro p e s m args below meth c s₁ B hml hv
  obtain ⟨rfl, hsz, hP, hKx, hD0⟩ := hv
  have hx := B.exec
  have hb := B.bytes
  have hr := B.returns
  have hts := atoms_spec (ws := wq yX5_boundBySights cX5_boundBySights 4 (some .boolean)) B.pre
  have hown : s.vm.findClass RX5 = some m.cls := findClass_of_methodNamed B.named
  have hlocks := B.notSynchronized
  subst hsz
  have hD := hD0.self (sz := s.heap.size)
  generalize hAe : va_A [(f, .inr (5, [.ref k, .ref d, .ref j, .ref fl, .ref fh, .ref ff, .ref fa, .ref fm, .int fct, .int frb, .int fsl])), (fl, .inl (cI, 61, .inl ffl)), (fh, .inl (cI, 61, .inl ffh)), (d, .inr (4, [.ref ds, .int dsz, .ref dk, .ref dw, .int dac, .int dwr])), (k, .inr (0, [.ref ks, .ref kw, .ref kc, .int kwd, .int kbg, .int kme, .ref kq, .ref km, .ref kd, .int ksi, .ref ka, .ref kk])), (ka, .inl (cI, 8, .inl kfa)), (kk, .inl (cI, 8, .inl kfk))] s.heap.size = A at hD hKx ⊢
  have hA : ∀ q : Nat, s.heap.size ≤ q → A q := fun q h => by rw [← hAe]; exact Or.inr h
  have hS : va_S A s.heap s.heap [] := va_S.rf
  have hP : va_P (dC, dI) vwCl [(f, .inr (5, [.ref k, .ref d, .ref j, .ref fl, .ref fh, .ref ff, .ref fa, .ref fm, .int fct, .int frb, .int fsl])), (fl, .inl (cI, 61, .inl ffl)), (fh, .inl (cI, 61, .inl ffh)), (d, .inr (4, [.ref ds, .int dsz, .ref dk, .ref dw, .int dac, .int dwr])), (k, .inr (0, [.ref ks, .ref kw, .ref kc, .int kwd, .int kbg, .int kme, .ref kq, .ref km, .ref kd, .int ksi, .ref ka, .ref kk])), (ka, .inl (cI, 8, .inl kfa)), (kk, .inl (cI, 8, .inl kfk))] s.heap := hP
  have hl := lv_entry ([.ref f]) (n := 4) (Nat.le_of_ble_eq_true rfl)
  rw [lg_entry_eq]
  generalize (lg_sl ([.ref f]) ++ List.replicate (4 - (lg_sl ([.ref f])).length) Slot.unset).toArray = ls at hl ⊢
  have hl : lv_has ls 4 [(0, .ref f)] := hl
  have hK := hKx.1
  have hin5 := fun w9 h9 => List.mem_cons_of_mem (Cond.code yX5_boundBySights cX5_boundBySights 4 (some .boolean)) (inlX5 w9 h9)
  have hin4 := fun w9 h9 => List.mem_cons_of_mem (Cond.code yX5_boundBySights cX5_boundBySights 4 (some .boolean)) (inlX4 w9 h9)
  have hin0 := fun w9 h9 => List.mem_cons_of_mem (Cond.code yX5_boundBySights cX5_boundBySights 4 (some .boolean)) (inlX0 w9 h9)
  have hw0 := hts (.fieldLink RX5 31 "OneCan$Search" "pad" "LOneCan$Pad;") (List.mem_cons_of_mem _ wm_93)
  have hw1 := hts (.fieldLink RX5 54 "OneCan$Pad" "acts" "I") (List.mem_cons_of_mem _ wm_738)
  have hw2 := hts (.fieldLink RX5 27 "OneCan$Search" "camp" "LOneCan$Camp;") (List.mem_cons_of_mem _ wm_92)
  have hw3 := hts (.fieldLink RX5 89 "OneCan$Camp" "sights" "I") (List.mem_cons_of_mem _ wm_746)
  have hw4 := hts (.fieldLink RX5 94 "OneCan$Camp" "sightActs" "[I") (List.mem_cons_of_mem _ wm_747)
  have hw5 := hts (.fieldLink RX5 9 "OneCan$Search" "low" "[I") (List.mem_cons_of_mem _ wm_87)
  have hw6 := hts (.fieldLink RX5 97 "OneCan$Camp" "sightMarks" "[I") (List.mem_cons_of_mem _ wm_748)
  have hw7 := hts (.methodLink RX5 70 Lib.Math.max.name) (List.mem_cons_of_mem _ wm_740)
  have hw8 := hts (.static Lib.Math.max.name) (List.mem_cons_of_mem _ wm_271)
  have hw9 := hts (.initialized "java/lang/Math") (List.mem_cons_of_mem _ wm_272)
  have hw10 := hts (.code Lib.Math.max.name Lib.Math.max.code 2 (some .int)) (List.mem_cons_of_mem _ wm_273)
  have hw11 := hts (.fieldLink RX5 15 "OneCan$Search" "high" "[I") (List.mem_cons_of_mem _ wm_88)
  have hw12 := hts (.methodLink RX5 73 Lib.Math.min.name) (List.mem_cons_of_mem _ wm_741)
  have hw13 := hts (.static Lib.Math.min.name) (List.mem_cons_of_mem _ wm_275)
  have hw14 := hts (.code Lib.Math.min.name Lib.Math.min.code 2 (some .int)) (List.mem_cons_of_mem _ wm_276)
  refine lv_iconst (v := 0) hx hb dX5_boundBySights_0 (by decide) ?_
  refine lv_istore_n (lv' := [(1, .int 0), (0, .ref f)]) hx hb dX5_boundBySights_1 rfl hl (by decide) rfl (fun ls hl => ?_)
  have z2 : (0 : Int32).toInt = 0 := rfl
  have hl0 := hl
  clear hl
  obtain ⟨H, hHe⟩ : ∃ H : Heap, H = s.heap := ⟨_, rfl⟩
  obtain ⟨locs, hlo⟩ : ∃ l : List Loc, l = [] := ⟨_, rfl⟩
  replace hP : va_P (dC, dI) vwCl [(f, .inr (5, [.ref k, .ref d, .ref j, .ref fl, .ref fh, .ref ff, .ref fa, .ref fm, .int fct, .int frb, .int fsl])), (fl, .inl (cI, 61, .inl ffl)), (fh, .inl (cI, 61, .inl ffh)), (d, .inr (4, [.ref ds, .int dsz, .ref dk, .ref dw, .int dac, .int dwr])), (k, .inr (0, [.ref ks, .ref kw, .ref kc, .int kwd, .int kbg, .int kme, .ref kq, .ref km, .ref kd, .int ksi, .ref ka, .ref kk])), (ka, .inl (cI, 8, .inl kfa)), (kk, .inl (cI, 8, .inl kfk))] H := by rw [hHe]; exact hP
  replace hS : va_S A s.heap H locs := by rw [hHe, hlo]; exact hS
  rw [← hHe, ← hlo]
  clear hHe hlo
  have hP0 := hP
  clear hP
  have hD0 := hD
  clear hD
  obtain ⟨y1, yfl, yfh, ex, hl, hP, hD⟩ : ∃ (y1 : Int32) (yfl yfh : Nat → Int32), (0 ≤ y1.toInt ∧ y1.toInt ≤ dac.toInt + 1) ∧ lv_has ls 4 [(1, .int y1), (0, .ref f)] ∧ va_P (dC, dI) vwCl [(f, .inr (5, [.ref k, .ref d, .ref j, .ref fl, .ref fh, .ref ff, .ref fa, .ref fm, .int fct, .int frb, .int fsl])), (fl, .inl (cI, 61, .inl yfl)), (fh, .inl (cI, 61, .inl yfh)), (d, .inr (4, [.ref ds, .int dsz, .ref dk, .ref dw, .int dac, .int dwr])), (k, .inr (0, [.ref ks, .ref kw, .ref kc, .int kwd, .int kbg, .int kme, .ref kq, .ref km, .ref kd, .int ksi, .ref ka, .ref kk])), (ka, .inl (cI, 8, .inl kfa)), (kk, .inl (cI, 8, .inl kfk))] H ∧ va_D A [(f, .inr (5, [.ref k, .ref d, .ref j, .ref fl, .ref fh, .ref ff, .ref fa, .ref fm, .int fct, .int frb, .int fsl])), (fl, .inl (cI, 61, .inl yfl)), (fh, .inl (cI, 61, .inl yfh)), (d, .inr (4, [.ref ds, .int dsz, .ref dk, .ref dw, .int dac, .int dwr])), (k, .inr (0, [.ref ks, .ref kw, .ref kc, .int kwd, .int kbg, .int kme, .ref kq, .ref km, .ref kd, .int ksi, .ref ka, .ref kk])), (ka, .inl (cI, 8, .inl kfa)), (kk, .inl (cI, 8, .inl kfk))] := ⟨0, ffl, ffh, by omega, hl0, hP0, hD0⟩
  clear hl0 hP0 hD0
  obtain ⟨n1, hn⟩ : ∃ n : Nat, (n : Int) = dac.toInt + 1 - y1.toInt := ⟨(dac.toInt + 1 - y1.toInt).toNat, by omega⟩
  induction n1 generalizing y1 yfl yfh ls H locs with
  | zero =>
    skip
    refine lv_iload_n hx hb dX5_boundBySights_2 rfl (lv_at hl 0 rfl) ?_
    refine lv_aload_n hx hb dX5_boundBySights_3 rfl (lv_at hl 1 rfl) ?_
    refine va_get (D := (dC, dI)) (ci := 5) (v := .ref d) (C := RX5) (T := TX5) (N := 11) hx hb hts hin5 hown hK hP 0 rfl rfl 1 (by decide) hw0 (fun _ h9 => h9) rfl dX5_boundBySights_4 ?_
    refine va_get (D := (dC, dI)) (ci := 4) (v := .int dac) (C := RX4) (T := TX4) (N := 6) hx hb hts hin4 hown hK hP 3 rfl rfl 4 (by decide) hw1 (fun _ h9 => h9) rfl dX5_boundBySights_7 ?_
    refine lv_icmp_gt (tgt := 35) hx hb dX5_boundBySights_10 (by decide) (fun c3 => ?_) (fun c3 => by exfalso; have t3 : y1.toInt ≤ dac.toInt := (tnlt c3); omega)
    refine lv_iconst (v := 1) hx hb dX5_boundBySights_35 (by decide) ?_
    refine lv_istore_n (lv' := [(1, .int 1), (0, .ref f)]) hx hb dX5_boundBySights_36 rfl hl (by decide) rfl (fun ls hl => ?_)
    refine lv_iconst (v := 0) hx hb dX5_boundBySights_37 (by decide) ?_
    refine lv_istore_n (lv' := [(2, .int 0), (1, .int 1), (0, .ref f)]) hx hb dX5_boundBySights_38 rfl hl (by decide) rfl (fun ls hl => ?_)
    have z5 : (1 : Int32).toInt = 1 := rfl
    have z6 : (0 : Int32).toInt = 0 := rfl
    have hl0 := hl
    clear hl
    have hP0 := hP
    clear hP
    have hD0 := hD
    clear hD
    obtain ⟨z1, z2, zfl, zfh, ex, hl, hP, hD⟩ : ∃ (z1 z2 : Int32) (zfl zfh : Nat → Int32), (0 ≤ z2.toInt ∧ z2.toInt ≤ ksi.toInt ∧ (z1.toInt = 0 ∨ z1.toInt = 1)) ∧ lv_has ls 4 [(2, .int z2), (1, .int z1), (0, .ref f)] ∧ va_P (dC, dI) vwCl [(f, .inr (5, [.ref k, .ref d, .ref j, .ref fl, .ref fh, .ref ff, .ref fa, .ref fm, .int fct, .int frb, .int fsl])), (fl, .inl (cI, 61, .inl zfl)), (fh, .inl (cI, 61, .inl zfh)), (d, .inr (4, [.ref ds, .int dsz, .ref dk, .ref dw, .int dac, .int dwr])), (k, .inr (0, [.ref ks, .ref kw, .ref kc, .int kwd, .int kbg, .int kme, .ref kq, .ref km, .ref kd, .int ksi, .ref ka, .ref kk])), (ka, .inl (cI, 8, .inl kfa)), (kk, .inl (cI, 8, .inl kfk))] H ∧ va_D A [(f, .inr (5, [.ref k, .ref d, .ref j, .ref fl, .ref fh, .ref ff, .ref fa, .ref fm, .int fct, .int frb, .int fsl])), (fl, .inl (cI, 61, .inl zfl)), (fh, .inl (cI, 61, .inl zfh)), (d, .inr (4, [.ref ds, .int dsz, .ref dk, .ref dw, .int dac, .int dwr])), (k, .inr (0, [.ref ks, .ref kw, .ref kc, .int kwd, .int kbg, .int kme, .ref kq, .ref km, .ref kd, .int ksi, .ref ka, .ref kk])), (ka, .inl (cI, 8, .inl kfa)), (kk, .inl (cI, 8, .inl kfk))] := ⟨1, 0, yfl, yfh, by omega, hl0, hP0, hD0⟩
    clear hl0 hP0 hD0
    obtain ⟨n4, hn⟩ : ∃ n : Nat, (n : Int) = ksi.toInt - z2.toInt := ⟨(ksi.toInt - z2.toInt).toNat, by omega⟩
    induction n4 generalizing z1 z2 zfl zfh ls H locs with
    | zero =>
      skip
      refine lv_iload_n hx hb dX5_boundBySights_39 rfl (lv_at hl 0 rfl) ?_
      refine lv_aload_n hx hb dX5_boundBySights_40 rfl (lv_at hl 2 rfl) ?_
      refine va_get (D := (dC, dI)) (ci := 5) (v := .ref k) (C := RX5) (T := TX5) (N := 11) hx hb hts hin5 hown hK hP 0 rfl rfl 0 (by decide) hw2 (fun _ h9 => h9) rfl dX5_boundBySights_41 ?_
      refine va_get (D := (dC, dI)) (ci := 0) (v := .int ksi) (C := RX0) (T := TX0) (N := 12) hx hb hts hin0 hown hK hP 4 rfl rfl 9 (by decide) hw3 (fun _ h9 => h9) rfl dX5_boundBySights_44 ?_
      refine lv_icmp_ge (tgt := 144) hx hb dX5_boundBySights_47 (by decide) (fun c7 => ?_) (fun c7 => by exfalso; have t7 : z2.toInt < ksi.toInt := (tnle c7); omega)
      refine lv_iload_n hx hb dX5_boundBySights_144 rfl (lv_at hl 1 rfl) ?_
      have hP9 := mx_subP (wc := [(f, .inr (5, [.ref k, .ref d, .ref j, .ref fl, .ref fh, .ref ff, .ref fa, .ref fm, .int fct, .int frb, .int fsl])), (fl, .inl (cI, 61, .inl zfl)), (fh, .inl (cI, 61, .inl zfh)), (d, .inr (4, [.ref ds, .int dsz, .ref dk, .ref dw, .int dac, .int dwr])), (k, .inr (0, [.ref ks, .ref kw, .ref kc, .int kwd, .int kbg, .int kme, .ref kq, .ref km, .ref kd, .int ksi, .ref ka, .ref kk])), (ka, .inl (cI, 8, .inl kfa)), (kk, .inl (cI, 8, .inl kfk))]) hP [0, 1, 2, 3, 4, 5, 6] rfl
      have hD9 := hD.sub (ws' := [(f, .inr (5, [.ref k, .ref d, .ref j, .ref fl, .ref fh, .ref ff, .ref fa, .ref fm, .int fct, .int frb, .int fsl])), (fl, .inl (cI, 61, .inl zfl)), (fh, .inl (cI, 61, .inl zfh)), (d, .inr (4, [.ref ds, .int dsz, .ref dk, .ref dw, .int dac, .int dwr])), (k, .inr (0, [.ref ks, .ref kw, .ref kc, .int kwd, .int kbg, .int kme, .ref kq, .ref km, .ref kd, .int ksi, .ref ka, .ref kk])), (ka, .inl (cI, 8, .inl kfa)), (kk, .inl (cI, 8, .inl kfk))]) [0, 1, 2, 3, 4, 5, 6] (by decide) rfl
      exact W.zret (v := z1) hx hb hr (nar_z (by omega)) (fun t ht hW => ⟨⟨z1, ((fun u9 => ([zfh, zfl] : List (Nat → Int32)).getD u9 (fun _ => 0)), (fun u9 => ([] : List Int32).getD u9 0), (fun u9 => ([] : List Int64).getD u9 0)), rfl, trivial, by rw [ht]; exact hP9, hD9⟩, hS.F ht⟩) hS.2.2 dX5_boundBySights_145
    | succ n4 ih =>
      skip
      refine lv_iload_n hx hb dX5_boundBySights_39 rfl (lv_at hl 0 rfl) ?_
      refine lv_aload_n hx hb dX5_boundBySights_40 rfl (lv_at hl 2 rfl) ?_
      refine va_get (D := (dC, dI)) (ci := 5) (v := .ref k) (C := RX5) (T := TX5) (N := 11) hx hb hts hin5 hown hK hP 0 rfl rfl 0 (by decide) hw2 (fun _ h9 => h9) rfl dX5_boundBySights_41 ?_
      refine va_get (D := (dC, dI)) (ci := 0) (v := .int ksi) (C := RX0) (T := TX0) (N := 12) hx hb hts hin0 hown hK hP 4 rfl rfl 9 (by decide) hw3 (fun _ h9 => h9) rfl dX5_boundBySights_44 ?_
      refine lv_icmp_ge (tgt := 144) hx hb dX5_boundBySights_47 (by decide) (fun c8 => by exfalso; have t8 : ksi.toInt ≤ z2.toInt := (tle c8); omega) (fun c8 => ?_)
      refine lv_aload_n hx hb dX5_boundBySights_50 rfl (lv_at hl 2 rfl) ?_
      refine va_get (D := (dC, dI)) (ci := 5) (v := .ref k) (C := RX5) (T := TX5) (N := 11) hx hb hts hin5 hown hK hP 0 rfl rfl 0 (by decide) hw2 (fun _ h9 => h9) rfl dX5_boundBySights_51 ?_
      refine va_get (D := (dC, dI)) (ci := 0) (v := .ref ka) (C := RX0) (T := TX0) (N := 12) hx hb hts hin0 hown hK hP 4 rfl rfl 10 (by decide) hw4 (fun _ h9 => h9) rfl dX5_boundBySights_54 ?_
      refine lv_iload_n hx hb dX5_boundBySights_57 rfl (lv_at hl 0 rfl) ?_
      refine va_iald hx hb hK hP 5 0 rfl rfl (vin (by omega) (by omega)) dX5_boundBySights_58 ?_
      refine lv_topi (fun x9 e9 => ?_)
      have g9 : 0 ≤ x9.toInt ∧ x9.toInt ≤ 60 := by rw [e9]; exact rgI h_kfa (by omega) (by omega)
      refine lv_istore_n (lv' := [(3, .int x9), (2, .int z2), (1, .int z1), (0, .ref f)]) hx hb dX5_boundBySights_59 rfl hl (by decide) rfl (fun ls hl => ?_)
      refine lv_iload_n hx hb dX5_boundBySights_60 rfl (lv_at hl 0 rfl) ?_
      refine lv_aload_n hx hb dX5_boundBySights_61 rfl (lv_at hl 3 rfl) ?_
      refine va_get (D := (dC, dI)) (ci := 5) (v := .ref d) (C := RX5) (T := TX5) (N := 11) hx hb hts hin5 hown hK hP 0 rfl rfl 1 (by decide) hw0 (fun _ h9 => h9) rfl dX5_boundBySights_62 ?_
      refine va_get (D := (dC, dI)) (ci := 4) (v := .int dac) (C := RX4) (T := TX4) (N := 6) hx hb hts hin4 hown hK hP 3 rfl rfl 4 (by decide) hw1 (fun _ h9 => h9) rfl dX5_boundBySights_65 ?_
      refine lv_icmp_le (tgt := 76) hx hb dX5_boundBySights_68 (by decide) (fun c10 => ?_) (fun c10 => ?_)
      · have t10 : x9.toInt ≤ dac.toInt := (tle c10)
        refine lv_aload_n hx hb dX5_boundBySights_76 rfl (lv_at hl 3 rfl) ?_
        refine va_get (D := (dC, dI)) (ci := 5) (v := .ref fl) (C := RX5) (T := TX5) (N := 11) hx hb hts hin5 hown hK hP 0 rfl rfl 3 (by decide) hw5 (fun _ h9 => h9) rfl dX5_boundBySights_77 ?_
        refine lv_iload_n hx hb dX5_boundBySights_80 rfl (lv_at hl 0 rfl) ?_
        refine lv_aload_n hx hb dX5_boundBySights_81 rfl (lv_at hl 3 rfl) ?_
        refine va_get (D := (dC, dI)) (ci := 5) (v := .ref fl) (C := RX5) (T := TX5) (N := 11) hx hb hts hin5 hown hK hP 0 rfl rfl 3 (by decide) hw5 (fun _ h9 => h9) rfl dX5_boundBySights_82 ?_
        refine lv_iload_n hx hb dX5_boundBySights_85 rfl (lv_at hl 0 rfl) ?_
        refine va_iald hx hb hK hP 1 0 rfl rfl (vin (by omega) (by omega)) dX5_boundBySights_86 ?_
        refine lv_topi (fun x11 e11 => ?_)
        refine lv_aload_n hx hb dX5_boundBySights_87 rfl (lv_at hl 3 rfl) ?_
        refine va_get (D := (dC, dI)) (ci := 5) (v := .ref k) (C := RX5) (T := TX5) (N := 11) hx hb hts hin5 hown hK hP 0 rfl rfl 0 (by decide) hw2 (fun _ h9 => h9) rfl dX5_boundBySights_88 ?_
        refine va_get (D := (dC, dI)) (ci := 0) (v := .ref kk) (C := RX0) (T := TX0) (N := 12) hx hb hts hin0 hown hK hP 4 rfl rfl 11 (by decide) hw6 (fun _ h9 => h9) rfl dX5_boundBySights_91 ?_
        refine lv_iload_n hx hb dX5_boundBySights_94 rfl (lv_at hl 1 rfl) ?_
        refine va_iald hx hb hK hP 6 0 rfl rfl (vin (by omega) (by omega)) dX5_boundBySights_95 ?_
        refine lv_topi (fun x12 e12 => ?_)
        refine lv_sipush (v := 200) hx hb dX5_boundBySights_96 (by decide) ?_
        refine lv_imul hx hb dX5_boundBySights_99 ?_
        refine lv_topi (fun x13 e13 => ?_)
        refine va_mmax hx hb (hml.trans hl.1.symm) hown hw7 hw8 hw9 hw10 (Nat.le_of_ble_eq_true rfl) (Nat.le_of_ble_eq_true rfl) (Nat.le_of_ble_eq_true rfl) (Nat.le_of_ble_eq_true rfl) dX5_boundBySights_100 ?_
        refine lv_topi (fun x14 e14 => ?_)
        have f14 : x14.toInt ≥ x11.toInt ∧ x14.toInt ≥ x13.toInt ∧ (x14.toInt = x11.toInt ∨ x14.toInt = x13.toInt) := by rw [e14]; exact mmmax_t
        refine va_iast hx hb hK hP hD hS 1 0 rfl rfl (vin (by omega) (by omega)) dX5_boundBySights_103 (fun H locs hP hD hS => ?_)
        replace hP : va_P (dC, dI) vwCl [(f, .inr (5, [.ref k, .ref d, .ref j, .ref fl, .ref fh, .ref ff, .ref fa, .ref fm, .int fct, .int frb, .int fsl])), (fl, .inl (cI, 61, .inl (upd zfl x9.toNatClampNeg x14))), (fh, .inl (cI, 61, .inl zfh)), (d, .inr (4, [.ref ds, .int dsz, .ref dk, .ref dw, .int dac, .int dwr])), (k, .inr (0, [.ref ks, .ref kw, .ref kc, .int kwd, .int kbg, .int kme, .ref kq, .ref km, .ref kd, .int ksi, .ref ka, .ref kk])), (ka, .inl (cI, 8, .inl kfa)), (kk, .inl (cI, 8, .inl kfk))] H := hP
        replace hD : va_D A [(f, .inr (5, [.ref k, .ref d, .ref j, .ref fl, .ref fh, .ref ff, .ref fa, .ref fm, .int fct, .int frb, .int fsl])), (fl, .inl (cI, 61, .inl (upd zfl x9.toNatClampNeg x14))), (fh, .inl (cI, 61, .inl zfh)), (d, .inr (4, [.ref ds, .int dsz, .ref dk, .ref dw, .int dac, .int dwr])), (k, .inr (0, [.ref ks, .ref kw, .ref kc, .int kwd, .int kbg, .int kme, .ref kq, .ref km, .ref kd, .int ksi, .ref ka, .ref kk])), (ka, .inl (cI, 8, .inl kfa)), (kk, .inl (cI, 8, .inl kfk))] := hD
        refine lv_aload_n hx hb dX5_boundBySights_104 rfl (lv_at hl 3 rfl) ?_
        refine va_get (D := (dC, dI)) (ci := 5) (v := .ref fh) (C := RX5) (T := TX5) (N := 11) hx hb hts hin5 hown hK hP 0 rfl rfl 4 (by decide) hw11 (fun _ h9 => h9) rfl dX5_boundBySights_105 ?_
        refine lv_iload_n hx hb dX5_boundBySights_108 rfl (lv_at hl 0 rfl) ?_
        refine lv_aload_n hx hb dX5_boundBySights_109 rfl (lv_at hl 3 rfl) ?_
        refine va_get (D := (dC, dI)) (ci := 5) (v := .ref fh) (C := RX5) (T := TX5) (N := 11) hx hb hts hin5 hown hK hP 0 rfl rfl 4 (by decide) hw11 (fun _ h9 => h9) rfl dX5_boundBySights_110 ?_
        refine lv_iload_n hx hb dX5_boundBySights_113 rfl (lv_at hl 0 rfl) ?_
        refine va_iald hx hb hK hP 2 0 rfl rfl (vin (by omega) (by omega)) dX5_boundBySights_114 ?_
        refine lv_topi (fun x15 e15 => ?_)
        refine lv_aload_n hx hb dX5_boundBySights_115 rfl (lv_at hl 3 rfl) ?_
        refine va_get (D := (dC, dI)) (ci := 5) (v := .ref k) (C := RX5) (T := TX5) (N := 11) hx hb hts hin5 hown hK hP 0 rfl rfl 0 (by decide) hw2 (fun _ h9 => h9) rfl dX5_boundBySights_116 ?_
        refine va_get (D := (dC, dI)) (ci := 0) (v := .ref kk) (C := RX0) (T := TX0) (N := 12) hx hb hts hin0 hown hK hP 4 rfl rfl 11 (by decide) hw6 (fun _ h9 => h9) rfl dX5_boundBySights_119 ?_
        refine lv_iload_n hx hb dX5_boundBySights_122 rfl (lv_at hl 1 rfl) ?_
        refine va_iald hx hb hK hP 6 0 rfl rfl (vin (by omega) (by omega)) dX5_boundBySights_123 ?_
        refine lv_topi (fun x16 e16 => ?_)
        refine lv_sipush (v := 200) hx hb dX5_boundBySights_124 (by decide) ?_
        refine lv_imul hx hb dX5_boundBySights_127 ?_
        refine lv_topi (fun x17 e17 => ?_)
        refine lv_sipush (v := 200) hx hb dX5_boundBySights_128 (by decide) ?_
        refine lv_iadd hx hb dX5_boundBySights_131 ?_
        refine lv_topi (fun x18 e18 => ?_)
        refine lv_iconst (v := 1) hx hb dX5_boundBySights_132 (by decide) ?_
        refine lv_isub hx hb dX5_boundBySights_133 ?_
        refine lv_topi (fun x19 e19 => ?_)
        refine va_mmin hx hb (hml.trans hl.1.symm) hown hw12 hw13 hw9 hw14 (Nat.le_of_ble_eq_true rfl) (Nat.le_of_ble_eq_true rfl) (Nat.le_of_ble_eq_true rfl) (Nat.le_of_ble_eq_true rfl) dX5_boundBySights_134 ?_
        refine lv_topi (fun x20 e20 => ?_)
        have f20 : x20.toInt ≤ x15.toInt ∧ x20.toInt ≤ x19.toInt ∧ (x20.toInt = x15.toInt ∨ x20.toInt = x19.toInt) := by rw [e20]; exact mmmin_t
        refine va_iast hx hb hK hP hD hS 2 0 rfl rfl (vin (by omega) (by omega)) dX5_boundBySights_137 (fun H locs hP hD hS => ?_)
        replace hP : va_P (dC, dI) vwCl [(f, .inr (5, [.ref k, .ref d, .ref j, .ref fl, .ref fh, .ref ff, .ref fa, .ref fm, .int fct, .int frb, .int fsl])), (fl, .inl (cI, 61, .inl (upd zfl x9.toNatClampNeg x14))), (fh, .inl (cI, 61, .inl (upd zfh x9.toNatClampNeg x20))), (d, .inr (4, [.ref ds, .int dsz, .ref dk, .ref dw, .int dac, .int dwr])), (k, .inr (0, [.ref ks, .ref kw, .ref kc, .int kwd, .int kbg, .int kme, .ref kq, .ref km, .ref kd, .int ksi, .ref ka, .ref kk])), (ka, .inl (cI, 8, .inl kfa)), (kk, .inl (cI, 8, .inl kfk))] H := hP
        replace hD : va_D A [(f, .inr (5, [.ref k, .ref d, .ref j, .ref fl, .ref fh, .ref ff, .ref fa, .ref fm, .int fct, .int frb, .int fsl])), (fl, .inl (cI, 61, .inl (upd zfl x9.toNatClampNeg x14))), (fh, .inl (cI, 61, .inl (upd zfh x9.toNatClampNeg x20))), (d, .inr (4, [.ref ds, .int dsz, .ref dk, .ref dw, .int dac, .int dwr])), (k, .inr (0, [.ref ks, .ref kw, .ref kc, .int kwd, .int kbg, .int kme, .ref kq, .ref km, .ref kd, .int ksi, .ref ka, .ref kk])), (ka, .inl (cI, 8, .inl kfa)), (kk, .inl (cI, 8, .inl kfk))] := hD
        obtain ⟨x21, e21⟩ : ∃ y : Int32, y = z2 + Int32.ofInt 1 := ⟨_, rfl⟩
        refine lv_iinc (v := x21) (lv' := [(2, .int x21), (3, .int x9), (1, .int z1), (0, .ref f)]) hx hb dX5_boundBySights_138 hl (k := 1) rfl e21.symm (by decide) rfl (fun ls hl => ?_)
        have f21 : x21.toInt = z2.toInt + 1 := by rw [e21]; exact tinc (by decide) (by have t8 := tb z2; omega) (by have t8 := tb z2; omega)
        refine lv_goto (tgt := 39) hx hb dX5_boundBySights_141 (by decide) ?_
        exact ih (H := H) (locs := locs) (ls := ls) (z1 := z1) (z2 := x21) (zfl := (upd zfl x9.toNatClampNeg x14)) (zfh := (upd zfh x9.toNatClampNeg x20)) hS (by omega)  (show lv_has ls 4 [(2, .int x21), (1, .int z1), (0, .ref f)] from lv_sub hl [0, 2, 3] rfl) (mx_subP (wc := [(f, .inr (5, [.ref k, .ref d, .ref j, .ref fl, .ref fh, .ref ff, .ref fa, .ref fm, .int fct, .int frb, .int fsl])), (fl, .inl (cI, 61, .inl (upd zfl x9.toNatClampNeg x14))), (fh, .inl (cI, 61, .inl (upd zfh x9.toNatClampNeg x20))), (d, .inr (4, [.ref ds, .int dsz, .ref dk, .ref dw, .int dac, .int dwr])), (k, .inr (0, [.ref ks, .ref kw, .ref kc, .int kwd, .int kbg, .int kme, .ref kq, .ref km, .ref kd, .int ksi, .ref ka, .ref kk])), (ka, .inl (cI, 8, .inl kfa)), (kk, .inl (cI, 8, .inl kfk))]) hP [0, 1, 2, 3, 4, 5, 6] rfl) (hD.sub (ws' := [(f, .inr (5, [.ref k, .ref d, .ref j, .ref fl, .ref fh, .ref ff, .ref fa, .ref fm, .int fct, .int frb, .int fsl])), (fl, .inl (cI, 61, .inl (upd zfl x9.toNatClampNeg x14))), (fh, .inl (cI, 61, .inl (upd zfh x9.toNatClampNeg x20))), (d, .inr (4, [.ref ds, .int dsz, .ref dk, .ref dw, .int dac, .int dwr])), (k, .inr (0, [.ref ks, .ref kw, .ref kc, .int kwd, .int kbg, .int kme, .ref kq, .ref km, .ref kd, .int ksi, .ref ka, .ref kk])), (ka, .inl (cI, 8, .inl kfa)), (kk, .inl (cI, 8, .inl kfk))]) [0, 1, 2, 3, 4, 5, 6] (by decide) rfl) (by omega)
      · have t10 : dac.toInt < x9.toInt := (tnle c10)
        refine lv_iconst (v := 0) hx hb dX5_boundBySights_71 (by decide) ?_
        refine lv_istore_n (lv' := [(1, .int 0), (3, .int x9), (2, .int z2), (0, .ref f)]) hx hb dX5_boundBySights_72 rfl hl (by decide) rfl (fun ls hl => ?_)
        refine lv_goto (tgt := 138) hx hb dX5_boundBySights_73 (by decide) ?_
        obtain ⟨x22, e22⟩ : ∃ y : Int32, y = z2 + Int32.ofInt 1 := ⟨_, rfl⟩
        refine lv_iinc (v := x22) (lv' := [(2, .int x22), (1, .int 0), (3, .int x9), (0, .ref f)]) hx hb dX5_boundBySights_138 hl (k := 2) rfl e22.symm (by decide) rfl (fun ls hl => ?_)
        have f22 : x22.toInt = z2.toInt + 1 := by rw [e22]; exact tinc (by decide) (by have t8 := tb z2; omega) (by have t8 := tb z2; omega)
        refine lv_goto (tgt := 39) hx hb dX5_boundBySights_141 (by decide) ?_
        have z23 : (0 : Int32).toInt = 0 := rfl
        exact ih (H := H) (locs := locs) (ls := ls) (z1 := 0) (z2 := x22) (zfl := zfl) (zfh := zfh) hS (by omega)  (show lv_has ls 4 [(2, .int x22), (1, .int 0), (0, .ref f)] from lv_sub hl [0, 1, 3] rfl) (mx_subP (wc := [(f, .inr (5, [.ref k, .ref d, .ref j, .ref fl, .ref fh, .ref ff, .ref fa, .ref fm, .int fct, .int frb, .int fsl])), (fl, .inl (cI, 61, .inl zfl)), (fh, .inl (cI, 61, .inl zfh)), (d, .inr (4, [.ref ds, .int dsz, .ref dk, .ref dw, .int dac, .int dwr])), (k, .inr (0, [.ref ks, .ref kw, .ref kc, .int kwd, .int kbg, .int kme, .ref kq, .ref km, .ref kd, .int ksi, .ref ka, .ref kk])), (ka, .inl (cI, 8, .inl kfa)), (kk, .inl (cI, 8, .inl kfk))]) hP [0, 1, 2, 3, 4, 5, 6] rfl) (hD.sub (ws' := [(f, .inr (5, [.ref k, .ref d, .ref j, .ref fl, .ref fh, .ref ff, .ref fa, .ref fm, .int fct, .int frb, .int fsl])), (fl, .inl (cI, 61, .inl zfl)), (fh, .inl (cI, 61, .inl zfh)), (d, .inr (4, [.ref ds, .int dsz, .ref dk, .ref dw, .int dac, .int dwr])), (k, .inr (0, [.ref ks, .ref kw, .ref kc, .int kwd, .int kbg, .int kme, .ref kq, .ref km, .ref kd, .int ksi, .ref ka, .ref kk])), (ka, .inl (cI, 8, .inl kfa)), (kk, .inl (cI, 8, .inl kfk))]) [0, 1, 2, 3, 4, 5, 6] (by decide) rfl) (by omega)
  | succ n1 ih =>
    skip
    refine lv_iload_n hx hb dX5_boundBySights_2 rfl (lv_at hl 0 rfl) ?_
    refine lv_aload_n hx hb dX5_boundBySights_3 rfl (lv_at hl 1 rfl) ?_
    refine va_get (D := (dC, dI)) (ci := 5) (v := .ref d) (C := RX5) (T := TX5) (N := 11) hx hb hts hin5 hown hK hP 0 rfl rfl 1 (by decide) hw0 (fun _ h9 => h9) rfl dX5_boundBySights_4 ?_
    refine va_get (D := (dC, dI)) (ci := 4) (v := .int dac) (C := RX4) (T := TX4) (N := 6) hx hb hts hin4 hown hK hP 3 rfl rfl 4 (by decide) hw1 (fun _ h9 => h9) rfl dX5_boundBySights_7 ?_
    refine lv_icmp_gt (tgt := 35) hx hb dX5_boundBySights_10 (by decide) (fun c24 => by exfalso; have t24 : dac.toInt < y1.toInt := (tlt c24); omega) (fun c24 => ?_)
    refine lv_aload_n hx hb dX5_boundBySights_13 rfl (lv_at hl 1 rfl) ?_
    refine va_get (D := (dC, dI)) (ci := 5) (v := .ref fl) (C := RX5) (T := TX5) (N := 11) hx hb hts hin5 hown hK hP 0 rfl rfl 3 (by decide) hw5 (fun _ h9 => h9) rfl dX5_boundBySights_14 ?_
    refine lv_iload_n hx hb dX5_boundBySights_17 rfl (lv_at hl 0 rfl) ?_
    refine lv_iconst (v := 0) hx hb dX5_boundBySights_18 (by decide) ?_
    refine va_iast hx hb hK hP hD hS 1 0 rfl rfl (vin (by omega) (by omega)) dX5_boundBySights_19 (fun H locs hP hD hS => ?_)
    replace hP : va_P (dC, dI) vwCl [(f, .inr (5, [.ref k, .ref d, .ref j, .ref fl, .ref fh, .ref ff, .ref fa, .ref fm, .int fct, .int frb, .int fsl])), (fl, .inl (cI, 61, .inl (upd yfl y1.toNatClampNeg 0))), (fh, .inl (cI, 61, .inl yfh)), (d, .inr (4, [.ref ds, .int dsz, .ref dk, .ref dw, .int dac, .int dwr])), (k, .inr (0, [.ref ks, .ref kw, .ref kc, .int kwd, .int kbg, .int kme, .ref kq, .ref km, .ref kd, .int ksi, .ref ka, .ref kk])), (ka, .inl (cI, 8, .inl kfa)), (kk, .inl (cI, 8, .inl kfk))] H := hP
    replace hD : va_D A [(f, .inr (5, [.ref k, .ref d, .ref j, .ref fl, .ref fh, .ref ff, .ref fa, .ref fm, .int fct, .int frb, .int fsl])), (fl, .inl (cI, 61, .inl (upd yfl y1.toNatClampNeg 0))), (fh, .inl (cI, 61, .inl yfh)), (d, .inr (4, [.ref ds, .int dsz, .ref dk, .ref dw, .int dac, .int dwr])), (k, .inr (0, [.ref ks, .ref kw, .ref kc, .int kwd, .int kbg, .int kme, .ref kq, .ref km, .ref kd, .int ksi, .ref ka, .ref kk])), (ka, .inl (cI, 8, .inl kfa)), (kk, .inl (cI, 8, .inl kfk))] := hD
    refine lv_aload_n hx hb dX5_boundBySights_20 rfl (lv_at hl 1 rfl) ?_
    refine va_get (D := (dC, dI)) (ci := 5) (v := .ref fh) (C := RX5) (T := TX5) (N := 11) hx hb hts hin5 hown hK hP 0 rfl rfl 4 (by decide) hw11 (fun _ h9 => h9) rfl dX5_boundBySights_21 ?_
    refine lv_iload_n hx hb dX5_boundBySights_24 rfl (lv_at hl 0 rfl) ?_
    refine lv_sipush (v := 4000) hx hb dX5_boundBySights_25 (by decide) ?_
    refine va_iast hx hb hK hP hD hS 2 0 rfl rfl (vin (by omega) (by omega)) dX5_boundBySights_28 (fun H locs hP hD hS => ?_)
    replace hP : va_P (dC, dI) vwCl [(f, .inr (5, [.ref k, .ref d, .ref j, .ref fl, .ref fh, .ref ff, .ref fa, .ref fm, .int fct, .int frb, .int fsl])), (fl, .inl (cI, 61, .inl (upd yfl y1.toNatClampNeg 0))), (fh, .inl (cI, 61, .inl (upd yfh y1.toNatClampNeg 4000))), (d, .inr (4, [.ref ds, .int dsz, .ref dk, .ref dw, .int dac, .int dwr])), (k, .inr (0, [.ref ks, .ref kw, .ref kc, .int kwd, .int kbg, .int kme, .ref kq, .ref km, .ref kd, .int ksi, .ref ka, .ref kk])), (ka, .inl (cI, 8, .inl kfa)), (kk, .inl (cI, 8, .inl kfk))] H := hP
    replace hD : va_D A [(f, .inr (5, [.ref k, .ref d, .ref j, .ref fl, .ref fh, .ref ff, .ref fa, .ref fm, .int fct, .int frb, .int fsl])), (fl, .inl (cI, 61, .inl (upd yfl y1.toNatClampNeg 0))), (fh, .inl (cI, 61, .inl (upd yfh y1.toNatClampNeg 4000))), (d, .inr (4, [.ref ds, .int dsz, .ref dk, .ref dw, .int dac, .int dwr])), (k, .inr (0, [.ref ks, .ref kw, .ref kc, .int kwd, .int kbg, .int kme, .ref kq, .ref km, .ref kd, .int ksi, .ref ka, .ref kk])), (ka, .inl (cI, 8, .inl kfa)), (kk, .inl (cI, 8, .inl kfk))] := hD
    obtain ⟨x25, e25⟩ : ∃ y : Int32, y = y1 + Int32.ofInt 1 := ⟨_, rfl⟩
    refine lv_iinc (v := x25) (lv' := [(1, .int x25), (0, .ref f)]) hx hb dX5_boundBySights_29 hl (k := 0) rfl e25.symm (by decide) rfl (fun ls hl => ?_)
    have f25 : x25.toInt = y1.toInt + 1 := by rw [e25]; exact tinc (by decide) (by have t8 := tb y1; omega) (by have t8 := tb y1; omega)
    refine lv_goto (tgt := 2) hx hb dX5_boundBySights_32 (by decide) ?_
    exact ih (H := H) (locs := locs) (ls := ls) (y1 := x25) (yfl := (upd yfl y1.toNatClampNeg 0)) (yfh := (upd yfh y1.toNatClampNeg 4000)) hS (by omega)  (show lv_has ls 4 [(1, .int x25), (0, .ref f)] from lv_sub hl [0, 1] rfl) (mx_subP (wc := [(f, .inr (5, [.ref k, .ref d, .ref j, .ref fl, .ref fh, .ref ff, .ref fa, .ref fm, .int fct, .int frb, .int fsl])), (fl, .inl (cI, 61, .inl (upd yfl y1.toNatClampNeg 0))), (fh, .inl (cI, 61, .inl (upd yfh y1.toNatClampNeg 4000))), (d, .inr (4, [.ref ds, .int dsz, .ref dk, .ref dw, .int dac, .int dwr])), (k, .inr (0, [.ref ks, .ref kw, .ref kc, .int kwd, .int kbg, .int kme, .ref kq, .ref km, .ref kd, .int ksi, .ref ka, .ref kk])), (ka, .inl (cI, 8, .inl kfa)), (kk, .inl (cI, 8, .inl kfk))]) hP [0, 1, 2, 3, 4, 5, 6] rfl) (hD.sub (ws' := [(f, .inr (5, [.ref k, .ref d, .ref j, .ref fl, .ref fh, .ref ff, .ref fa, .ref fm, .int fct, .int frb, .int fsl])), (fl, .inl (cI, 61, .inl (upd yfl y1.toNatClampNeg 0))), (fh, .inl (cI, 61, .inl (upd yfh y1.toNatClampNeg 4000))), (d, .inr (4, [.ref ds, .int dsz, .ref dk, .ref dw, .int dac, .int dwr])), (k, .inr (0, [.ref ks, .ref kw, .ref kc, .int kwd, .int kbg, .int kme, .ref kq, .ref km, .ref kd, .int ksi, .ref ka, .ref kk])), (ka, .inl (cI, 8, .inl kfa)), (kk, .inl (cI, 8, .inl kfk))]) [0, 1, 2, 3, 4, 5, 6] (by decide) rfl) (by omega)
set_option maxHeartbeats 4000000 in
set_option maxRecDepth 100000 in
theorem c_X5_rightWithoutLeak (l : Launch) (dC : Nat → ClassId) (dI : Nat → Nat → Nat) (cI cZ cK : ClassId) (tS : Nat) (aK aV : Nat → Nat) (f : Nat) (k : Nat) (d : Nat) (j : Nat) (fl : Nat) (fh : Nat) (ff : Nat) (fa : Nat) (fm : Nat) (fct : Int32) (frb : Int32) (fsl : Int32) (ffl : Nat → Int32) (ffh : Nat → Int32) (ds : Nat) (dsz : Int32) (dk : Nat) (dw : Nat) (dac : Int32) (dwr : Int32) (jd : Nat) (jb : Nat) (jw : Nat) (jl : Nat) (jbad : Int32) (jwhy : Int32) (jleft : Int32) (jday : Int32) (jwarmDay : Int32) (jbagDays : Int32) (jburnt : Int32) (jboiled : Int32) (jfl : Nat → Int32) (sz : Nat) (h_dac : 0 ≤ dac.toInt ∧ dac.toInt ≤ 60) : Ci l yX5_rightWithoutLeak (wq yX5_rightWithoutLeak cX5_rightWithoutLeak 2 (some .int)) ({ frames := 1, cells := 0, slots := 0, locals := 22 }) dC dI cI cZ cK tS aK aV [.ref f] sz [(f, .inr (5, [.ref k, .ref d, .ref j, .ref fl, .ref fh, .ref ff, .ref fa, .ref fm, .int fct, .int frb, .int fsl])), (fl, .inl (cI, 61, .inl ffl)), (fh, .inl (cI, 61, .inl ffh)), (d, .inr (4, [.ref ds, .int dsz, .ref dk, .ref dw, .int dac, .int dwr])), (j, .inr (1, [.ref k, .ref d, .ref jd, .ref jb, .ref jw, .ref jl, .int jbad, .int jwhy, .int jleft, .int jday, .int jwarmDay, .int jbagDays, .int jburnt, .int jboiled])), (jl, .inl (cI, 61, .inl jfl))] (fun (r : Int32) (u : Unit) => True) (fun _ => [(f, .inr (5, [.ref k, .ref d, .ref j, .ref fl, .ref fh, .ref ff, .ref fa, .ref fm, .int fct, .int frb, .int fsl])), (fl, .inl (cI, 61, .inl ffl)), (fh, .inl (cI, 61, .inl ffh)), (d, .inr (4, [.ref ds, .int dsz, .ref dk, .ref dw, .int dac, .int dwr])), (j, .inr (1, [.ref k, .ref d, .ref jd, .ref jb, .ref jw, .ref jl, .int jbad, .int jwhy, .int jleft, .int jday, .int jwarmDay, .int jbagDays, .int jburnt, .int jboiled])), (jl, .inl (cI, 61, .inl jfl))]) := by
  refine Met.ofW (cc := cX5_rightWithoutLeak) (maxL := 2) (ret := (some .int)) (by decide) rfl ?_
  intro p e s m args below meth c s₁ B hml hv
  obtain ⟨rfl, hsz, hP, hKx, hD0⟩ := hv
  have hx := B.exec
  have hb := B.bytes
  have hr := B.returns
  have hts := atoms_spec (ws := wq yX5_rightWithoutLeak cX5_rightWithoutLeak 2 (some .int)) B.pre
  have hown : s.vm.findClass RX5 = some m.cls := findClass_of_methodNamed B.named
  have hlocks := B.notSynchronized
  subst hsz
  have hD := hD0.self (sz := s.heap.size)
  generalize hAe : va_A [(f, .inr (5, [.ref k, .ref d, .ref j, .ref fl, .ref fh, .ref ff, .ref fa, .ref fm, .int fct, .int frb, .int fsl])), (fl, .inl (cI, 61, .inl ffl)), (fh, .inl (cI, 61, .inl ffh)), (d, .inr (4, [.ref ds, .int dsz, .ref dk, .ref dw, .int dac, .int dwr])), (j, .inr (1, [.ref k, .ref d, .ref jd, .ref jb, .ref jw, .ref jl, .int jbad, .int jwhy, .int jleft, .int jday, .int jwarmDay, .int jbagDays, .int jburnt, .int jboiled])), (jl, .inl (cI, 61, .inl jfl))] s.heap.size = A at hD hKx ⊢
  have hA : ∀ q : Nat, s.heap.size ≤ q → A q := fun q h => by rw [← hAe]; exact Or.inr h
  have hS : va_S A s.heap s.heap [] := va_S.rf
  have hP : va_P (dC, dI) vwCl [(f, .inr (5, [.ref k, .ref d, .ref j, .ref fl, .ref fh, .ref ff, .ref fa, .ref fm, .int fct, .int frb, .int fsl])), (fl, .inl (cI, 61, .inl ffl)), (fh, .inl (cI, 61, .inl ffh)), (d, .inr (4, [.ref ds, .int dsz, .ref dk, .ref dw, .int dac, .int dwr])), (j, .inr (1, [.ref k, .ref d, .ref jd, .ref jb, .ref jw, .ref jl, .int jbad, .int jwhy, .int jleft, .int jday, .int jwarmDay, .int jbagDays, .int jburnt, .int jboiled])), (jl, .inl (cI, 61, .inl jfl))] s.heap := hP
  have hl := lv_entry ([.ref f]) (n := 2) (Nat.le_of_ble_eq_true rfl)
  rw [lg_entry_eq]
  generalize (lg_sl ([.ref f]) ++ List.replicate (2 - (lg_sl ([.ref f])).length) Slot.unset).toArray = ls at hl ⊢
  have hl : lv_has ls 2 [(0, .ref f)] := hl
  have hK := hKx.1
  have hin5 := fun w9 h9 => List.mem_cons_of_mem (Cond.code yX5_rightWithoutLeak cX5_rightWithoutLeak 2 (some .int)) (inlX5 w9 h9)
  have hin4 := fun w9 h9 => List.mem_cons_of_mem (Cond.code yX5_rightWithoutLeak cX5_rightWithoutLeak 2 (some .int)) (inlX4 w9 h9)
  have hin1 := fun w9 h9 => List.mem_cons_of_mem (Cond.code yX5_rightWithoutLeak cX5_rightWithoutLeak 2 (some .int)) (inlX1 w9 h9)
  have hw0 := hts (.fieldLink RX5 31 "OneCan$Search" "pad" "LOneCan$Pad;") (List.mem_cons_of_mem _ wm_93)
  have hw1 := hts (.fieldLink RX5 54 "OneCan$Pad" "acts" "I") (List.mem_cons_of_mem _ wm_738)
  have hw2 := hts (.fieldLink RX5 35 "OneCan$Search" "course" "LOneCan$Course;") (List.mem_cons_of_mem _ wm_94)
  have hw3 := hts (.fieldLink RX5 59 "OneCan$Course" "lefts" "[I") (List.mem_cons_of_mem _ wm_739)
  have hw4 := hts (.fieldLink RX5 9 "OneCan$Search" "low" "[I") (List.mem_cons_of_mem _ wm_87)
  have hw5 := hts (.fieldLink RX5 15 "OneCan$Search" "high" "[I") (List.mem_cons_of_mem _ wm_88)
  have hw6 := hts (.initialized RX7) (List.mem_cons_of_mem _ wm_2)
  have hw7 := hts (.static yX7_isIn) (List.mem_cons_of_mem _ wm_142)
  refine lv_iconst (v := 0) hx hb dX5_rightWithoutLeak_0 (by decide) ?_
  refine lv_istore_n (lv' := [(1, .int 0), (0, .ref f)]) hx hb dX5_rightWithoutLeak_1 rfl hl (by decide) rfl (fun ls hl => ?_)
  have z2 : (0 : Int32).toInt = 0 := rfl
  have hl0 := hl
  clear hl
  obtain ⟨H, hHe⟩ : ∃ H : Heap, H = s.heap := ⟨_, rfl⟩
  obtain ⟨locs, hlo⟩ : ∃ l : List Loc, l = [] := ⟨_, rfl⟩
  replace hP : va_P (dC, dI) vwCl [(f, .inr (5, [.ref k, .ref d, .ref j, .ref fl, .ref fh, .ref ff, .ref fa, .ref fm, .int fct, .int frb, .int fsl])), (fl, .inl (cI, 61, .inl ffl)), (fh, .inl (cI, 61, .inl ffh)), (d, .inr (4, [.ref ds, .int dsz, .ref dk, .ref dw, .int dac, .int dwr])), (j, .inr (1, [.ref k, .ref d, .ref jd, .ref jb, .ref jw, .ref jl, .int jbad, .int jwhy, .int jleft, .int jday, .int jwarmDay, .int jbagDays, .int jburnt, .int jboiled])), (jl, .inl (cI, 61, .inl jfl))] H := by rw [hHe]; exact hP
  replace hS : va_S A s.heap H locs := by rw [hHe, hlo]; exact hS
  rw [← hHe, ← hlo]
  clear hHe hlo
  have hP0 := hP
  clear hP
  have hD0 := hD
  clear hD
  obtain ⟨y1, ex, hl, hP, hD⟩ : ∃ (y1 : Int32), (0 ≤ y1.toInt ∧ y1.toInt ≤ dac.toInt) ∧ lv_has ls 2 [(1, .int y1), (0, .ref f)] ∧ va_P (dC, dI) vwCl [(f, .inr (5, [.ref k, .ref d, .ref j, .ref fl, .ref fh, .ref ff, .ref fa, .ref fm, .int fct, .int frb, .int fsl])), (fl, .inl (cI, 61, .inl ffl)), (fh, .inl (cI, 61, .inl ffh)), (d, .inr (4, [.ref ds, .int dsz, .ref dk, .ref dw, .int dac, .int dwr])), (j, .inr (1, [.ref k, .ref d, .ref jd, .ref jb, .ref jw, .ref jl, .int jbad, .int jwhy, .int jleft, .int jday, .int jwarmDay, .int jbagDays, .int jburnt, .int jboiled])), (jl, .inl (cI, 61, .inl jfl))] H ∧ va_D A [(f, .inr (5, [.ref k, .ref d, .ref j, .ref fl, .ref fh, .ref ff, .ref fa, .ref fm, .int fct, .int frb, .int fsl])), (fl, .inl (cI, 61, .inl ffl)), (fh, .inl (cI, 61, .inl ffh)), (d, .inr (4, [.ref ds, .int dsz, .ref dk, .ref dw, .int dac, .int dwr])), (j, .inr (1, [.ref k, .ref d, .ref jd, .ref jb, .ref jw, .ref jl, .int jbad, .int jwhy, .int jleft, .int jday, .int jwarmDay, .int jbagDays, .int jburnt, .int jboiled])), (jl, .inl (cI, 61, .inl jfl))] := ⟨0, by omega, hl0, hP0, hD0⟩
  clear hl0 hP0 hD0
  obtain ⟨n1, hn⟩ : ∃ n : Nat, (n : Int) = dac.toInt - y1.toInt := ⟨(dac.toInt - y1.toInt).toNat, by omega⟩
  induction n1 generalizing y1 ls H locs with
  | zero =>
    skip
    refine lv_iload_n hx hb dX5_rightWithoutLeak_2 rfl (lv_at hl 0 rfl) ?_
    refine lv_aload_n hx hb dX5_rightWithoutLeak_3 rfl (lv_at hl 1 rfl) ?_
    refine va_get (D := (dC, dI)) (ci := 5) (v := .ref d) (C := RX5) (T := TX5) (N := 11) hx hb hts hin5 hown hK hP 0 rfl rfl 1 (by decide) hw0 (fun _ h9 => h9) rfl dX5_rightWithoutLeak_4 ?_
    refine va_get (D := (dC, dI)) (ci := 4) (v := .int dac) (C := RX4) (T := TX4) (N := 6) hx hb hts hin4 hown hK hP 3 rfl rfl 4 (by decide) hw1 (fun _ h9 => h9) rfl dX5_rightWithoutLeak_7 ?_
    refine lv_icmp_ge (tgt := 50) hx hb dX5_rightWithoutLeak_10 (by decide) (fun c3 => ?_) (fun c3 => by exfalso; have t3 : y1.toInt < dac.toInt := (tnle c3); omega)
    refine lv_aload_n hx hb dX5_rightWithoutLeak_50 rfl (lv_at hl 1 rfl) ?_
    refine va_get (D := (dC, dI)) (ci := 5) (v := .ref d) (C := RX5) (T := TX5) (N := 11) hx hb hts hin5 hown hK hP 0 rfl rfl 1 (by decide) hw0 (fun _ h9 => h9) rfl dX5_rightWithoutLeak_51 ?_
    refine va_get (D := (dC, dI)) (ci := 4) (v := .int dac) (C := RX4) (T := TX4) (N := 6) hx hb hts hin4 hown hK hP 3 rfl rfl 4 (by decide) hw1 (fun _ h9 => h9) rfl dX5_rightWithoutLeak_54 ?_
    have hP9 := mx_subP (wc := [(f, .inr (5, [.ref k, .ref d, .ref j, .ref fl, .ref fh, .ref ff, .ref fa, .ref fm, .int fct, .int frb, .int fsl])), (fl, .inl (cI, 61, .inl ffl)), (fh, .inl (cI, 61, .inl ffh)), (d, .inr (4, [.ref ds, .int dsz, .ref dk, .ref dw, .int dac, .int dwr])), (j, .inr (1, [.ref k, .ref d, .ref jd, .ref jb, .ref jw, .ref jl, .int jbad, .int jwhy, .int jleft, .int jday, .int jwarmDay, .int jbagDays, .int jburnt, .int jboiled])), (jl, .inl (cI, 61, .inl jfl))]) hP [0, 1, 2, 3, 4, 5] rfl
    have hD9 := hD.sub (ws' := [(f, .inr (5, [.ref k, .ref d, .ref j, .ref fl, .ref fh, .ref ff, .ref fa, .ref fm, .int fct, .int frb, .int fsl])), (fl, .inl (cI, 61, .inl ffl)), (fh, .inl (cI, 61, .inl ffh)), (d, .inr (4, [.ref ds, .int dsz, .ref dk, .ref dw, .int dac, .int dwr])), (j, .inr (1, [.ref k, .ref d, .ref jd, .ref jb, .ref jw, .ref jl, .int jbad, .int jwhy, .int jleft, .int jday, .int jwarmDay, .int jbagDays, .int jburnt, .int jboiled])), (jl, .inl (cI, 61, .inl jfl))]) [0, 1, 2, 3, 4, 5] (by decide) rfl
    exact W.iret (v := dac) hx hb hr (fun t ht hW => ⟨⟨dac, (), rfl, trivial, by rw [ht]; exact hP9, hD9⟩, hS.F ht⟩) hS.2.2 dX5_rightWithoutLeak_57
  | succ n1 ih =>
    skip
    refine lv_iload_n hx hb dX5_rightWithoutLeak_2 rfl (lv_at hl 0 rfl) ?_
    refine lv_aload_n hx hb dX5_rightWithoutLeak_3 rfl (lv_at hl 1 rfl) ?_
    refine va_get (D := (dC, dI)) (ci := 5) (v := .ref d) (C := RX5) (T := TX5) (N := 11) hx hb hts hin5 hown hK hP 0 rfl rfl 1 (by decide) hw0 (fun _ h9 => h9) rfl dX5_rightWithoutLeak_4 ?_
    refine va_get (D := (dC, dI)) (ci := 4) (v := .int dac) (C := RX4) (T := TX4) (N := 6) hx hb hts hin4 hown hK hP 3 rfl rfl 4 (by decide) hw1 (fun _ h9 => h9) rfl dX5_rightWithoutLeak_7 ?_
    refine lv_icmp_ge (tgt := 50) hx hb dX5_rightWithoutLeak_10 (by decide) (fun c4 => by exfalso; have t4 : dac.toInt ≤ y1.toInt := (tle c4); omega) (fun c4 => ?_)
    refine lv_aload_n hx hb dX5_rightWithoutLeak_13 rfl (lv_at hl 1 rfl) ?_
    refine va_get (D := (dC, dI)) (ci := 5) (v := .ref j) (C := RX5) (T := TX5) (N := 11) hx hb hts hin5 hown hK hP 0 rfl rfl 2 (by decide) hw2 (fun _ h9 => h9) rfl dX5_rightWithoutLeak_14 ?_
    refine va_get (D := (dC, dI)) (ci := 1) (v := .ref jl) (C := RX1) (T := TX1) (N := 14) hx hb hts hin1 hown hK hP 4 rfl rfl 5 (by decide) hw3 (fun _ h9 => h9) rfl dX5_rightWithoutLeak_17 ?_
    refine lv_iload_n hx hb dX5_rightWithoutLeak_20 rfl (lv_at hl 0 rfl) ?_
    refine va_iald hx hb hK hP 5 0 rfl rfl (vin (by omega) (by omega)) dX5_rightWithoutLeak_21 ?_
    refine lv_topi (fun x5 e5 => ?_)
    refine lv_aload_n hx hb dX5_rightWithoutLeak_22 rfl (lv_at hl 1 rfl) ?_
    refine va_get (D := (dC, dI)) (ci := 5) (v := .ref fl) (C := RX5) (T := TX5) (N := 11) hx hb hts hin5 hown hK hP 0 rfl rfl 3 (by decide) hw4 (fun _ h9 => h9) rfl dX5_rightWithoutLeak_23 ?_
    refine lv_iload_n hx hb dX5_rightWithoutLeak_26 rfl (lv_at hl 0 rfl) ?_
    refine va_iald hx hb hK hP 1 0 rfl rfl (vin (by omega) (by omega)) dX5_rightWithoutLeak_27 ?_
    refine lv_topi (fun x6 e6 => ?_)
    refine lv_aload_n hx hb dX5_rightWithoutLeak_28 rfl (lv_at hl 1 rfl) ?_
    refine va_get (D := (dC, dI)) (ci := 5) (v := .ref fh) (C := RX5) (T := TX5) (N := 11) hx hb hts hin5 hown hK hP 0 rfl rfl 4 (by decide) hw5 (fun _ h9 => h9) rfl dX5_rightWithoutLeak_29 ?_
    refine lv_iload_n hx hb dX5_rightWithoutLeak_32 rfl (lv_at hl 0 rfl) ?_
    refine va_iald hx hb hK hP 2 0 rfl rfl (vin (by omega) (by omega)) dX5_rightWithoutLeak_33 ?_
    refine lv_topi (fun x7 e7 => ?_)
    refine mx_i (wr := [(f, .inr (5, [.ref k, .ref d, .ref j, .ref fl, .ref fh, .ref ff, .ref fa, .ref fm, .int fct, .int frb, .int fsl])), (fl, .inl (cI, 61, .inl ffl)), (fh, .inl (cI, 61, .inl ffh)), (d, .inr (4, [.ref ds, .int dsz, .ref dk, .ref dw, .int dac, .int dwr])), (j, .inr (1, [.ref k, .ref d, .ref jd, .ref jb, .ref jw, .ref jl, .int jbad, .int jwhy, .int jleft, .int jday, .int jwarmDay, .int jbagDays, .int jburnt, .int jboiled])), (jl, .inl (cI, 61, .inl jfl))]) (va_runSN (As := [.int x5, .int x6, .int x7]) (rest := []) ⟨hx, hb, hml, hown, hts⟩ (c_X7_isIn l dC dI cI cZ cK tS aK aV x5 x6 x7 H.size) ⟨va_cnB 3 hts (gw_i (fun _ h9 => List.mem_cons_of_mem _ h9) wm_143) rfl rfl rfl hKx.2.2.1 hw6 (by decide +kernel) ⟨Nat.le_of_ble_eq_true rfl, Nat.le_of_ble_eq_true rfl⟩, hw7, trivial⟩ (mx_preS hKx hP hD hS hA [] (by decide) rfl) rfl rfl hl.1 rfl (lv_room (Nat.le_of_ble_eq_true rfl)) dX5_rightWithoutLeak_34 ⟨Nat.le_of_ble_eq_true rfl, Nat.le_of_ble_eq_true rfl⟩) hP hD hS hA [] [0, 1, 2, 3, 4, 5] rfl rfl (by decide) (by decide) (fun r8 u8 H locs hq8 hP hD hS => ?_)
    replace hP : va_P (dC, dI) vwCl [(f, .inr (5, [.ref k, .ref d, .ref j, .ref fl, .ref fh, .ref ff, .ref fa, .ref fm, .int fct, .int frb, .int fsl])), (fl, .inl (cI, 61, .inl ffl)), (fh, .inl (cI, 61, .inl ffh)), (d, .inr (4, [.ref ds, .int dsz, .ref dk, .ref dw, .int dac, .int dwr])), (j, .inr (1, [.ref k, .ref d, .ref jd, .ref jb, .ref jw, .ref jl, .int jbad, .int jwhy, .int jleft, .int jday, .int jwarmDay, .int jbagDays, .int jburnt, .int jboiled])), (jl, .inl (cI, 61, .inl jfl))] H := hP
    replace hD : va_D A [(f, .inr (5, [.ref k, .ref d, .ref j, .ref fl, .ref fh, .ref ff, .ref fa, .ref fm, .int fct, .int frb, .int fsl])), (fl, .inl (cI, 61, .inl ffl)), (fh, .inl (cI, 61, .inl ffh)), (d, .inr (4, [.ref ds, .int dsz, .ref dk, .ref dw, .int dac, .int dwr])), (j, .inr (1, [.ref k, .ref d, .ref jd, .ref jb, .ref jw, .ref jl, .int jbad, .int jwhy, .int jleft, .int jday, .int jwarmDay, .int jbagDays, .int jburnt, .int jboiled])), (jl, .inl (cI, 61, .inl jfl))] := hD
    rcases hq8 with ⟨rfl, hf8⟩ | ⟨rfl, hf8⟩
    · have hf8 : x6.toInt ≤ x5.toInt ∧ x5.toInt ≤ x7.toInt := hf8
      refine lv_if_ne (tgt := 44) hx hb dX5_rightWithoutLeak_37 (by decide) (fun c9 => ?_) (fun c9 => absurd c9 (by decide))
      obtain ⟨x10, e10⟩ : ∃ y : Int32, y = y1 + Int32.ofInt 1 := ⟨_, rfl⟩
      refine lv_iinc (v := x10) (lv' := [(1, .int x10), (0, .ref f)]) hx hb dX5_rightWithoutLeak_44 hl (k := 0) rfl e10.symm (by decide) rfl (fun ls hl => ?_)
      have f10 : x10.toInt = y1.toInt + 1 := by rw [e10]; exact tinc (by decide) (by have t8 := tb y1; omega) (by have t8 := tb y1; omega)
      refine lv_goto (tgt := 2) hx hb dX5_rightWithoutLeak_47 (by decide) ?_
      exact ih (H := H) (locs := locs) (ls := ls) (y1 := x10) hS (by omega)  (show lv_has ls 2 [(1, .int x10), (0, .ref f)] from lv_sub hl [0, 1] rfl) (mx_subP (wc := [(f, .inr (5, [.ref k, .ref d, .ref j, .ref fl, .ref fh, .ref ff, .ref fa, .ref fm, .int fct, .int frb, .int fsl])), (fl, .inl (cI, 61, .inl ffl)), (fh, .inl (cI, 61, .inl ffh)), (d, .inr (4, [.ref ds, .int dsz, .ref dk, .ref dw, .int dac, .int dwr])), (j, .inr (1, [.ref k, .ref d, .ref jd, .ref jb, .ref jw, .ref jl, .int jbad, .int jwhy, .int jleft, .int jday, .int jwarmDay, .int jbagDays, .int jburnt, .int jboiled])), (jl, .inl (cI, 61, .inl jfl))]) hP [0, 1, 2, 3, 4, 5] rfl) (by omega)
    · have hf8 : x5.toInt < x6.toInt ∨ x7.toInt < x5.toInt := hf8
      refine lv_if_ne (tgt := 44) hx hb dX5_rightWithoutLeak_37 (by decide) (fun c11 => absurd c11 (by decide)) (fun c11 => ?_)
      refine lv_iload_n hx hb dX5_rightWithoutLeak_40 rfl (lv_at hl 0 rfl) ?_
      refine lv_iconst (v := 1) hx hb dX5_rightWithoutLeak_41 (by decide) ?_
      refine lv_isub hx hb dX5_rightWithoutLeak_42 ?_
      refine lv_topi (fun x12 e12 => ?_)
      have f12 : x12.toInt = y1.toInt - (1 : Int) := by rw [e12]; exact tsub (by have t8 := tb y1; have z8 : (1 : Int32).toInt = 1 := rfl; omega) (by have t8 := tb y1; have z8 : (1 : Int32).toInt = 1 := rfl; omega)
      have hP9 := mx_subP (wc := [(f, .inr (5, [.ref k, .ref d, .ref j, .ref fl, .ref fh, .ref ff, .ref fa, .ref fm, .int fct, .int frb, .int fsl])), (fl, .inl (cI, 61, .inl ffl)), (fh, .inl (cI, 61, .inl ffh)), (d, .inr (4, [.ref ds, .int dsz, .ref dk, .ref dw, .int dac, .int dwr])), (j, .inr (1, [.ref k, .ref d, .ref jd, .ref jb, .ref jw, .ref jl, .int jbad, .int jwhy, .int jleft, .int jday, .int jwarmDay, .int jbagDays, .int jburnt, .int jboiled])), (jl, .inl (cI, 61, .inl jfl))]) hP [0, 1, 2, 3, 4, 5] rfl
      have hD9 := hD.sub (ws' := [(f, .inr (5, [.ref k, .ref d, .ref j, .ref fl, .ref fh, .ref ff, .ref fa, .ref fm, .int fct, .int frb, .int fsl])), (fl, .inl (cI, 61, .inl ffl)), (fh, .inl (cI, 61, .inl ffh)), (d, .inr (4, [.ref ds, .int dsz, .ref dk, .ref dw, .int dac, .int dwr])), (j, .inr (1, [.ref k, .ref d, .ref jd, .ref jb, .ref jw, .ref jl, .int jbad, .int jwhy, .int jleft, .int jday, .int jwarmDay, .int jbagDays, .int jburnt, .int jboiled])), (jl, .inl (cI, 61, .inl jfl))]) [0, 1, 2, 3, 4, 5] (by decide) rfl
      exact W.iret (v := x12) hx hb hr (fun t ht hW => ⟨⟨x12, (), rfl, trivial, by rw [ht]; exact hP9, hD9⟩, hS.F ht⟩) hS.2.2 dX5_rightWithoutLeak_43
