set_option maxHeartbeats 4000000 in
set_option maxRecDepth 100000 in
theorem c_X2_ready (l : Launch) (dC : Nat → ClassId) (dI : Nat → Nat → Nat) (cI cZ cK : ClassId) (tS : Nat) (aK aV : Nat → Nat) (g : Nat) (k : Nat) (d : Nat) (j : Nat) (gg : Nat) (gup : Int64) (glo : Int64) (gfg : Nat → Int32) (ds : Nat) (dsz : Int32) (dk : Nat) (dw : Nat) (dac : Int32) (dwr : Int32) (dfk : Nat → Int32) (dfw : Nat → Int32) (jd : Nat) (jb : Nat) (jw : Nat) (jl : Nat) (jbad : Int32) (jwhy : Int32) (jleft : Int32) (jday : Int32) (jwarmDay : Int32) (jbagDays : Int32) (jburnt : Int32) (jboiled : Int32) (jfd : Nat → Int32) (ks : Nat) (kw : Nat) (kc : Nat) (kwd : Int32) (kbg : Int32) (kme : Int32) (kq : Nat) (km : Nat) (kd : Nat) (ksi : Int32) (ka : Nat) (kk : Nat) (kfs : Nat → Int32) (kfw : Nat → Int32) (kfq : Nat → Int32) (kfm : Nat → Int32) (sz : Nat) (h_jfd : rg jfd 60 0 13) (h_kfs_4 : 0 ≤ (kfs 4).toInt ∧ (kfs 4).toInt ≤ 13) (h_kfw : rg kfw 14 0 4) (h_dac : 0 ≤ dac.toInt ∧ dac.toInt ≤ 60) : Cv l yX2_ready (wq yX2_ready cX2_ready 4 none) ({ frames := 2, cells := 0, slots := 0, locals := 48 }) dC dI cI cZ cK tS aK aV [.ref g] sz [(g, .inr (2, [.ref k, .ref d, .ref j, .ref gg, .long gup, .long glo])), (gg, .inl (cI, 60, .inl gfg)), (d, .inr (4, [.ref ds, .int dsz, .ref dk, .ref dw, .int dac, .int dwr])), (dk, .inl (cI, 60, .inl dfk)), (dw, .inl (cI, 60, .inl dfw)), (j, .inr (1, [.ref k, .ref d, .ref jd, .ref jb, .ref jw, .ref jl, .int jbad, .int jwhy, .int jleft, .int jday, .int jwarmDay, .int jbagDays, .int jburnt, .int jboiled])), (jd, .inl (cI, 60, .inl jfd)), (k, .inr (0, [.ref ks, .ref kw, .ref kc, .int kwd, .int kbg, .int kme, .ref kq, .ref km, .ref kd, .int ksi, .ref ka, .ref kk])), (ks, .inl (cI, 5, .inl kfs)), (kw, .inl (cI, 14, .inl kfw)), (kq, .inl (cI, 6, .inl kfq)), (km, .inl (cI, 6, .inl kfm))] (fun (u : (Nat → Nat → Int32) × (Nat → Int32) × (Nat → Int64)) => True) (fun u => [(g, .inr (2, [.ref k, .ref d, .ref j, .ref gg, .long gup, .long glo])), (gg, .inl (cI, 60, .inl (u.1 0))), (d, .inr (4, [.ref ds, .int dsz, .ref dk, .ref dw, .int dac, .int dwr])), (dk, .inl (cI, 60, .inl dfk)), (dw, .inl (cI, 60, .inl dfw)), (j, .inr (1, [.ref k, .ref d, .ref jd, .ref jb, .ref jw, .ref jl, .int jbad, .int jwhy, .int jleft, .int jday, .int jwarmDay, .int jbagDays, .int jburnt, .int jboiled])), (jd, .inl (cI, 60, .inl jfd)), (k, .inr (0, [.ref ks, .ref kw, .ref kc, .int kwd, .int kbg, .int kme, .ref kq, .ref km, .ref kd, .int ksi, .ref ka, .ref kk])), (ks, .inl (cI, 5, .inl kfs)), (kw, .inl (cI, 14, .inl kfw)), (kq, .inl (cI, 6, .inl kfq)), (km, .inl (cI, 6, .inl kfm))]) := by
  refine Met.ofW (cc := cX2_ready) (maxL := 4) (ret := none) (by decide) rfl ?_
  intro p e s m args below meth c s₁ B hml hv
  obtain ⟨rfl, hsz, hP, hKx, hD0⟩ := hv
  have hx := B.exec
  have hb := B.bytes
  have hr := B.returns
  have hts := atoms_spec (ws := wq yX2_ready cX2_ready 4 none) B.pre
  have hown : s.vm.findClass RX2 = some m.cls := findClass_of_methodNamed B.named
  have hlocks := B.notSynchronized
  subst hsz
  have hD := hD0.self (sz := s.heap.size)
  generalize hAe : va_A [(g, .inr (2, [.ref k, .ref d, .ref j, .ref gg, .long gup, .long glo])), (gg, .inl (cI, 60, .inl gfg)), (d, .inr (4, [.ref ds, .int dsz, .ref dk, .ref dw, .int dac, .int dwr])), (dk, .inl (cI, 60, .inl dfk)), (dw, .inl (cI, 60, .inl dfw)), (j, .inr (1, [.ref k, .ref d, .ref jd, .ref jb, .ref jw, .ref jl, .int jbad, .int jwhy, .int jleft, .int jday, .int jwarmDay, .int jbagDays, .int jburnt, .int jboiled])), (jd, .inl (cI, 60, .inl jfd)), (k, .inr (0, [.ref ks, .ref kw, .ref kc, .int kwd, .int kbg, .int kme, .ref kq, .ref km, .ref kd, .int ksi, .ref ka, .ref kk])), (ks, .inl (cI, 5, .inl kfs)), (kw, .inl (cI, 14, .inl kfw)), (kq, .inl (cI, 6, .inl kfq)), (km, .inl (cI, 6, .inl kfm))] s.heap.size = A at hD hKx ⊢
  have hA : ∀ q : Nat, s.heap.size ≤ q → A q := fun q h => by rw [← hAe]; exact Or.inr h
  have hS : va_S A s.heap s.heap [] := va_S.rf
  have hP : va_P (dC, dI) vwCl [(g, .inr (2, [.ref k, .ref d, .ref j, .ref gg, .long gup, .long glo])), (gg, .inl (cI, 60, .inl gfg)), (d, .inr (4, [.ref ds, .int dsz, .ref dk, .ref dw, .int dac, .int dwr])), (dk, .inl (cI, 60, .inl dfk)), (dw, .inl (cI, 60, .inl dfw)), (j, .inr (1, [.ref k, .ref d, .ref jd, .ref jb, .ref jw, .ref jl, .int jbad, .int jwhy, .int jleft, .int jday, .int jwarmDay, .int jbagDays, .int jburnt, .int jboiled])), (jd, .inl (cI, 60, .inl jfd)), (k, .inr (0, [.ref ks, .ref kw, .ref kc, .int kwd, .int kbg, .int kme, .ref kq, .ref km, .ref kd, .int ksi, .ref ka, .ref kk])), (ks, .inl (cI, 5, .inl kfs)), (kw, .inl (cI, 14, .inl kfw)), (kq, .inl (cI, 6, .inl kfq)), (km, .inl (cI, 6, .inl kfm))] s.heap := hP
  have hl := lv_entry ([.ref g]) (n := 4) (Nat.le_of_ble_eq_true rfl)
  rw [lg_entry_eq]
  generalize (lg_sl ([.ref g]) ++ List.replicate (4 - (lg_sl ([.ref g])).length) Slot.unset).toArray = ls at hl ⊢
  have hl : lv_has ls 4 [(0, .ref g)] := hl
  have hK := hKx.1
  have hin2 := fun w9 h9 => List.mem_cons_of_mem (Cond.code yX2_ready cX2_ready 4 none) (inlX2 w9 h9)
  have hin4 := fun w9 h9 => List.mem_cons_of_mem (Cond.code yX2_ready cX2_ready 4 none) (inlX4 w9 h9)
  have hin1 := fun w9 h9 => List.mem_cons_of_mem (Cond.code yX2_ready cX2_ready 4 none) (inlX1 w9 h9)
  have hw0 := hts (.fieldLink RX2 19 "OneCan$Gusts" "pad" "LOneCan$Pad;") (List.mem_cons_of_mem _ wm_101)
  have hw1 := hts (.fieldLink RX2 63 "OneCan$Pad" "acts" "I") (List.mem_cons_of_mem _ wm_859)
  have hw2 := hts (.fieldLink RX2 71 "OneCan$Pad" "kinds" "[I") (List.mem_cons_of_mem _ wm_860)
  have hw3 := hts (.fieldLink RX2 15 "OneCan$Gusts" "camp" "LOneCan$Camp;") (List.mem_cons_of_mem _ wm_100)
  have hw4 := hts (.fieldLink RX2 23 "OneCan$Gusts" "course" "LOneCan$Course;") (List.mem_cons_of_mem _ wm_102)
  have hw5 := hts (.fieldLink RX2 74 "OneCan$Course" "days" "[I") (List.mem_cons_of_mem _ wm_861)
  have hw6 := hts (.fieldLink RX2 9 "OneCan$Gusts" "gusty" "[I") (List.mem_cons_of_mem _ wm_99)
  have hw7 := hts (.fieldLink RX2 83 "OneCan$Pad" "ways" "[I") (List.mem_cons_of_mem _ wm_862)
  refine lv_iconst (v := 0) hx hb dX2_ready_0 (by decide) ?_
  refine lv_istore_n (lv' := [(1, .int 0), (0, .ref g)]) hx hb dX2_ready_1 rfl hl (by decide) rfl (fun ls hl => ?_)
  have z2 : (0 : Int32).toInt = 0 := rfl
  have hl0 := hl
  clear hl
  obtain ⟨H, hHe⟩ : ∃ H : Heap, H = s.heap := ⟨_, rfl⟩
  obtain ⟨locs, hlo⟩ : ∃ l : List Loc, l = [] := ⟨_, rfl⟩
  replace hP : va_P (dC, dI) vwCl [(g, .inr (2, [.ref k, .ref d, .ref j, .ref gg, .long gup, .long glo])), (gg, .inl (cI, 60, .inl gfg)), (d, .inr (4, [.ref ds, .int dsz, .ref dk, .ref dw, .int dac, .int dwr])), (dk, .inl (cI, 60, .inl dfk)), (dw, .inl (cI, 60, .inl dfw)), (j, .inr (1, [.ref k, .ref d, .ref jd, .ref jb, .ref jw, .ref jl, .int jbad, .int jwhy, .int jleft, .int jday, .int jwarmDay, .int jbagDays, .int jburnt, .int jboiled])), (jd, .inl (cI, 60, .inl jfd)), (k, .inr (0, [.ref ks, .ref kw, .ref kc, .int kwd, .int kbg, .int kme, .ref kq, .ref km, .ref kd, .int ksi, .ref ka, .ref kk])), (ks, .inl (cI, 5, .inl kfs)), (kw, .inl (cI, 14, .inl kfw)), (kq, .inl (cI, 6, .inl kfq)), (km, .inl (cI, 6, .inl kfm))] H := by rw [hHe]; exact hP
  replace hS : va_S A s.heap H locs := by rw [hHe, hlo]; exact hS
  rw [← hHe, ← hlo]
  clear hHe hlo
  have hP0 := hP
  clear hP
  have hD0 := hD
  clear hD
  obtain ⟨y1, ygg, ex, hl, hP, hD⟩ : ∃ (y1 : Int32) (ygg : Nat → Int32), (0 ≤ y1.toInt ∧ y1.toInt ≤ dac.toInt) ∧ lv_has ls 4 [(1, .int y1), (0, .ref g)] ∧ va_P (dC, dI) vwCl [(g, .inr (2, [.ref k, .ref d, .ref j, .ref gg, .long gup, .long glo])), (gg, .inl (cI, 60, .inl ygg)), (d, .inr (4, [.ref ds, .int dsz, .ref dk, .ref dw, .int dac, .int dwr])), (dk, .inl (cI, 60, .inl dfk)), (dw, .inl (cI, 60, .inl dfw)), (j, .inr (1, [.ref k, .ref d, .ref jd, .ref jb, .ref jw, .ref jl, .int jbad, .int jwhy, .int jleft, .int jday, .int jwarmDay, .int jbagDays, .int jburnt, .int jboiled])), (jd, .inl (cI, 60, .inl jfd)), (k, .inr (0, [.ref ks, .ref kw, .ref kc, .int kwd, .int kbg, .int kme, .ref kq, .ref km, .ref kd, .int ksi, .ref ka, .ref kk])), (ks, .inl (cI, 5, .inl kfs)), (kw, .inl (cI, 14, .inl kfw)), (kq, .inl (cI, 6, .inl kfq)), (km, .inl (cI, 6, .inl kfm))] H ∧ va_D A [(g, .inr (2, [.ref k, .ref d, .ref j, .ref gg, .long gup, .long glo])), (gg, .inl (cI, 60, .inl ygg)), (d, .inr (4, [.ref ds, .int dsz, .ref dk, .ref dw, .int dac, .int dwr])), (dk, .inl (cI, 60, .inl dfk)), (dw, .inl (cI, 60, .inl dfw)), (j, .inr (1, [.ref k, .ref d, .ref jd, .ref jb, .ref jw, .ref jl, .int jbad, .int jwhy, .int jleft, .int jday, .int jwarmDay, .int jbagDays, .int jburnt, .int jboiled])), (jd, .inl (cI, 60, .inl jfd)), (k, .inr (0, [.ref ks, .ref kw, .ref kc, .int kwd, .int kbg, .int kme, .ref kq, .ref km, .ref kd, .int ksi, .ref ka, .ref kk])), (ks, .inl (cI, 5, .inl kfs)), (kw, .inl (cI, 14, .inl kfw)), (kq, .inl (cI, 6, .inl kfq)), (km, .inl (cI, 6, .inl kfm))] := ⟨0, gfg, by omega, hl0, hP0, hD0⟩
  clear hl0 hP0 hD0
  obtain ⟨n1, hn⟩ : ∃ n : Nat, (n : Int) = dac.toInt - y1.toInt := ⟨(dac.toInt - y1.toInt).toNat, by omega⟩
  induction n1 generalizing y1 ygg ls H locs with
  | zero =>
    skip
    refine lv_iload_n hx hb dX2_ready_2 rfl (lv_at hl 0 rfl) ?_
    refine lv_aload_n hx hb dX2_ready_3 rfl (lv_at hl 1 rfl) ?_
    refine va_get (D := (dC, dI)) (ci := 2) (v := .ref d) (C := RX2) (T := TX2) (N := 6) hx hb hts hin2 hown hK hP 0 rfl rfl 1 (by decide) hw0 (fun _ h9 => h9) rfl dX2_ready_4 ?_
    refine va_get (D := (dC, dI)) (ci := 4) (v := .int dac) (C := RX4) (T := TX4) (N := 6) hx hb hts hin4 hown hK hP 2 rfl rfl 4 (by decide) hw1 (fun _ h9 => h9) rfl dX2_ready_7 ?_
    refine lv_icmp_ge (tgt := 86) hx hb dX2_ready_10 (by decide) (fun c3 => ?_) (fun c3 => by exfalso; have t3 : y1.toInt < dac.toInt := (tnle c3); omega)
    have hP9 := mx_subP (wc := [(g, .inr (2, [.ref k, .ref d, .ref j, .ref gg, .long gup, .long glo])), (gg, .inl (cI, 60, .inl ygg)), (d, .inr (4, [.ref ds, .int dsz, .ref dk, .ref dw, .int dac, .int dwr])), (dk, .inl (cI, 60, .inl dfk)), (dw, .inl (cI, 60, .inl dfw)), (j, .inr (1, [.ref k, .ref d, .ref jd, .ref jb, .ref jw, .ref jl, .int jbad, .int jwhy, .int jleft, .int jday, .int jwarmDay, .int jbagDays, .int jburnt, .int jboiled])), (jd, .inl (cI, 60, .inl jfd)), (k, .inr (0, [.ref ks, .ref kw, .ref kc, .int kwd, .int kbg, .int kme, .ref kq, .ref km, .ref kd, .int ksi, .ref ka, .ref kk])), (ks, .inl (cI, 5, .inl kfs)), (kw, .inl (cI, 14, .inl kfw)), (kq, .inl (cI, 6, .inl kfq)), (km, .inl (cI, 6, .inl kfm))]) hP [0, 1, 2, 3, 4, 5, 6, 7, 8, 9, 10, 11] rfl
    have hD9 := hD.sub (ws' := [(g, .inr (2, [.ref k, .ref d, .ref j, .ref gg, .long gup, .long glo])), (gg, .inl (cI, 60, .inl ygg)), (d, .inr (4, [.ref ds, .int dsz, .ref dk, .ref dw, .int dac, .int dwr])), (dk, .inl (cI, 60, .inl dfk)), (dw, .inl (cI, 60, .inl dfw)), (j, .inr (1, [.ref k, .ref d, .ref jd, .ref jb, .ref jw, .ref jl, .int jbad, .int jwhy, .int jleft, .int jday, .int jwarmDay, .int jbagDays, .int jburnt, .int jboiled])), (jd, .inl (cI, 60, .inl jfd)), (k, .inr (0, [.ref ks, .ref kw, .ref kc, .int kwd, .int kbg, .int kme, .ref kq, .ref km, .ref kd, .int ksi, .ref ka, .ref kk])), (ks, .inl (cI, 5, .inl kfs)), (kw, .inl (cI, 14, .inl kfw)), (kq, .inl (cI, 6, .inl kfq)), (km, .inl (cI, 6, .inl kfm))]) [0, 1, 2, 3, 4, 5, 6, 7, 8, 9, 10, 11] (by decide) rfl
    exact W.vret hx hb hr (fun t ht hW => ⟨⟨((fun u9 => ([ygg] : List (Nat → Int32)).getD u9 (fun _ => 0)), (fun u9 => ([] : List Int32).getD u9 0), (fun u9 => ([] : List Int64).getD u9 0)), rfl, trivial, by rw [ht]; exact hP9, hD9⟩, hS.F ht⟩) hS.2.2 dX2_ready_86
  | succ n1 ih =>
    skip
    refine lv_iload_n hx hb dX2_ready_2 rfl (lv_at hl 0 rfl) ?_
    refine lv_aload_n hx hb dX2_ready_3 rfl (lv_at hl 1 rfl) ?_
    refine va_get (D := (dC, dI)) (ci := 2) (v := .ref d) (C := RX2) (T := TX2) (N := 6) hx hb hts hin2 hown hK hP 0 rfl rfl 1 (by decide) hw0 (fun _ h9 => h9) rfl dX2_ready_4 ?_
    refine va_get (D := (dC, dI)) (ci := 4) (v := .int dac) (C := RX4) (T := TX4) (N := 6) hx hb hts hin4 hown hK hP 2 rfl rfl 4 (by decide) hw1 (fun _ h9 => h9) rfl dX2_ready_7 ?_
    refine lv_icmp_ge (tgt := 86) hx hb dX2_ready_10 (by decide) (fun c4 => by exfalso; have t4 : dac.toInt ≤ y1.toInt := (tle c4); omega) (fun c4 => ?_)
    refine lv_aload_n hx hb dX2_ready_13 rfl (lv_at hl 1 rfl) ?_
    refine va_get (D := (dC, dI)) (ci := 2) (v := .ref d) (C := RX2) (T := TX2) (N := 6) hx hb hts hin2 hown hK hP 0 rfl rfl 1 (by decide) hw0 (fun _ h9 => h9) rfl dX2_ready_14 ?_
    refine va_get (D := (dC, dI)) (ci := 4) (v := .ref dk) (C := RX4) (T := TX4) (N := 6) hx hb hts hin4 hown hK hP 2 rfl rfl 2 (by decide) hw2 (fun _ h9 => h9) rfl dX2_ready_17 ?_
    refine lv_iload_n hx hb dX2_ready_20 rfl (lv_at hl 0 rfl) ?_
    refine va_iald hx hb hK hP 3 0 rfl rfl (vin (by omega) (by omega)) dX2_ready_21 ?_
    refine lv_topi (fun x5 e5 => ?_)
    refine lv_istore_n (lv' := [(2, .int x5), (1, .int y1), (0, .ref g)]) hx hb dX2_ready_22 rfl hl (by decide) rfl (fun ls hl => ?_)
    refine lv_aload_n hx hb dX2_ready_23 rfl (lv_at hl 2 rfl) ?_
    refine va_get (D := (dC, dI)) (ci := 2) (v := .ref k) (C := RX2) (T := TX2) (N := 6) hx hb hts hin2 hown hK hP 0 rfl rfl 0 (by decide) hw3 (fun _ h9 => h9) rfl dX2_ready_24 ?_
    refine lv_aload_n hx hb dX2_ready_27 rfl (lv_at hl 2 rfl) ?_
    refine va_get (D := (dC, dI)) (ci := 2) (v := .ref j) (C := RX2) (T := TX2) (N := 6) hx hb hts hin2 hown hK hP 0 rfl rfl 2 (by decide) hw4 (fun _ h9 => h9) rfl dX2_ready_28 ?_
    refine va_get (D := (dC, dI)) (ci := 1) (v := .ref jd) (C := RX1) (T := TX1) (N := 14) hx hb hts hin1 hown hK hP 5 rfl rfl 2 (by decide) hw5 (fun _ h9 => h9) rfl dX2_ready_31 ?_
    refine lv_iload_n hx hb dX2_ready_34 rfl (lv_at hl 1 rfl) ?_
    refine va_iald hx hb hK hP 6 0 rfl rfl (vin (by omega) (by omega)) dX2_ready_35 ?_
    refine lv_topi (fun x6 e6 => ?_)
    have g6 : 0 ≤ x6.toInt ∧ x6.toInt ≤ 13 := by rw [e6]; exact rgI h_jfd (by omega) (by omega)
    refine lv_iconst (v := 2) hx hb dX2_ready_36 (by decide) ?_
    refine mx_i (wr := [(g, .inr (2, [.ref k, .ref d, .ref j, .ref gg, .long gup, .long glo])), (gg, .inl (cI, 60, .inl ygg)), (d, .inr (4, [.ref ds, .int dsz, .ref dk, .ref dw, .int dac, .int dwr])), (dk, .inl (cI, 60, .inl dfk)), (dw, .inl (cI, 60, .inl dfw)), (j, .inr (1, [.ref k, .ref d, .ref jd, .ref jb, .ref jw, .ref jl, .int jbad, .int jwhy, .int jleft, .int jday, .int jwarmDay, .int jbagDays, .int jburnt, .int jboiled])), (jd, .inl (cI, 60, .inl jfd)), (kq, .inl (cI, 6, .inl kfq)), (km, .inl (cI, 6, .inl kfm))]) (va_runV (As := [.int x6, .int 2]) (rest := []) ⟨hx, hb, hml, hown, hts⟩ (c_X0_windOn l dC dI cI cZ cK tS aK aV k x6 2 ks kw kc kwd kbg kme kq km kd ksi ka kk kfs kfw H.size (by have z8 : (2 : Int32).toInt = 2 := rfl; first | omega | decide | assumption | trivial) h_kfw (by have z8 : (2 : Int32).toInt = 2 := rfl; first | omega | decide | assumption | trivial) (by have z8 : (2 : Int32).toInt = 2 := rfl; first | omega | decide | assumption | trivial)) (cwV 2 hts (gw_v (fun _ h9 => List.mem_cons_of_mem _ h9) wm_863 wm_384 wm_385 wm_14 wm_386) rfl rfl rfl (by decide +kernel) ⟨Nat.le_of_ble_eq_true rfl, Nat.le_of_ble_eq_true rfl⟩) (mx_preV (C := RX0) (T := TX0) (N := 12) (ci := 0) hKx hP hD hS hA [7, 8, 9] (by decide) rfl rfl rfl) rfl rfl hl.1 rfl (lv_room (Nat.le_of_ble_eq_true rfl)) dX2_ready_37 ⟨Nat.le_of_ble_eq_true rfl, Nat.le_of_ble_eq_true rfl⟩) hP hD hS hA [7, 8, 9] [0, 1, 2, 3, 4, 5, 6, 10, 11] rfl rfl (by decide) (by decide) (fun r7 u7 H locs hq7 hP hD hS => ?_)
    replace hP : va_P (dC, dI) vwCl [(g, .inr (2, [.ref k, .ref d, .ref j, .ref gg, .long gup, .long glo])), (gg, .inl (cI, 60, .inl ygg)), (d, .inr (4, [.ref ds, .int dsz, .ref dk, .ref dw, .int dac, .int dwr])), (dk, .inl (cI, 60, .inl dfk)), (dw, .inl (cI, 60, .inl dfw)), (j, .inr (1, [.ref k, .ref d, .ref jd, .ref jb, .ref jw, .ref jl, .int jbad, .int jwhy, .int jleft, .int jday, .int jwarmDay, .int jbagDays, .int jburnt, .int jboiled])), (jd, .inl (cI, 60, .inl jfd)), (kq, .inl (cI, 6, .inl kfq)), (km, .inl (cI, 6, .inl kfm)), (k, .inr (0, [.ref ks, .ref kw, .ref kc, .int kwd, .int kbg, .int kme, .ref kq, .ref km, .ref kd, .int ksi, .ref ka, .ref kk])), (ks, .inl (cI, 5, .inl kfs)), (kw, .inl (cI, 14, .inl kfw))] H := hP
    replace hD : va_D A [(g, .inr (2, [.ref k, .ref d, .ref j, .ref gg, .long gup, .long glo])), (gg, .inl (cI, 60, .inl ygg)), (d, .inr (4, [.ref ds, .int dsz, .ref dk, .ref dw, .int dac, .int dwr])), (dk, .inl (cI, 60, .inl dfk)), (dw, .inl (cI, 60, .inl dfw)), (j, .inr (1, [.ref k, .ref d, .ref jd, .ref jb, .ref jw, .ref jl, .int jbad, .int jwhy, .int jleft, .int jday, .int jwarmDay, .int jbagDays, .int jburnt, .int jboiled])), (jd, .inl (cI, 60, .inl jfd)), (kq, .inl (cI, 6, .inl kfq)), (km, .inl (cI, 6, .inl kfm)), (k, .inr (0, [.ref ks, .ref kw, .ref kc, .int kwd, .int kbg, .int kme, .ref kq, .ref km, .ref kd, .int ksi, .ref ka, .ref kk])), (ks, .inl (cI, 5, .inl kfs)), (kw, .inl (cI, 14, .inl kfw))] := hD
    obtain ⟨hx7_0, hr7⟩ := hq7
    replace hx7_0 : (2 : Int32).toInt ≠ 0 ∨ r7 = woF (kfs 3) (kfw x6.toNatClampNeg) := hx7_0
    refine lv_istore_n (lv' := [(3, .int r7), (2, .int x5), (1, .int y1), (0, .ref g)]) hx hb dX2_ready_40 rfl hl (by decide) rfl (fun ls hl => ?_)
    refine lv_aload_n hx hb dX2_ready_41 rfl (lv_at hl 3 rfl) ?_
    refine va_get (D := (dC, dI)) (ci := 2) (v := .ref gg) (C := RX2) (T := TX2) (N := 6) hx hb hts hin2 hown hK hP 0 rfl rfl 3 (by decide) hw6 (fun _ h9 => h9) rfl dX2_ready_42 ?_
    refine lv_iload_n hx hb dX2_ready_45 rfl (lv_at hl 2 rfl) ?_
    refine lv_aload_n hx hb dX2_ready_46 rfl (lv_at hl 3 rfl) ?_
    refine va_get (D := (dC, dI)) (ci := 2) (v := .ref k) (C := RX2) (T := TX2) (N := 6) hx hb hts hin2 hown hK hP 0 rfl rfl 0 (by decide) hw3 (fun _ h9 => h9) rfl dX2_ready_47 ?_
    refine lv_iload_n hx hb dX2_ready_50 rfl (lv_at hl 1 rfl) ?_
    refine mx_i (wr := [(g, .inr (2, [.ref k, .ref d, .ref j, .ref gg, .long gup, .long glo])), (gg, .inl (cI, 60, .inl ygg)), (d, .inr (4, [.ref ds, .int dsz, .ref dk, .ref dw, .int dac, .int dwr])), (dk, .inl (cI, 60, .inl dfk)), (dw, .inl (cI, 60, .inl dfw)), (j, .inr (1, [.ref k, .ref d, .ref jd, .ref jb, .ref jw, .ref jl, .int jbad, .int jwhy, .int jleft, .int jday, .int jwarmDay, .int jbagDays, .int jburnt, .int jboiled])), (jd, .inl (cI, 60, .inl jfd)), (kq, .inl (cI, 6, .inl kfq)), (km, .inl (cI, 6, .inl kfm)), (ks, .inl (cI, 5, .inl kfs)), (kw, .inl (cI, 14, .inl kfw))]) (va_runV (As := [.int x5]) (rest := [.int y1, .ref gg]) ⟨hx, hb, hml, hown, hts⟩ (c_X0_has l dC dI cI cZ cK tS aK aV k x5 ks kw kc kwd kbg kme kq km kd ksi ka kk H.size) (cwV 1 hts (gw_v (fun _ h9 => List.mem_cons_of_mem _ h9) wm_864 wm_379 wm_380 wm_14 wm_381) rfl rfl rfl (by decide +kernel) ⟨Nat.le_of_ble_eq_true rfl, Nat.le_of_ble_eq_true rfl⟩) (mx_preV (C := RX0) (T := TX0) (N := 12) (ci := 0) hKx hP hD hS hA [9] (by decide) rfl rfl rfl) rfl rfl hl.1 rfl (lv_room (Nat.le_of_ble_eq_true rfl)) dX2_ready_51 ⟨Nat.le_of_ble_eq_true rfl, Nat.le_of_ble_eq_true rfl⟩) hP hD hS hA [9] [0, 1, 2, 3, 4, 5, 6, 7, 8, 10, 11] rfl rfl (by decide) (by decide) (fun r8 u8 H locs hq8 hP hD hS => ?_)
    replace hP : va_P (dC, dI) vwCl [(g, .inr (2, [.ref k, .ref d, .ref j, .ref gg, .long gup, .long glo])), (gg, .inl (cI, 60, .inl ygg)), (d, .inr (4, [.ref ds, .int dsz, .ref dk, .ref dw, .int dac, .int dwr])), (dk, .inl (cI, 60, .inl dfk)), (dw, .inl (cI, 60, .inl dfw)), (j, .inr (1, [.ref k, .ref d, .ref jd, .ref jb, .ref jw, .ref jl, .int jbad, .int jwhy, .int jleft, .int jday, .int jwarmDay, .int jbagDays, .int jburnt, .int jboiled])), (jd, .inl (cI, 60, .inl jfd)), (kq, .inl (cI, 6, .inl kfq)), (km, .inl (cI, 6, .inl kfm)), (ks, .inl (cI, 5, .inl kfs)), (kw, .inl (cI, 14, .inl kfw)), (k, .inr (0, [.ref ks, .ref kw, .ref kc, .int kwd, .int kbg, .int kme, .ref kq, .ref km, .ref kd, .int ksi, .ref ka, .ref kk]))] H := hP
    replace hD : va_D A [(g, .inr (2, [.ref k, .ref d, .ref j, .ref gg, .long gup, .long glo])), (gg, .inl (cI, 60, .inl ygg)), (d, .inr (4, [.ref ds, .int dsz, .ref dk, .ref dw, .int dac, .int dwr])), (dk, .inl (cI, 60, .inl dfk)), (dw, .inl (cI, 60, .inl dfw)), (j, .inr (1, [.ref k, .ref d, .ref jd, .ref jb, .ref jw, .ref jl, .int jbad, .int jwhy, .int jleft, .int jday, .int jwarmDay, .int jbagDays, .int jburnt, .int jboiled])), (jd, .inl (cI, 60, .inl jfd)), (kq, .inl (cI, 6, .inl kfq)), (km, .inl (cI, 6, .inl kfm)), (ks, .inl (cI, 5, .inl kfs)), (kw, .inl (cI, 14, .inl kfw)), (k, .inr (0, [.ref ks, .ref kw, .ref kc, .int kwd, .int kbg, .int kme, .ref kq, .ref km, .ref kd, .int ksi, .ref ka, .ref kk]))] := hD
    obtain ⟨hx8_0, hr8⟩ := hq8
    replace hx8_0 : r8 = hsF kme x5 := hx8_0
    rcases hr8 with ⟨rfl, hf8⟩ | ⟨rfl, hf8⟩
    · have hf8 : 0 ≤ x5.toInt ∧ x5.toInt ≤ 5 := hf8
      refine lv_if_eq (tgt := 78) hx hb dX2_ready_54 (by decide) (fun c9 => absurd c9 (by decide)) (fun c9 => ?_)
      refine lv_aload_n hx hb dX2_ready_57 rfl (lv_at hl 3 rfl) ?_
      refine va_get (D := (dC, dI)) (ci := 2) (v := .ref k) (C := RX2) (T := TX2) (N := 6) hx hb hts hin2 hown hK hP 0 rfl rfl 0 (by decide) hw3 (fun _ h9 => h9) rfl dX2_ready_58 ?_
      refine lv_iload_n hx hb dX2_ready_61 rfl (lv_at hl 1 rfl) ?_
      refine lv_iload_n hx hb dX2_ready_62 rfl (lv_at hl 0 rfl) ?_
      refine lv_aload_n hx hb dX2_ready_63 rfl (lv_at hl 3 rfl) ?_
      refine va_get (D := (dC, dI)) (ci := 2) (v := .ref d) (C := RX2) (T := TX2) (N := 6) hx hb hts hin2 hown hK hP 0 rfl rfl 1 (by decide) hw0 (fun _ h9 => h9) rfl dX2_ready_64 ?_
      refine va_get (D := (dC, dI)) (ci := 4) (v := .ref dw) (C := RX4) (T := TX4) (N := 6) hx hb hts hin4 hown hK hP 2 rfl rfl 3 (by decide) hw7 (fun _ h9 => h9) rfl dX2_ready_67 ?_
      refine lv_iload_n hx hb dX2_ready_70 rfl (lv_at hl 2 rfl) ?_
      refine va_iald hx hb hK hP 4 0 rfl rfl (vin (by omega) (by omega)) dX2_ready_71 ?_
      refine lv_topi (fun x10 e10 => ?_)
      refine mx_i (wr := [(g, .inr (2, [.ref k, .ref d, .ref j, .ref gg, .long gup, .long glo])), (gg, .inl (cI, 60, .inl ygg)), (d, .inr (4, [.ref ds, .int dsz, .ref dk, .ref dw, .int dac, .int dwr])), (dk, .inl (cI, 60, .inl dfk)), (dw, .inl (cI, 60, .inl dfw)), (j, .inr (1, [.ref k, .ref d, .ref jd, .ref jb, .ref jw, .ref jl, .int jbad, .int jwhy, .int jleft, .int jday, .int jwarmDay, .int jbagDays, .int jburnt, .int jboiled])), (jd, .inl (cI, 60, .inl jfd)), (ks, .inl (cI, 5, .inl kfs)), (kw, .inl (cI, 14, .inl kfw))]) (va_runV (As := [.int x5, .int r7, .int x10]) (rest := [.int y1, .ref gg]) ⟨hx, hb, hml, hown, hts⟩ (c_X0_toBoil l dC dI cI cZ cK tS aK aV k x5 r7 x10 ks kw kc kwd kbg kme kq km kd ksi ka kk kfq kfm H.size (by first | omega | decide | assumption | trivial)) (cwV 3 hts (gw_v (fun _ h9 => List.mem_cons_of_mem _ h9) wm_865 wm_390 wm_391 wm_14 wm_392) rfl rfl rfl (by decide +kernel) ⟨Nat.le_of_ble_eq_true rfl, Nat.le_of_ble_eq_true rfl⟩) (mx_preV (C := RX0) (T := TX0) (N := 12) (ci := 0) hKx hP hD hS hA [11, 7, 8] (by decide) rfl rfl rfl) rfl rfl hl.1 rfl (lv_room (Nat.le_of_ble_eq_true rfl)) dX2_ready_72 ⟨Nat.le_of_ble_eq_true rfl, Nat.le_of_ble_eq_true rfl⟩) hP hD hS hA [11, 7, 8] [0, 1, 2, 3, 4, 5, 6, 9, 10] rfl rfl (by decide) (by decide) (fun r11 u11 H locs hq11 hP hD hS => ?_)
      replace hP : va_P (dC, dI) vwCl [(g, .inr (2, [.ref k, .ref d, .ref j, .ref gg, .long gup, .long glo])), (gg, .inl (cI, 60, .inl ygg)), (d, .inr (4, [.ref ds, .int dsz, .ref dk, .ref dw, .int dac, .int dwr])), (dk, .inl (cI, 60, .inl dfk)), (dw, .inl (cI, 60, .inl dfw)), (j, .inr (1, [.ref k, .ref d, .ref jd, .ref jb, .ref jw, .ref jl, .int jbad, .int jwhy, .int jleft, .int jday, .int jwarmDay, .int jbagDays, .int jburnt, .int jboiled])), (jd, .inl (cI, 60, .inl jfd)), (ks, .inl (cI, 5, .inl kfs)), (kw, .inl (cI, 14, .inl kfw)), (k, .inr (0, [.ref ks, .ref kw, .ref kc, .int kwd, .int kbg, .int kme, .ref kq, .ref km, .ref kd, .int ksi, .ref ka, .ref kk])), (kq, .inl (cI, 6, .inl kfq)), (km, .inl (cI, 6, .inl kfm))] H := hP
      replace hD : va_D A [(g, .inr (2, [.ref k, .ref d, .ref j, .ref gg, .long gup, .long glo])), (gg, .inl (cI, 60, .inl ygg)), (d, .inr (4, [.ref ds, .int dsz, .ref dk, .ref dw, .int dac, .int dwr])), (dk, .inl (cI, 60, .inl dfk)), (dw, .inl (cI, 60, .inl dfw)), (j, .inr (1, [.ref k, .ref d, .ref jd, .ref jb, .ref jw, .ref jl, .int jbad, .int jwhy, .int jleft, .int jday, .int jwarmDay, .int jbagDays, .int jburnt, .int jboiled])), (jd, .inl (cI, 60, .inl jfd)), (ks, .inl (cI, 5, .inl kfs)), (kw, .inl (cI, 14, .inl kfw)), (k, .inr (0, [.ref ks, .ref kw, .ref kc, .int kwd, .int kbg, .int kme, .ref kq, .ref km, .ref kd, .int ksi, .ref ka, .ref kk])), (kq, .inl (cI, 6, .inl kfq)), (km, .inl (cI, 6, .inl kfm))] := hD
      have hx11_0 := hq11
      replace hx11_0 : r11 = tbF (kfq x5.toNatClampNeg) (kfm x5.toNatClampNeg) r7 x10 := hx11_0
      refine lv_goto (tgt := 79) hx hb dX2_ready_75 (by decide) ?_
      refine va_iast hx hb hK hP hD hS 1 0 rfl rfl (vin (by omega) (by omega)) dX2_ready_79 (fun H locs hP hD hS => ?_)
      replace hP : va_P (dC, dI) vwCl [(g, .inr (2, [.ref k, .ref d, .ref j, .ref gg, .long gup, .long glo])), (gg, .inl (cI, 60, .inl (upd ygg y1.toNatClampNeg r11))), (d, .inr (4, [.ref ds, .int dsz, .ref dk, .ref dw, .int dac, .int dwr])), (dk, .inl (cI, 60, .inl dfk)), (dw, .inl (cI, 60, .inl dfw)), (j, .inr (1, [.ref k, .ref d, .ref jd, .ref jb, .ref jw, .ref jl, .int jbad, .int jwhy, .int jleft, .int jday, .int jwarmDay, .int jbagDays, .int jburnt, .int jboiled])), (jd, .inl (cI, 60, .inl jfd)), (ks, .inl (cI, 5, .inl kfs)), (kw, .inl (cI, 14, .inl kfw)), (k, .inr (0, [.ref ks, .ref kw, .ref kc, .int kwd, .int kbg, .int kme, .ref kq, .ref km, .ref kd, .int ksi, .ref ka, .ref kk])), (kq, .inl (cI, 6, .inl kfq)), (km, .inl (cI, 6, .inl kfm))] H := hP
      replace hD : va_D A [(g, .inr (2, [.ref k, .ref d, .ref j, .ref gg, .long gup, .long glo])), (gg, .inl (cI, 60, .inl (upd ygg y1.toNatClampNeg r11))), (d, .inr (4, [.ref ds, .int dsz, .ref dk, .ref dw, .int dac, .int dwr])), (dk, .inl (cI, 60, .inl dfk)), (dw, .inl (cI, 60, .inl dfw)), (j, .inr (1, [.ref k, .ref d, .ref jd, .ref jb, .ref jw, .ref jl, .int jbad, .int jwhy, .int jleft, .int jday, .int jwarmDay, .int jbagDays, .int jburnt, .int jboiled])), (jd, .inl (cI, 60, .inl jfd)), (ks, .inl (cI, 5, .inl kfs)), (kw, .inl (cI, 14, .inl kfw)), (k, .inr (0, [.ref ks, .ref kw, .ref kc, .int kwd, .int kbg, .int kme, .ref kq, .ref km, .ref kd, .int ksi, .ref ka, .ref kk])), (kq, .inl (cI, 6, .inl kfq)), (km, .inl (cI, 6, .inl kfm))] := hD
      obtain ⟨x12, e12⟩ : ∃ y : Int32, y = y1 + Int32.ofInt 1 := ⟨_, rfl⟩
      refine lv_iinc (v := x12) (lv' := [(1, .int x12), (3, .int r7), (2, .int x5), (0, .ref g)]) hx hb dX2_ready_80 hl (k := 2) rfl e12.symm (by decide) rfl (fun ls hl => ?_)
      have f12 : x12.toInt = y1.toInt + 1 := by rw [e12]; exact tinc (by decide) (by have t8 := tb y1; omega) (by have t8 := tb y1; omega)
      refine lv_goto (tgt := 2) hx hb dX2_ready_83 (by decide) ?_
      exact ih (H := H) (locs := locs) (ls := ls) (y1 := x12) (ygg := (upd ygg y1.toNatClampNeg r11)) hS (by omega)  (show lv_has ls 4 [(1, .int x12), (0, .ref g)] from lv_sub hl [0, 3] rfl) (mx_subP (wc := [(g, .inr (2, [.ref k, .ref d, .ref j, .ref gg, .long gup, .long glo])), (gg, .inl (cI, 60, .inl (upd ygg y1.toNatClampNeg r11))), (d, .inr (4, [.ref ds, .int dsz, .ref dk, .ref dw, .int dac, .int dwr])), (dk, .inl (cI, 60, .inl dfk)), (dw, .inl (cI, 60, .inl dfw)), (j, .inr (1, [.ref k, .ref d, .ref jd, .ref jb, .ref jw, .ref jl, .int jbad, .int jwhy, .int jleft, .int jday, .int jwarmDay, .int jbagDays, .int jburnt, .int jboiled])), (jd, .inl (cI, 60, .inl jfd)), (k, .inr (0, [.ref ks, .ref kw, .ref kc, .int kwd, .int kbg, .int kme, .ref kq, .ref km, .ref kd, .int ksi, .ref ka, .ref kk])), (ks, .inl (cI, 5, .inl kfs)), (kw, .inl (cI, 14, .inl kfw)), (kq, .inl (cI, 6, .inl kfq)), (km, .inl (cI, 6, .inl kfm))]) hP [0, 1, 2, 3, 4, 5, 6, 9, 7, 8, 10, 11] rfl) (hD.sub (ws' := [(g, .inr (2, [.ref k, .ref d, .ref j, .ref gg, .long gup, .long glo])), (gg, .inl (cI, 60, .inl (upd ygg y1.toNatClampNeg r11))), (d, .inr (4, [.ref ds, .int dsz, .ref dk, .ref dw, .int dac, .int dwr])), (dk, .inl (cI, 60, .inl dfk)), (dw, .inl (cI, 60, .inl dfw)), (j, .inr (1, [.ref k, .ref d, .ref jd, .ref jb, .ref jw, .ref jl, .int jbad, .int jwhy, .int jleft, .int jday, .int jwarmDay, .int jbagDays, .int jburnt, .int jboiled])), (jd, .inl (cI, 60, .inl jfd)), (k, .inr (0, [.ref ks, .ref kw, .ref kc, .int kwd, .int kbg, .int kme, .ref kq, .ref km, .ref kd, .int ksi, .ref ka, .ref kk])), (ks, .inl (cI, 5, .inl kfs)), (kw, .inl (cI, 14, .inl kfw)), (kq, .inl (cI, 6, .inl kfq)), (km, .inl (cI, 6, .inl kfm))]) [0, 1, 2, 3, 4, 5, 6, 9, 7, 8, 10, 11] (by decide) rfl) (by omega)
    · skip
      refine lv_if_eq (tgt := 78) hx hb dX2_ready_54 (by decide) (fun c13 => ?_) (fun c13 => absurd c13 (by decide))
      refine lv_iconst (v := 0) hx hb dX2_ready_78 (by decide) ?_
      refine va_iast hx hb hK hP hD hS 1 0 rfl rfl (vin (by omega) (by omega)) dX2_ready_79 (fun H locs hP hD hS => ?_)
      replace hP : va_P (dC, dI) vwCl [(g, .inr (2, [.ref k, .ref d, .ref j, .ref gg, .long gup, .long glo])), (gg, .inl (cI, 60, .inl (upd ygg y1.toNatClampNeg 0))), (d, .inr (4, [.ref ds, .int dsz, .ref dk, .ref dw, .int dac, .int dwr])), (dk, .inl (cI, 60, .inl dfk)), (dw, .inl (cI, 60, .inl dfw)), (j, .inr (1, [.ref k, .ref d, .ref jd, .ref jb, .ref jw, .ref jl, .int jbad, .int jwhy, .int jleft, .int jday, .int jwarmDay, .int jbagDays, .int jburnt, .int jboiled])), (jd, .inl (cI, 60, .inl jfd)), (kq, .inl (cI, 6, .inl kfq)), (km, .inl (cI, 6, .inl kfm)), (ks, .inl (cI, 5, .inl kfs)), (kw, .inl (cI, 14, .inl kfw)), (k, .inr (0, [.ref ks, .ref kw, .ref kc, .int kwd, .int kbg, .int kme, .ref kq, .ref km, .ref kd, .int ksi, .ref ka, .ref kk]))] H := hP
      replace hD : va_D A [(g, .inr (2, [.ref k, .ref d, .ref j, .ref gg, .long gup, .long glo])), (gg, .inl (cI, 60, .inl (upd ygg y1.toNatClampNeg 0))), (d, .inr (4, [.ref ds, .int dsz, .ref dk, .ref dw, .int dac, .int dwr])), (dk, .inl (cI, 60, .inl dfk)), (dw, .inl (cI, 60, .inl dfw)), (j, .inr (1, [.ref k, .ref d, .ref jd, .ref jb, .ref jw, .ref jl, .int jbad, .int jwhy, .int jleft, .int jday, .int jwarmDay, .int jbagDays, .int jburnt, .int jboiled])), (jd, .inl (cI, 60, .inl jfd)), (kq, .inl (cI, 6, .inl kfq)), (km, .inl (cI, 6, .inl kfm)), (ks, .inl (cI, 5, .inl kfs)), (kw, .inl (cI, 14, .inl kfw)), (k, .inr (0, [.ref ks, .ref kw, .ref kc, .int kwd, .int kbg, .int kme, .ref kq, .ref km, .ref kd, .int ksi, .ref ka, .ref kk]))] := hD
      obtain ⟨x14, e14⟩ : ∃ y : Int32, y = y1 + Int32.ofInt 1 := ⟨_, rfl⟩
      refine lv_iinc (v := x14) (lv' := [(1, .int x14), (3, .int r7), (2, .int x5), (0, .ref g)]) hx hb dX2_ready_80 hl (k := 2) rfl e14.symm (by decide) rfl (fun ls hl => ?_)
      have f14 : x14.toInt = y1.toInt + 1 := by rw [e14]; exact tinc (by decide) (by have t8 := tb y1; omega) (by have t8 := tb y1; omega)
      refine lv_goto (tgt := 2) hx hb dX2_ready_83 (by decide) ?_
      exact ih (H := H) (locs := locs) (ls := ls) (y1 := x14) (ygg := (upd ygg y1.toNatClampNeg 0)) hS (by omega)  (show lv_has ls 4 [(1, .int x14), (0, .ref g)] from lv_sub hl [0, 3] rfl) (mx_subP (wc := [(g, .inr (2, [.ref k, .ref d, .ref j, .ref gg, .long gup, .long glo])), (gg, .inl (cI, 60, .inl (upd ygg y1.toNatClampNeg 0))), (d, .inr (4, [.ref ds, .int dsz, .ref dk, .ref dw, .int dac, .int dwr])), (dk, .inl (cI, 60, .inl dfk)), (dw, .inl (cI, 60, .inl dfw)), (j, .inr (1, [.ref k, .ref d, .ref jd, .ref jb, .ref jw, .ref jl, .int jbad, .int jwhy, .int jleft, .int jday, .int jwarmDay, .int jbagDays, .int jburnt, .int jboiled])), (jd, .inl (cI, 60, .inl jfd)), (k, .inr (0, [.ref ks, .ref kw, .ref kc, .int kwd, .int kbg, .int kme, .ref kq, .ref km, .ref kd, .int ksi, .ref ka, .ref kk])), (ks, .inl (cI, 5, .inl kfs)), (kw, .inl (cI, 14, .inl kfw)), (kq, .inl (cI, 6, .inl kfq)), (km, .inl (cI, 6, .inl kfm))]) hP [0, 1, 2, 3, 4, 5, 6, 11, 9, 10, 7, 8] rfl) (hD.sub (ws' := [(g, .inr (2, [.ref k, .ref d, .ref j, .ref gg, .long gup, .long glo])), (gg, .inl (cI, 60, .inl (upd ygg y1.toNatClampNeg 0))), (d, .inr (4, [.ref ds, .int dsz, .ref dk, .ref dw, .int dac, .int dwr])), (dk, .inl (cI, 60, .inl dfk)), (dw, .inl (cI, 60, .inl dfw)), (j, .inr (1, [.ref k, .ref d, .ref jd, .ref jb, .ref jw, .ref jl, .int jbad, .int jwhy, .int jleft, .int jday, .int jwarmDay, .int jbagDays, .int jburnt, .int jboiled])), (jd, .inl (cI, 60, .inl jfd)), (k, .inr (0, [.ref ks, .ref kw, .ref kc, .int kwd, .int kbg, .int kme, .ref kq, .ref km, .ref kd, .int ksi, .ref ka, .ref kk])), (ks, .inl (cI, 5, .inl kfs)), (kw, .inl (cI, 14, .inl kfw)), (kq, .inl (cI, 6, .inl kfq)), (km, .inl (cI, 6, .inl kfm))]) [0, 1, 2, 3, 4, 5, 6, 11, 9, 10, 7, 8] (by decide) rfl) (by omega)
set_option maxHeartbeats 4000000 in
set_option maxRecDepth 100000 in
theorem c_X2_lasts (l : Launch) (dC : Nat → ClassId) (dI : Nat → Nat → Nat) (cI cZ cK : ClassId) (tS : Nat) (aK aV : Nat → Nat) (g : Nat) (i0 : Int32) (k : Nat) (d : Nat) (j : Nat) (gg : Nat) (gup : Int64) (glo : Int64) (gfg : Nat → Int32) (ds : Nat) (dsz : Int32) (dk : Nat) (dw : Nat) (dac : Int32) (dwr : Int32) (dfk : Nat → Int32) (jd : Nat) (jb : Nat) (jw : Nat) (jl : Nat) (jbad : Int32) (jwhy : Int32) (jleft : Int32) (jday : Int32) (jwarmDay : Int32) (jbagDays : Int32) (jburnt : Int32) (jboiled : Int32) (jfd : Nat → Int32) (jfb : Nat → Int32) (ks : Nat) (kw : Nat) (kc : Nat) (kwd : Int32) (kbg : Int32) (kme : Int32) (kq : Nat) (km : Nat) (kd : Nat) (ksi : Int32) (ka : Nat) (kk : Nat) (kfs : Nat → Int32) (sz : Nat) (h_jfd : rg jfd 60 0 13) (h_kfs_4 : 0 ≤ (kfs 4).toInt ∧ (kfs 4).toInt ≤ 13) (h_dac : 0 ≤ dac.toInt ∧ dac.toInt ≤ 60) : Ci l yX2_lasts (wq yX2_lasts cX2_lasts 5 (some .boolean)) ({ frames := 1, cells := 0, slots := 0, locals := 21 }) dC dI cI cZ cK tS aK aV [.ref g, .int i0] sz [(g, .inr (2, [.ref k, .ref d, .ref j, .ref gg, .long gup, .long glo])), (gg, .inl (cI, 60, .inl gfg)), (d, .inr (4, [.ref ds, .int dsz, .ref dk, .ref dw, .int dac, .int dwr])), (dk, .inl (cI, 60, .inl dfk)), (j, .inr (1, [.ref k, .ref d, .ref jd, .ref jb, .ref jw, .ref jl, .int jbad, .int jwhy, .int jleft, .int jday, .int jwarmDay, .int jbagDays, .int jburnt, .int jboiled])), (jd, .inl (cI, 60, .inl jfd)), (jb, .inl (cI, 60, .inl jfb)), (k, .inr (0, [.ref ks, .ref kw, .ref kc, .int kwd, .int kbg, .int kme, .ref kq, .ref km, .ref kd, .int ksi, .ref ka, .ref kk])), (ks, .inl (cI, 5, .inl kfs))] (fun (r : Int32) (u : Unit) => ((r = 1 ∧ (True)) ∨ (r = 0 ∧ (True)))) (fun _ => [(g, .inr (2, [.ref k, .ref d, .ref j, .ref gg, .long gup, .long glo])), (gg, .inl (cI, 60, .inl gfg)), (d, .inr (4, [.ref ds, .int dsz, .ref dk, .ref dw, .int dac, .int dwr])), (dk, .inl (cI, 60, .inl dfk)), (j, .inr (1, [.ref k, .ref d, .ref jd, .ref jb, .ref jw, .ref jl, .int jbad, .int jwhy, .int jleft, .int jday, .int jwarmDay, .int jbagDays, .int jburnt, .int jboiled])), (jd, .inl (cI, 60, .inl jfd)), (jb, .inl (cI, 60, .inl jfb)), (k, .inr (0, [.ref ks, .ref kw, .ref kc, .int kwd, .int kbg, .int kme, .ref kq, .ref km, .ref kd, .int ksi, .ref ka, .ref kk])), (ks, .inl (cI, 5, .inl kfs))]) := by
  refine Met.ofW (cc := cX2_lasts) (maxL := 5) (ret := (some .boolean)) (by decide) rfl ?_
  intro p e s m args below meth c s₁ B hml hv
  obtain ⟨rfl, hsz, hP, hKx, hD0⟩ := hv
  have hx := B.exec
  have hb := B.bytes
  have hr := B.returns
  have hts := atoms_spec (ws := wq yX2_lasts cX2_lasts 5 (some .boolean)) B.pre
  have hown : s.vm.findClass RX2 = some m.cls := findClass_of_methodNamed B.named
  have hlocks := B.notSynchronized
  subst hsz
  have hD := hD0.self (sz := s.heap.size)
  generalize hAe : va_A [(g, .inr (2, [.ref k, .ref d, .ref j, .ref gg, .long gup, .long glo])), (gg, .inl (cI, 60, .inl gfg)), (d, .inr (4, [.ref ds, .int dsz, .ref dk, .ref dw, .int dac, .int dwr])), (dk, .inl (cI, 60, .inl dfk)), (j, .inr (1, [.ref k, .ref d, .ref jd, .ref jb, .ref jw, .ref jl, .int jbad, .int jwhy, .int jleft, .int jday, .int jwarmDay, .int jbagDays, .int jburnt, .int jboiled])), (jd, .inl (cI, 60, .inl jfd)), (jb, .inl (cI, 60, .inl jfb)), (k, .inr (0, [.ref ks, .ref kw, .ref kc, .int kwd, .int kbg, .int kme, .ref kq, .ref km, .ref kd, .int ksi, .ref ka, .ref kk])), (ks, .inl (cI, 5, .inl kfs))] s.heap.size = A at hD hKx ⊢
  have hA : ∀ q : Nat, s.heap.size ≤ q → A q := fun q h => by rw [← hAe]; exact Or.inr h
  have hS : va_S A s.heap s.heap [] := va_S.rf
  have hP : va_P (dC, dI) vwCl [(g, .inr (2, [.ref k, .ref d, .ref j, .ref gg, .long gup, .long glo])), (gg, .inl (cI, 60, .inl gfg)), (d, .inr (4, [.ref ds, .int dsz, .ref dk, .ref dw, .int dac, .int dwr])), (dk, .inl (cI, 60, .inl dfk)), (j, .inr (1, [.ref k, .ref d, .ref jd, .ref jb, .ref jw, .ref jl, .int jbad, .int jwhy, .int jleft, .int jday, .int jwarmDay, .int jbagDays, .int jburnt, .int jboiled])), (jd, .inl (cI, 60, .inl jfd)), (jb, .inl (cI, 60, .inl jfb)), (k, .inr (0, [.ref ks, .ref kw, .ref kc, .int kwd, .int kbg, .int kme, .ref kq, .ref km, .ref kd, .int ksi, .ref ka, .ref kk])), (ks, .inl (cI, 5, .inl kfs))] s.heap := hP
  have hl := lv_entry ([.ref g, .int i0]) (n := 5) (Nat.le_of_ble_eq_true rfl)
  rw [lg_entry_eq]
  generalize (lg_sl ([.ref g, .int i0]) ++ List.replicate (5 - (lg_sl ([.ref g, .int i0])).length) Slot.unset).toArray = ls at hl ⊢
  have hl : lv_has ls 5 [(0, .ref g), (1, .int i0)] := hl
  have hK := hKx.1
  have hin2 := fun w9 h9 => List.mem_cons_of_mem (Cond.code yX2_lasts cX2_lasts 5 (some .boolean)) (inlX2 w9 h9)
  have hin0 := fun w9 h9 => List.mem_cons_of_mem (Cond.code yX2_lasts cX2_lasts 5 (some .boolean)) (inlX0 w9 h9)
  have hin4 := fun w9 h9 => List.mem_cons_of_mem (Cond.code yX2_lasts cX2_lasts 5 (some .boolean)) (inlX4 w9 h9)
  have hin1 := fun w9 h9 => List.mem_cons_of_mem (Cond.code yX2_lasts cX2_lasts 5 (some .boolean)) (inlX1 w9 h9)
  have hw0 := hts (.fieldLink RX2 15 "OneCan$Gusts" "camp" "LOneCan$Camp;") (List.mem_cons_of_mem _ wm_100)
  have hw1 := hts (.fieldLink RX2 33 "OneCan$Camp" "settings" "[I") (List.mem_cons_of_mem _ wm_849)
  have hw2 := hts (.fieldLink RX2 19 "OneCan$Gusts" "pad" "LOneCan$Pad;") (List.mem_cons_of_mem _ wm_101)
  have hw3 := hts (.fieldLink RX2 63 "OneCan$Pad" "acts" "I") (List.mem_cons_of_mem _ wm_859)
  have hw4 := hts (.fieldLink RX2 23 "OneCan$Gusts" "course" "LOneCan$Course;") (List.mem_cons_of_mem _ wm_102)
  have hw5 := hts (.fieldLink RX2 74 "OneCan$Course" "days" "[I") (List.mem_cons_of_mem _ wm_861)
  have hw6 := hts (.fieldLink RX2 68 "OneCan$Course" "burns" "[I") (List.mem_cons_of_mem _ wm_871)
  have hw7 := hts (.fieldLink RX2 71 "OneCan$Pad" "kinds" "[I") (List.mem_cons_of_mem _ wm_860)
  have hw8 := hts (.methodLink RX2 90 Lib.Math.min.name) (List.mem_cons_of_mem _ wm_872)
  have hw9 := hts (.static Lib.Math.min.name) (List.mem_cons_of_mem _ wm_275)
  have hw10 := hts (.initialized "java/lang/Math") (List.mem_cons_of_mem _ wm_272)
  have hw11 := hts (.code Lib.Math.min.name Lib.Math.min.code 2 (some .int)) (List.mem_cons_of_mem _ wm_276)
  have hw12 := hts (.fieldLink RX2 9 "OneCan$Gusts" "gusty" "[I") (List.mem_cons_of_mem _ wm_99)
  refine lv_aload_n hx hb dX2_lasts_0 rfl (lv_at hl 0 rfl) ?_
  refine va_get (D := (dC, dI)) (ci := 2) (v := .ref k) (C := RX2) (T := TX2) (N := 6) hx hb hts hin2 hown hK hP 0 rfl rfl 0 (by decide) hw0 (fun _ h9 => h9) rfl dX2_lasts_1 ?_
  refine va_get (D := (dC, dI)) (ci := 0) (v := .ref ks) (C := RX0) (T := TX0) (N := 12) hx hb hts hin0 hown hK hP 7 rfl rfl 0 (by decide) hw1 (fun _ h9 => h9) rfl dX2_lasts_4 ?_
  refine lv_iconst (v := 0) hx hb dX2_lasts_7 (by decide) ?_
  refine va_iald hx hb hK hP 8 0 rfl rfl (vin (by decide) (by decide)) dX2_lasts_8 ?_
  refine lv_topi (fun x1 e1 => ?_)
  refine lv_istore_n (lv' := [(2, .int x1), (0, .ref g), (1, .int i0)]) hx hb dX2_lasts_9 rfl hl (by decide) rfl (fun ls hl => ?_)
  refine lv_iconst (v := 0) hx hb dX2_lasts_10 (by decide) ?_
  refine lv_istore_n (lv' := [(3, .int 0), (2, .int x1), (0, .ref g), (1, .int i0)]) hx hb dX2_lasts_11 rfl hl (by decide) rfl (fun ls hl => ?_)
  have z3 : (0 : Int32).toInt = 0 := rfl
  have hl0 := hl
  clear hl
  obtain ⟨y2, y3, ex, hl⟩ : ∃ (y2 y3 : Int32), (0 ≤ y3.toInt ∧ y3.toInt ≤ dac.toInt) ∧ lv_has ls 5 [(3, .int y3), (2, .int y2), (0, .ref g), (1, .int i0)] := ⟨x1, 0, by omega, hl0⟩
  clear hl0
  obtain ⟨n2, hn⟩ : ∃ n : Nat, (n : Int) = dac.toInt - y3.toInt := ⟨(dac.toInt - y3.toInt).toNat, by omega⟩
  induction n2 generalizing y2 y3 ls with
  | zero =>
    skip
    refine lv_iload_n hx hb dX2_lasts_12 rfl (lv_at hl 0 rfl) ?_
    refine lv_aload_n hx hb dX2_lasts_13 rfl (lv_at hl 2 rfl) ?_
    refine va_get (D := (dC, dI)) (ci := 2) (v := .ref d) (C := RX2) (T := TX2) (N := 6) hx hb hts hin2 hown hK hP 0 rfl rfl 1 (by decide) hw2 (fun _ h9 => h9) rfl dX2_lasts_14 ?_
    refine va_get (D := (dC, dI)) (ci := 4) (v := .int dac) (C := RX4) (T := TX4) (N := 6) hx hb hts hin4 hown hK hP 2 rfl rfl 4 (by decide) hw3 (fun _ h9 => h9) rfl dX2_lasts_17 ?_
    refine lv_icmp_ge (tgt := 113) hx hb dX2_lasts_20 (by decide) (fun c4 => ?_) (fun c4 => by exfalso; have t4 : y3.toInt < dac.toInt := (tnle c4); omega)
    refine lv_iconst (v := 1) hx hb dX2_lasts_113 (by decide) ?_
    have hP9 := mx_subP (wc := [(g, .inr (2, [.ref k, .ref d, .ref j, .ref gg, .long gup, .long glo])), (gg, .inl (cI, 60, .inl gfg)), (d, .inr (4, [.ref ds, .int dsz, .ref dk, .ref dw, .int dac, .int dwr])), (dk, .inl (cI, 60, .inl dfk)), (j, .inr (1, [.ref k, .ref d, .ref jd, .ref jb, .ref jw, .ref jl, .int jbad, .int jwhy, .int jleft, .int jday, .int jwarmDay, .int jbagDays, .int jburnt, .int jboiled])), (jd, .inl (cI, 60, .inl jfd)), (jb, .inl (cI, 60, .inl jfb)), (k, .inr (0, [.ref ks, .ref kw, .ref kc, .int kwd, .int kbg, .int kme, .ref kq, .ref km, .ref kd, .int ksi, .ref ka, .ref kk])), (ks, .inl (cI, 5, .inl kfs))]) hP [0, 1, 2, 3, 4, 5, 6, 7, 8] rfl
    have hD9 := hD.sub (ws' := [(g, .inr (2, [.ref k, .ref d, .ref j, .ref gg, .long gup, .long glo])), (gg, .inl (cI, 60, .inl gfg)), (d, .inr (4, [.ref ds, .int dsz, .ref dk, .ref dw, .int dac, .int dwr])), (dk, .inl (cI, 60, .inl dfk)), (j, .inr (1, [.ref k, .ref d, .ref jd, .ref jb, .ref jw, .ref jl, .int jbad, .int jwhy, .int jleft, .int jday, .int jwarmDay, .int jbagDays, .int jburnt, .int jboiled])), (jd, .inl (cI, 60, .inl jfd)), (jb, .inl (cI, 60, .inl jfb)), (k, .inr (0, [.ref ks, .ref kw, .ref kc, .int kwd, .int kbg, .int kme, .ref kq, .ref km, .ref kd, .int ksi, .ref ka, .ref kk])), (ks, .inl (cI, 5, .inl kfs))]) [0, 1, 2, 3, 4, 5, 6, 7, 8] (by decide) rfl
    exact W.zret (v := 1) hx hb hr rfl (fun t ht hW => ⟨⟨1, (), rfl, (by first | exact Or.inl (⟨rfl, trivial⟩) | exact Or.inr (⟨rfl, trivial⟩)), by rw [ht]; exact hP9, hD9⟩, hS.F ht⟩) hS.2.2 dX2_lasts_114
  | succ n2 ih =>
    skip
    refine lv_iload_n hx hb dX2_lasts_12 rfl (lv_at hl 0 rfl) ?_
    refine lv_aload_n hx hb dX2_lasts_13 rfl (lv_at hl 2 rfl) ?_
    refine va_get (D := (dC, dI)) (ci := 2) (v := .ref d) (C := RX2) (T := TX2) (N := 6) hx hb hts hin2 hown hK hP 0 rfl rfl 1 (by decide) hw2 (fun _ h9 => h9) rfl dX2_lasts_14 ?_
    refine va_get (D := (dC, dI)) (ci := 4) (v := .int dac) (C := RX4) (T := TX4) (N := 6) hx hb hts hin4 hown hK hP 2 rfl rfl 4 (by decide) hw3 (fun _ h9 => h9) rfl dX2_lasts_17 ?_
    refine lv_icmp_ge (tgt := 113) hx hb dX2_lasts_20 (by decide) (fun c5 => by exfalso; have t5 : dac.toInt ≤ y3.toInt := (tle c5); omega) (fun c5 => ?_)
    refine lv_aload_n hx hb dX2_lasts_23 rfl (lv_at hl 2 rfl) ?_
    refine va_get (D := (dC, dI)) (ci := 2) (v := .ref j) (C := RX2) (T := TX2) (N := 6) hx hb hts hin2 hown hK hP 0 rfl rfl 2 (by decide) hw4 (fun _ h9 => h9) rfl dX2_lasts_24 ?_
    refine va_get (D := (dC, dI)) (ci := 1) (v := .ref jd) (C := RX1) (T := TX1) (N := 14) hx hb hts hin1 hown hK hP 4 rfl rfl 2 (by decide) hw5 (fun _ h9 => h9) rfl dX2_lasts_27 ?_
    refine lv_iload_n hx hb dX2_lasts_30 rfl (lv_at hl 0 rfl) ?_
    refine va_iald hx hb hK hP 5 0 rfl rfl (vin (by omega) (by omega)) dX2_lasts_31 ?_
    refine lv_topi (fun x6 e6 => ?_)
    have g6 : 0 ≤ x6.toInt ∧ x6.toInt ≤ 13 := by rw [e6]; exact rgI h_jfd (by omega) (by omega)
    refine lv_aload_n hx hb dX2_lasts_32 rfl (lv_at hl 2 rfl) ?_
    refine va_get (D := (dC, dI)) (ci := 2) (v := .ref k) (C := RX2) (T := TX2) (N := 6) hx hb hts hin2 hown hK hP 0 rfl rfl 0 (by decide) hw0 (fun _ h9 => h9) rfl dX2_lasts_33 ?_
    refine va_get (D := (dC, dI)) (ci := 0) (v := .ref ks) (C := RX0) (T := TX0) (N := 12) hx hb hts hin0 hown hK hP 7 rfl rfl 0 (by decide) hw1 (fun _ h9 => h9) rfl dX2_lasts_36 ?_
    refine lv_iconst (v := 4) hx hb dX2_lasts_39 (by decide) ?_
    refine va_iald hx hb hK hP 8 0 rfl rfl (vin (by decide) (by decide)) dX2_lasts_40 ?_
    refine lv_topi (fun y7 e7 => ?_)
    obtain rfl : kfs 4 = y7 := e7.symm
    refine lv_isub hx hb dX2_lasts_41 ?_
    refine lv_topi (fun x8 e8 => ?_)
    have f8 : x8.toInt = x6.toInt - (kfs 4).toInt := by rw [e8]; exact tsub (by have t8 := tb x6; have t8 := tb (kfs 4); omega) (by have t8 := tb x6; have t8 := tb (kfs 4); omega)
    refine lv_istore (lv' := [(4, .int x8), (3, .int y3), (2, .int y2), (0, .ref g), (1, .int i0)]) hx hb dX2_lasts_42 hl (by decide) rfl (fun ls hl => ?_)
    refine lv_iload_n hx hb dX2_lasts_44 rfl (lv_at hl 2 rfl) ?_
    refine lv_iload_n hx hb dX2_lasts_45 rfl (lv_at hl 4 rfl) ?_
    refine lv_iload hx hb dX2_lasts_46 (lv_at hl 0 rfl) ?_
    refine lv_ishr hx hb dX2_lasts_48 ?_
    refine lv_topi (fun x9 e9 => ?_)
    refine lv_iconst (v := 1) hx hb dX2_lasts_49 (by decide) ?_
    refine lv_iand hx hb dX2_lasts_50 ?_
    refine lv_topi (fun x10 e10 => ?_)
    refine lv_iconst (v := 1) hx hb dX2_lasts_51 (by decide) ?_
    refine lv_icmp_ne (tgt := 64) hx hb dX2_lasts_52 (by decide) (fun c11 => ?_) (fun c11 => ?_)
    · have t11 : x10.toInt ≠ (1 : Int) := (tne c11)
      refine lv_aload_n hx hb dX2_lasts_64 rfl (lv_at hl 3 rfl) ?_
      refine va_get (D := (dC, dI)) (ci := 2) (v := .ref j) (C := RX2) (T := TX2) (N := 6) hx hb hts hin2 hown hK hP 0 rfl rfl 2 (by decide) hw4 (fun _ h9 => h9) rfl dX2_lasts_65 ?_
      refine va_get (D := (dC, dI)) (ci := 1) (v := .ref jb) (C := RX1) (T := TX1) (N := 14) hx hb hts hin1 hown hK hP 4 rfl rfl 3 (by decide) hw6 (fun _ h9 => h9) rfl dX2_lasts_68 ?_
      refine lv_iload_n hx hb dX2_lasts_71 rfl (lv_at hl 1 rfl) ?_
      refine va_iald hx hb hK hP 6 0 rfl rfl (vin (by omega) (by omega)) dX2_lasts_72 ?_
      refine lv_topi (fun x12 e12 => ?_)
      refine lv_isub hx hb dX2_lasts_73 ?_
      refine lv_topi (fun x13 e13 => ?_)
      refine lv_istore_n (lv' := [(2, .int x13), (4, .int x8), (3, .int y3), (0, .ref g), (1, .int i0)]) hx hb dX2_lasts_74 rfl hl (by decide) rfl (fun ls hl => ?_)
      refine lv_iload_n hx hb dX2_lasts_75 rfl (lv_at hl 0 rfl) ?_
      refine lv_if_ge (tgt := 81) hx hb dX2_lasts_76 (by decide) (fun c14 => ?_) (fun c14 => ?_)
      · have t14 : (0 : Int) ≤ x13.toInt := (tle c14)
        refine lv_aload_n hx hb dX2_lasts_81 rfl (lv_at hl 3 rfl) ?_
        refine va_get (D := (dC, dI)) (ci := 2) (v := .ref d) (C := RX2) (T := TX2) (N := 6) hx hb hts hin2 hown hK hP 0 rfl rfl 1 (by decide) hw2 (fun _ h9 => h9) rfl dX2_lasts_82 ?_
        refine va_get (D := (dC, dI)) (ci := 4) (v := .ref dk) (C := RX4) (T := TX4) (N := 6) hx hb hts hin4 hown hK hP 2 rfl rfl 2 (by decide) hw7 (fun _ h9 => h9) rfl dX2_lasts_85 ?_
        refine lv_iload_n hx hb dX2_lasts_88 rfl (lv_at hl 2 rfl) ?_
        refine va_iald hx hb hK hP 3 0 rfl rfl (vin (by omega) (by omega)) dX2_lasts_89 ?_
        refine lv_topi (fun x15 e15 => ?_)
        refine lv_bipush (v := 8) hx hb dX2_lasts_90 (by decide) ?_
        refine lv_icmp_ne (tgt := 107) hx hb dX2_lasts_92 (by decide) (fun c16 => ?_) (fun c16 => ?_)
        · have t16 : x15.toInt ≠ (8 : Int) := (tne c16)
          obtain ⟨x17, e17⟩ : ∃ y : Int32, y = y3 + Int32.ofInt 1 := ⟨_, rfl⟩
          refine lv_iinc (v := x17) (lv' := [(3, .int x17), (2, .int x13), (4, .int x8), (0, .ref g), (1, .int i0)]) hx hb dX2_lasts_107 hl (k := 2) rfl e17.symm (by decide) rfl (fun ls hl => ?_)
          have f17 : x17.toInt = y3.toInt + 1 := by rw [e17]; exact tinc (by decide) (by have t8 := tb y3; omega) (by have t8 := tb y3; omega)
          refine lv_goto (tgt := 12) hx hb dX2_lasts_110 (by decide) ?_
          exact ih (ls := ls) (y2 := x13) (y3 := x17) (by omega) (show lv_has ls 5 [(3, .int x17), (2, .int x13), (0, .ref g), (1, .int i0)] from lv_sub hl [0, 1, 3, 4] rfl) (by omega)
        · have t16 : x15.toInt = (8 : Int) := (teq c16)
          refine lv_iload_n hx hb dX2_lasts_95 rfl (lv_at hl 0 rfl) ?_
          refine lv_sipush (v := 1000) hx hb dX2_lasts_96 (by decide) ?_
          refine lv_iadd hx hb dX2_lasts_99 ?_
          refine lv_topi (fun x18 e18 => ?_)
          refine lv_sipush (v := 4000) hx hb dX2_lasts_100 (by decide) ?_
          refine va_mmin hx hb (hml.trans hl.1.symm) hown hw8 hw9 hw10 hw11 (Nat.le_of_ble_eq_true rfl) (Nat.le_of_ble_eq_true rfl) (Nat.le_of_ble_eq_true rfl) (Nat.le_of_ble_eq_true rfl) dX2_lasts_103 ?_
          refine lv_topi (fun x19 e19 => ?_)
          have f19 : x19.toInt ≤ x18.toInt ∧ x19.toInt ≤ (4000 : Int) ∧ (x19.toInt = x18.toInt ∨ x19.toInt = (4000 : Int)) := by rw [e19]; exact mmmin_t
          refine lv_istore_n (lv' := [(2, .int x19), (4, .int x8), (3, .int y3), (0, .ref g), (1, .int i0)]) hx hb dX2_lasts_106 rfl hl (by decide) rfl (fun ls hl => ?_)
          obtain ⟨x20, e20⟩ : ∃ y : Int32, y = y3 + Int32.ofInt 1 := ⟨_, rfl⟩
          refine lv_iinc (v := x20) (lv' := [(3, .int x20), (2, .int x19), (4, .int x8), (0, .ref g), (1, .int i0)]) hx hb dX2_lasts_107 hl (k := 2) rfl e20.symm (by decide) rfl (fun ls hl => ?_)
          have f20 : x20.toInt = y3.toInt + 1 := by rw [e20]; exact tinc (by decide) (by have t8 := tb y3; omega) (by have t8 := tb y3; omega)
          refine lv_goto (tgt := 12) hx hb dX2_lasts_110 (by decide) ?_
          exact ih (ls := ls) (y2 := x19) (y3 := x20) (by omega) (show lv_has ls 5 [(3, .int x20), (2, .int x19), (0, .ref g), (1, .int i0)] from lv_sub hl [0, 1, 3, 4] rfl) (by omega)
      · have t14 : x13.toInt < (0 : Int) := (tnle c14)
        refine lv_iconst (v := 0) hx hb dX2_lasts_79 (by decide) ?_
        have hP9 := mx_subP (wc := [(g, .inr (2, [.ref k, .ref d, .ref j, .ref gg, .long gup, .long glo])), (gg, .inl (cI, 60, .inl gfg)), (d, .inr (4, [.ref ds, .int dsz, .ref dk, .ref dw, .int dac, .int dwr])), (dk, .inl (cI, 60, .inl dfk)), (j, .inr (1, [.ref k, .ref d, .ref jd, .ref jb, .ref jw, .ref jl, .int jbad, .int jwhy, .int jleft, .int jday, .int jwarmDay, .int jbagDays, .int jburnt, .int jboiled])), (jd, .inl (cI, 60, .inl jfd)), (jb, .inl (cI, 60, .inl jfb)), (k, .inr (0, [.ref ks, .ref kw, .ref kc, .int kwd, .int kbg, .int kme, .ref kq, .ref km, .ref kd, .int ksi, .ref ka, .ref kk])), (ks, .inl (cI, 5, .inl kfs))]) hP [0, 1, 2, 3, 4, 5, 6, 7, 8] rfl
        have hD9 := hD.sub (ws' := [(g, .inr (2, [.ref k, .ref d, .ref j, .ref gg, .long gup, .long glo])), (gg, .inl (cI, 60, .inl gfg)), (d, .inr (4, [.ref ds, .int dsz, .ref dk, .ref dw, .int dac, .int dwr])), (dk, .inl (cI, 60, .inl dfk)), (j, .inr (1, [.ref k, .ref d, .ref jd, .ref jb, .ref jw, .ref jl, .int jbad, .int jwhy, .int jleft, .int jday, .int jwarmDay, .int jbagDays, .int jburnt, .int jboiled])), (jd, .inl (cI, 60, .inl jfd)), (jb, .inl (cI, 60, .inl jfb)), (k, .inr (0, [.ref ks, .ref kw, .ref kc, .int kwd, .int kbg, .int kme, .ref kq, .ref km, .ref kd, .int ksi, .ref ka, .ref kk])), (ks, .inl (cI, 5, .inl kfs))]) [0, 1, 2, 3, 4, 5, 6, 7, 8] (by decide) rfl
        exact W.zret (v := 0) hx hb hr rfl (fun t ht hW => ⟨⟨0, (), rfl, (by first | exact Or.inl (⟨rfl, trivial⟩) | exact Or.inr (⟨rfl, trivial⟩)), by rw [ht]; exact hP9, hD9⟩, hS.F ht⟩) hS.2.2 dX2_lasts_80
    · have t11 : x10.toInt = (1 : Int) := (teq c11)
      refine lv_aload_n hx hb dX2_lasts_55 rfl (lv_at hl 3 rfl) ?_
      refine va_get (D := (dC, dI)) (ci := 2) (v := .ref gg) (C := RX2) (T := TX2) (N := 6) hx hb hts hin2 hown hK hP 0 rfl rfl 3 (by decide) hw12 (fun _ h9 => h9) rfl dX2_lasts_56 ?_
      refine lv_iload_n hx hb dX2_lasts_59 rfl (lv_at hl 1 rfl) ?_
      refine va_iald hx hb hK hP 1 0 rfl rfl (vin (by omega) (by omega)) dX2_lasts_60 ?_
      refine lv_topi (fun x21 e21 => ?_)
      refine lv_goto (tgt := 73) hx hb dX2_lasts_61 (by decide) ?_
      refine lv_isub hx hb dX2_lasts_73 ?_
      refine lv_topi (fun x22 e22 => ?_)
      refine lv_istore_n (lv' := [(2, .int x22), (4, .int x8), (3, .int y3), (0, .ref g), (1, .int i0)]) hx hb dX2_lasts_74 rfl hl (by decide) rfl (fun ls hl => ?_)
      refine lv_iload_n hx hb dX2_lasts_75 rfl (lv_at hl 0 rfl) ?_
      refine lv_if_ge (tgt := 81) hx hb dX2_lasts_76 (by decide) (fun c23 => ?_) (fun c23 => ?_)
      · have t23 : (0 : Int) ≤ x22.toInt := (tle c23)
        refine lv_aload_n hx hb dX2_lasts_81 rfl (lv_at hl 3 rfl) ?_
        refine va_get (D := (dC, dI)) (ci := 2) (v := .ref d) (C := RX2) (T := TX2) (N := 6) hx hb hts hin2 hown hK hP 0 rfl rfl 1 (by decide) hw2 (fun _ h9 => h9) rfl dX2_lasts_82 ?_
        refine va_get (D := (dC, dI)) (ci := 4) (v := .ref dk) (C := RX4) (T := TX4) (N := 6) hx hb hts hin4 hown hK hP 2 rfl rfl 2 (by decide) hw7 (fun _ h9 => h9) rfl dX2_lasts_85 ?_
        refine lv_iload_n hx hb dX2_lasts_88 rfl (lv_at hl 2 rfl) ?_
        refine va_iald hx hb hK hP 3 0 rfl rfl (vin (by omega) (by omega)) dX2_lasts_89 ?_
        refine lv_topi (fun x24 e24 => ?_)
        refine lv_bipush (v := 8) hx hb dX2_lasts_90 (by decide) ?_
        refine lv_icmp_ne (tgt := 107) hx hb dX2_lasts_92 (by decide) (fun c25 => ?_) (fun c25 => ?_)
        · have t25 : x24.toInt ≠ (8 : Int) := (tne c25)
          obtain ⟨x26, e26⟩ : ∃ y : Int32, y = y3 + Int32.ofInt 1 := ⟨_, rfl⟩
          refine lv_iinc (v := x26) (lv' := [(3, .int x26), (2, .int x22), (4, .int x8), (0, .ref g), (1, .int i0)]) hx hb dX2_lasts_107 hl (k := 2) rfl e26.symm (by decide) rfl (fun ls hl => ?_)
          have f26 : x26.toInt = y3.toInt + 1 := by rw [e26]; exact tinc (by decide) (by have t8 := tb y3; omega) (by have t8 := tb y3; omega)
          refine lv_goto (tgt := 12) hx hb dX2_lasts_110 (by decide) ?_
          exact ih (ls := ls) (y2 := x22) (y3 := x26) (by omega) (show lv_has ls 5 [(3, .int x26), (2, .int x22), (0, .ref g), (1, .int i0)] from lv_sub hl [0, 1, 3, 4] rfl) (by omega)
        · have t25 : x24.toInt = (8 : Int) := (teq c25)
          refine lv_iload_n hx hb dX2_lasts_95 rfl (lv_at hl 0 rfl) ?_
          refine lv_sipush (v := 1000) hx hb dX2_lasts_96 (by decide) ?_
          refine lv_iadd hx hb dX2_lasts_99 ?_
          refine lv_topi (fun x27 e27 => ?_)
          refine lv_sipush (v := 4000) hx hb dX2_lasts_100 (by decide) ?_
          refine va_mmin hx hb (hml.trans hl.1.symm) hown hw8 hw9 hw10 hw11 (Nat.le_of_ble_eq_true rfl) (Nat.le_of_ble_eq_true rfl) (Nat.le_of_ble_eq_true rfl) (Nat.le_of_ble_eq_true rfl) dX2_lasts_103 ?_
          refine lv_topi (fun x28 e28 => ?_)
          have f28 : x28.toInt ≤ x27.toInt ∧ x28.toInt ≤ (4000 : Int) ∧ (x28.toInt = x27.toInt ∨ x28.toInt = (4000 : Int)) := by rw [e28]; exact mmmin_t
          refine lv_istore_n (lv' := [(2, .int x28), (4, .int x8), (3, .int y3), (0, .ref g), (1, .int i0)]) hx hb dX2_lasts_106 rfl hl (by decide) rfl (fun ls hl => ?_)
          obtain ⟨x29, e29⟩ : ∃ y : Int32, y = y3 + Int32.ofInt 1 := ⟨_, rfl⟩
          refine lv_iinc (v := x29) (lv' := [(3, .int x29), (2, .int x28), (4, .int x8), (0, .ref g), (1, .int i0)]) hx hb dX2_lasts_107 hl (k := 2) rfl e29.symm (by decide) rfl (fun ls hl => ?_)
          have f29 : x29.toInt = y3.toInt + 1 := by rw [e29]; exact tinc (by decide) (by have t8 := tb y3; omega) (by have t8 := tb y3; omega)
          refine lv_goto (tgt := 12) hx hb dX2_lasts_110 (by decide) ?_
          exact ih (ls := ls) (y2 := x28) (y3 := x29) (by omega) (show lv_has ls 5 [(3, .int x29), (2, .int x28), (0, .ref g), (1, .int i0)] from lv_sub hl [0, 1, 3, 4] rfl) (by omega)
      · have t23 : x22.toInt < (0 : Int) := (tnle c23)
        refine lv_iconst (v := 0) hx hb dX2_lasts_79 (by decide) ?_
        have hP9 := mx_subP (wc := [(g, .inr (2, [.ref k, .ref d, .ref j, .ref gg, .long gup, .long glo])), (gg, .inl (cI, 60, .inl gfg)), (d, .inr (4, [.ref ds, .int dsz, .ref dk, .ref dw, .int dac, .int dwr])), (dk, .inl (cI, 60, .inl dfk)), (j, .inr (1, [.ref k, .ref d, .ref jd, .ref jb, .ref jw, .ref jl, .int jbad, .int jwhy, .int jleft, .int jday, .int jwarmDay, .int jbagDays, .int jburnt, .int jboiled])), (jd, .inl (cI, 60, .inl jfd)), (jb, .inl (cI, 60, .inl jfb)), (k, .inr (0, [.ref ks, .ref kw, .ref kc, .int kwd, .int kbg, .int kme, .ref kq, .ref km, .ref kd, .int ksi, .ref ka, .ref kk])), (ks, .inl (cI, 5, .inl kfs))]) hP [0, 1, 2, 3, 4, 5, 6, 7, 8] rfl
        have hD9 := hD.sub (ws' := [(g, .inr (2, [.ref k, .ref d, .ref j, .ref gg, .long gup, .long glo])), (gg, .inl (cI, 60, .inl gfg)), (d, .inr (4, [.ref ds, .int dsz, .ref dk, .ref dw, .int dac, .int dwr])), (dk, .inl (cI, 60, .inl dfk)), (j, .inr (1, [.ref k, .ref d, .ref jd, .ref jb, .ref jw, .ref jl, .int jbad, .int jwhy, .int jleft, .int jday, .int jwarmDay, .int jbagDays, .int jburnt, .int jboiled])), (jd, .inl (cI, 60, .inl jfd)), (jb, .inl (cI, 60, .inl jfb)), (k, .inr (0, [.ref ks, .ref kw, .ref kc, .int kwd, .int kbg, .int kme, .ref kq, .ref km, .ref kd, .int ksi, .ref ka, .ref kk])), (ks, .inl (cI, 5, .inl kfs))]) [0, 1, 2, 3, 4, 5, 6, 7, 8] (by decide) rfl
        exact W.zret (v := 0) hx hb hr rfl (fun t ht hW => ⟨⟨0, (), rfl, (by first | exact Or.inl (⟨rfl, trivial⟩) | exact Or.inr (⟨rfl, trivial⟩)), by rw [ht]; exact hP9, hD9⟩, hS.F ht⟩) hS.2.2 dX2_lasts_80
set_option maxHeartbeats 4000000 in
set_option maxRecDepth 100000 in
theorem c_X2_power (l : Launch) (dC : Nat → ClassId) (dI : Nat → Nat → Nat) (cI cZ cK : ClassId) (tS : Nat) (aK aV : Nat → Nat) (b0 : Int64) (i0 : Int32) (sz : Nat) : Cl l yX2_power (wq yX2_power cX2_power 6 (some .long)) ({ frames := 0, cells := 0, slots := 0, locals := 0 }) dC dI cI cZ cK tS aK aV [.long b0, .int i0] sz [] (fun (r : Int64) (u : Unit) => True) (fun _ => []) := by
  refine Met.ofW (cc := cX2_power) (maxL := 6) (ret := (some .long)) (by decide) rfl ?_
  intro p e s m args below meth c s₁ B hml hv
  obtain ⟨rfl, hsz, hP, hKx, hD0⟩ := hv
  have hx := B.exec
  have hb := B.bytes
  have hr := B.returns
  have hts := atoms_spec (ws := wq yX2_power cX2_power 6 (some .long)) B.pre
  have hown : s.vm.findClass RX2 = some m.cls := findClass_of_methodNamed B.named
  have hlocks := B.notSynchronized
  subst hsz
  have hD := hD0.self (sz := s.heap.size)
  generalize hAe : va_A [] s.heap.size = A at hD hKx ⊢
  have hA : ∀ q : Nat, s.heap.size ≤ q → A q := fun q h => by rw [← hAe]; exact Or.inr h
  have hS : va_S A s.heap s.heap [] := va_S.rf
  have hP : va_P (dC, dI) vwCl [] s.heap := hP
  have hl := lv_entry ([.long b0, .int i0]) (n := 6) (Nat.le_of_ble_eq_true rfl)
  rw [lg_entry_eq]
  generalize (lg_sl ([.long b0, .int i0]) ++ List.replicate (6 - (lg_sl ([.long b0, .int i0])).length) Slot.unset).toArray = ls at hl ⊢
  have hl : lv_has ls 6 [(0, .long b0), (2, .int i0)] := hl
  have hK := hKx.1
  refine lv_lconst (v := 1) hx hb dX2_power_0 (by decide) ?_
  refine lv_lstore_n (lv' := [(3, .long 1), (0, .long b0), (2, .int i0)]) hx hb dX2_power_1 rfl hl (by decide) rfl (fun ls hl => ?_)
  refine lv_iconst (v := 0) hx hb dX2_power_2 (by decide) ?_
  refine lv_istore (lv' := [(5, .int 0), (3, .long 1), (0, .long b0), (2, .int i0)]) hx hb dX2_power_3 hl (by decide) rfl (fun ls hl => ?_)
  have z2 : (0 : Int32).toInt = 0 := rfl
  have hl0 := hl
  clear hl
  obtain ⟨y5, y3, ex, hl⟩ : ∃ (y5 : Int32) (y3 : Int64), (0 ≤ y5.toInt ∧ y5.toInt ≤ 2147483647) ∧ lv_has ls 6 [(5, .int y5), (3, .long y3), (0, .long b0), (2, .int i0)] := ⟨0, 1, by omega, hl0⟩
  clear hl0
  obtain ⟨n1, hn⟩ : ∃ n : Nat, (n : Int) = 2147483647 - y5.toInt := ⟨(2147483647 - y5.toInt).toNat, by omega⟩
  induction n1 generalizing y5 y3 ls with
  | zero =>
    skip
    refine lv_iload hx hb dX2_power_5 (lv_at hl 0 rfl) ?_
    refine lv_iload_n hx hb dX2_power_7 rfl (lv_at hl 3 rfl) ?_
    refine lv_icmp_ge (tgt := 21) hx hb dX2_power_8 (by decide) (fun c3 => ?_) (fun c3 => by exfalso; have t3 : y5.toInt < i0.toInt := (tnle c3); have tb0 := tb y5; have tb1 := tb i0; omega)
    refine lv_lload_n hx hb dX2_power_21 rfl (lv_at hl 1 rfl) ?_
    have hP9 := mx_subP (wc := []) hP [] rfl
    have hD9 := hD.sub (ws' := []) [] (by decide) rfl
    exact W.lret (v := y3) hx hb hr (fun t ht hW => ⟨⟨y3, (), rfl, trivial, by rw [ht]; exact hP9, hD9⟩, hS.F ht⟩) hS.2.2 dX2_power_22
  | succ n1 ih =>
    skip
    refine lv_iload hx hb dX2_power_5 (lv_at hl 0 rfl) ?_
    refine lv_iload_n hx hb dX2_power_7 rfl (lv_at hl 3 rfl) ?_
    refine lv_icmp_ge (tgt := 21) hx hb dX2_power_8 (by decide) (fun c4 => ?_) (fun c4 => ?_)
    · have t4 : i0.toInt ≤ y5.toInt := (tle c4)
      refine lv_lload_n hx hb dX2_power_21 rfl (lv_at hl 1 rfl) ?_
      have hP9 := mx_subP (wc := []) hP [] rfl
      have hD9 := hD.sub (ws' := []) [] (by decide) rfl
      exact W.lret (v := y3) hx hb hr (fun t ht hW => ⟨⟨y3, (), rfl, trivial, by rw [ht]; exact hP9, hD9⟩, hS.F ht⟩) hS.2.2 dX2_power_22
    · have t4 : y5.toInt < i0.toInt := (tnle c4)
      refine lv_lload_n hx hb dX2_power_11 rfl (lv_at hl 1 rfl) ?_
      refine lv_lload_n hx hb dX2_power_12 rfl (lv_at hl 2 rfl) ?_
      refine lv_lmul hx hb dX2_power_13 ?_
      refine lv_topl (fun x5 e5 => ?_)
      refine lv_lstore_n (lv' := [(3, .long x5), (5, .int y5), (0, .long b0), (2, .int i0)]) hx hb dX2_power_14 rfl hl (by decide) rfl (fun ls hl => ?_)
      obtain ⟨x6, e6⟩ : ∃ y : Int32, y = y5 + Int32.ofInt 1 := ⟨_, rfl⟩
      refine lv_iinc (v := x6) (lv' := [(5, .int x6), (3, .long x5), (0, .long b0), (2, .int i0)]) hx hb dX2_power_15 hl (k := 1) rfl e6.symm (by decide) rfl (fun ls hl => ?_)
      have f6 : x6.toInt = y5.toInt + 1 := by rw [e6]; exact tinc (by decide) (by have t8 := tb y5; omega) (by have t8 := tb y5; omega)
      refine lv_goto (tgt := 5) hx hb dX2_power_18 (by decide) ?_
      exact ih (ls := ls) (y3 := x5) (y5 := x6) (by omega) (show lv_has ls 6 [(5, .int x6), (3, .long x5), (0, .long b0), (2, .int i0)] from lv_sub hl [0, 1, 2, 3] rfl) (by omega)
set_option maxHeartbeats 4000000 in
set_option maxRecDepth 100000 in
theorem c_X2_weight (l : Launch) (dC : Nat → ClassId) (dI : Nat → Nat → Nat) (cI cZ cK : ClassId) (tS : Nat) (aK aV : Nat → Nat) (i0 : Int32) (i1 : Int32) (i2 : Int32) (sz : Nat) : Cl l yX2_weight (wq yX2_weight cX2_weight 4 (some .long)) ({ frames := 1, cells := 0, slots := 0, locals := 25 }) dC dI cI cZ cK tS aK aV [.int i0, .int i1, .int i2] sz [] (fun (r : Int64) (u : Unit) => True) (fun _ => []) := by
  refine Met.ofW (cc := cX2_weight) (maxL := 4) (ret := (some .long)) (by decide) rfl ?_
  intro p e s m args below meth c s₁ B hml hv
  obtain ⟨rfl, hsz, hP, hKx, hD0⟩ := hv
  have hx := B.exec
  have hb := B.bytes
  have hr := B.returns
  have hts := atoms_spec (ws := wq yX2_weight cX2_weight 4 (some .long)) B.pre
  have hown : s.vm.findClass RX2 = some m.cls := findClass_of_methodNamed B.named
  have hlocks := B.notSynchronized
  subst hsz
  have hD := hD0.self (sz := s.heap.size)
  generalize hAe : va_A [] s.heap.size = A at hD hKx ⊢
  have hA : ∀ q : Nat, s.heap.size ≤ q → A q := fun q h => by rw [← hAe]; exact Or.inr h
  have hS : va_S A s.heap s.heap [] := va_S.rf
  have hP : va_P (dC, dI) vwCl [] s.heap := hP
  have hl := lv_entry ([.int i0, .int i1, .int i2]) (n := 4) (Nat.le_of_ble_eq_true rfl)
  rw [lg_entry_eq]
  generalize (lg_sl ([.int i0, .int i1, .int i2]) ++ List.replicate (4 - (lg_sl ([.int i0, .int i1, .int i2])).length) Slot.unset).toArray = ls at hl ⊢
  have hl : lv_has ls 4 [(0, .int i0), (1, .int i1), (2, .int i2)] := hl
  have hK := hKx.1
  refine lv_iload_n hx hb dX2_weight_0 rfl (lv_at hl 0 rfl) ?_
  refine mx_i (wr := []) (va_runS (As := [.int i0]) (rest := []) ⟨hx, hb, hml, hown, hts⟩ (c_J6_bitCount_0f7a4 l dC dI cI cZ cK tS aK aV i0 s.heap.size) (va_cwS 1 hts (gw_s (fun _ h9 => List.mem_cons_of_mem _ h9) wm_876 wm_191 wm_192 wm_193) rfl rfl rfl (by decide +kernel) ⟨Nat.le_of_ble_eq_true rfl, Nat.le_of_ble_eq_true rfl⟩) (mx_preS hKx hP hD hS hA [] (by decide) rfl) rfl rfl hl.1 rfl (lv_room (Nat.le_of_ble_eq_true rfl)) dX2_weight_1 ⟨Nat.le_of_ble_eq_true rfl, Nat.le_of_ble_eq_true rfl⟩) hP hD hS hA [] [] rfl rfl (by decide) (by decide) (fun r1 u1 H locs hq1 hP hD hS => ?_)
  replace hP : va_P (dC, dI) vwCl [] H := hP
  replace hD : va_D A [] := hD
  have hx1_0 := hq1
  replace hx1_0 : r1 = bcF i0 := hx1_0
  refine lv_istore_n (lv' := [(3, .int r1), (0, .int i0), (1, .int i1), (2, .int i2)]) hx hb dX2_weight_4 rfl hl (by decide) rfl (fun ls hl => ?_)
  refine lv_iload_n hx hb dX2_weight_5 rfl (lv_at hl 3 rfl) ?_
  refine lv_i2l (v := i2.toInt64) hx hb dX2_weight_6 rfl ?_
  refine lv_iload_n hx hb dX2_weight_7 rfl (lv_at hl 0 rfl) ?_
  refine mx_l (wr := []) (va_runS (As := [.long (i2.toInt64), .int r1]) (rest := []) ⟨hx, hb, hml, hown, hts⟩ (c_X2_power l dC dI cI cZ cK tS aK aV (i2.toInt64) r1 H.size) (va_cwS 2 hts (gw_s (fun _ h9 => List.mem_cons_of_mem _ h9) wm_877 wm_878 wm_34 wm_879) rfl rfl rfl (by decide +kernel) ⟨Nat.le_of_ble_eq_true rfl, Nat.le_of_ble_eq_true rfl⟩) (mx_preS hKx hP hD hS hA [] (by decide) rfl) rfl rfl hl.1 rfl (lv_room (Nat.le_of_ble_eq_true rfl)) dX2_weight_8 ⟨Nat.le_of_ble_eq_true rfl, Nat.le_of_ble_eq_true rfl⟩) hP hD hS hA [] [] rfl rfl (by decide) (by decide) (fun r2 u2 H locs hq2 hP hD hS => ?_)
  replace hP : va_P (dC, dI) vwCl [] H := hP
  replace hD : va_D A [] := hD
  refine lv_bipush (v := 10) hx hb dX2_weight_11 (by decide) ?_
  refine lv_iload_n hx hb dX2_weight_13 rfl (lv_at hl 3 rfl) ?_
  refine lv_isub hx hb dX2_weight_14 ?_
  refine lv_topi (fun x3 e3 => ?_)
  refine lv_i2l (v := x3.toInt64) hx hb dX2_weight_15 rfl ?_
  refine lv_iload_n hx hb dX2_weight_16 rfl (lv_at hl 2 rfl) ?_
  refine lv_iload_n hx hb dX2_weight_17 rfl (lv_at hl 0 rfl) ?_
  refine lv_isub hx hb dX2_weight_18 ?_
  refine lv_topi (fun x4 e4 => ?_)
  refine mx_l (wr := []) (va_runS (As := [.long (x3.toInt64), .int x4]) (rest := [.long r2]) ⟨hx, hb, hml, hown, hts⟩ (c_X2_power l dC dI cI cZ cK tS aK aV (x3.toInt64) x4 H.size) (va_cwS 2 hts (gw_s (fun _ h9 => List.mem_cons_of_mem _ h9) wm_877 wm_878 wm_34 wm_879) rfl rfl rfl (by decide +kernel) ⟨Nat.le_of_ble_eq_true rfl, Nat.le_of_ble_eq_true rfl⟩) (mx_preS hKx hP hD hS hA [] (by decide) rfl) rfl rfl hl.1 rfl (lv_room (Nat.le_of_ble_eq_true rfl)) dX2_weight_19 ⟨Nat.le_of_ble_eq_true rfl, Nat.le_of_ble_eq_true rfl⟩) hP hD hS hA [] [] rfl rfl (by decide) (by decide) (fun r5 u5 H locs hq5 hP hD hS => ?_)
  replace hP : va_P (dC, dI) vwCl [] H := hP
  replace hD : va_D A [] := hD
  refine lv_lmul hx hb dX2_weight_22 ?_
  refine lv_topl (fun x6 e6 => ?_)
  have hP9 := mx_subP (wc := []) hP [] rfl
  have hD9 := hD.sub (ws' := []) [] (by decide) rfl
  exact W.lret (v := x6) hx hb hr (fun t ht hW => ⟨⟨x6, (), rfl, trivial, by rw [ht]; exact hP9, hD9⟩, hS.F ht⟩) hS.2.2 dX2_weight_23
set_option maxHeartbeats 4000000 in
set_option maxRecDepth 100000 in
theorem c_X2_reduce (l : Launch) (dC : Nat → ClassId) (dI : Nat → Nat → Nat) (cI cZ cK : ClassId) (tS : Nat) (aK aV : Nat → Nat) (g : Nat) (b0 : Int64) (b1 : Int64) (k : Nat) (d : Nat) (j : Nat) (gg : Nat) (gup : Int64) (glo : Int64) (sz : Nat) : Cv l yX2_reduce (wq yX2_reduce cX2_reduce 12 none) ({ frames := 0, cells := 0, slots := 0, locals := 0 }) dC dI cI cZ cK tS aK aV [.ref g, .long b0, .long b1] sz [(g, .inr (2, [.ref k, .ref d, .ref j, .ref gg, .long gup, .long glo]))] (fun (u : (Nat → Nat → Int32) × (Nat → Int32) × (Nat → Int64)) => True) (fun u => [(g, .inr (2, [.ref k, .ref d, .ref j, .ref gg, .long (u.2.2 0), .long (u.2.2 1)]))]) := by
  refine Met.ofW (cc := cX2_reduce) (maxL := 12) (ret := none) (by decide) rfl ?_
  intro p e s m args below meth c s₁ B hml hv
  obtain ⟨rfl, hsz, hP, hKx, hD0⟩ := hv
  have hx := B.exec
  have hb := B.bytes
  have hr := B.returns
  have hts := atoms_spec (ws := wq yX2_reduce cX2_reduce 12 none) B.pre
  have hown : s.vm.findClass RX2 = some m.cls := findClass_of_methodNamed B.named
  have hlocks := B.notSynchronized
  subst hsz
  have hD := hD0.self (sz := s.heap.size)
  generalize hAe : va_A [(g, .inr (2, [.ref k, .ref d, .ref j, .ref gg, .long gup, .long glo]))] s.heap.size = A at hD hKx ⊢
  have hA : ∀ q : Nat, s.heap.size ≤ q → A q := fun q h => by rw [← hAe]; exact Or.inr h
  have hS : va_S A s.heap s.heap [] := va_S.rf
  have hP : va_P (dC, dI) vwCl [(g, .inr (2, [.ref k, .ref d, .ref j, .ref gg, .long gup, .long glo]))] s.heap := hP
  have hl := lv_entry ([.ref g, .long b0, .long b1]) (n := 12) (Nat.le_of_ble_eq_true rfl)
  rw [lg_entry_eq]
  generalize (lg_sl ([.ref g, .long b0, .long b1]) ++ List.replicate (12 - (lg_sl ([.ref g, .long b0, .long b1])).length) Slot.unset).toArray = ls at hl ⊢
  have hl : lv_has ls 12 [(0, .ref g), (1, .long b0), (3, .long b1)] := hl
  have hK := hKx.1
  have hin2 := fun w9 h9 => List.mem_cons_of_mem (Cond.code yX2_reduce cX2_reduce 12 none) (inlX2 w9 h9)
  have hw0 := hts (.fieldLink RX2 101 "OneCan$Gusts" "upper" "J") (List.mem_cons_of_mem _ wm_884)
  have hw1 := hts (.fieldLink RX2 105 "OneCan$Gusts" "lower" "J") (List.mem_cons_of_mem _ wm_885)
  refine lv_lload_n hx hb dX2_reduce_0 rfl (lv_at hl 2 rfl) ?_
  refine lv_lstore (lv' := [(5, .long b1), (0, .ref g), (1, .long b0), (3, .long b1)]) hx hb dX2_reduce_1 hl (by decide) rfl (fun ls hl => ?_)
  refine lv_lload_n hx hb dX2_reduce_3 rfl (lv_at hl 2 rfl) ?_
  refine lv_lstore (lv' := [(7, .long b0), (5, .long b1), (0, .ref g), (1, .long b0), (3, .long b1)]) hx hb dX2_reduce_4 hl (by decide) rfl (fun ls hl => ?_)
  refine lv_iconst (v := 0) hx hb dX2_reduce_6 (by decide) ?_
  refine lv_istore (lv' := [(9, .int 0), (7, .long b0), (5, .long b1), (0, .ref g), (1, .long b0), (3, .long b1)]) hx hb dX2_reduce_7 hl (by decide) rfl (fun ls hl => ?_)
  have z2 : (0 : Int32).toInt = 0 := rfl
  have hl0 := hl
  clear hl
  obtain ⟨y9, y5, y7, ex, hl⟩ : ∃ (y9 : Int32) (y5 y7 : Int64), (0 ≤ y9.toInt ∧ y9.toInt ≤ 200) ∧ lv_has ls 12 [(9, .int y9), (7, .long y7), (5, .long y5), (0, .ref g), (1, .long b0), (3, .long b1)] := ⟨0, b1, b0, by omega, hl0⟩
  clear hl0
  obtain ⟨n1, hn⟩ : ∃ n : Nat, (n : Int) = 200 - y9.toInt := ⟨(200 - y9.toInt).toNat, by omega⟩
  induction n1 generalizing y9 y5 y7 ls with
  | zero =>
    skip
    refine lv_iload hx hb dX2_reduce_9 (lv_at hl 0 rfl) ?_
    refine lv_sipush (v := 200) hx hb dX2_reduce_11 (by decide) ?_
    refine lv_icmp_ge (tgt := 45) hx hb dX2_reduce_14 (by decide) (fun c3 => ?_) (fun c3 => by exfalso; have t3 : y9.toInt < (200 : Int) := (tnle c3); omega)
    refine lv_lload hx hb dX2_reduce_45 (lv_at hl 2 rfl) ?_
    refine lv_lconst (v := 0) hx hb dX2_reduce_47 (by decide) ?_
    refine W.lcmp hx hb dX2_reduce_48 ?_
    refine lv_if_eq (tgt := 68) hx hb dX2_reduce_49 (by decide) (fun c4 => ?_) (fun c4 => ?_)
    · have t4 : y5.toInt = (0 : Int) := (leqp c4)
      have hP9 := mx_subP (wc := [(g, .inr (2, [.ref k, .ref d, .ref j, .ref gg, .long gup, .long glo]))]) hP [0] rfl
      have hD9 := hD.sub (ws' := [(g, .inr (2, [.ref k, .ref d, .ref j, .ref gg, .long gup, .long glo]))]) [0] (by decide) rfl
      exact W.vret hx hb hr (fun t ht hW => ⟨⟨((fun u9 => ([] : List (Nat → Int32)).getD u9 (fun _ => 0)), (fun u9 => ([] : List Int32).getD u9 0), (fun u9 => ([gup, glo] : List Int64).getD u9 0)), rfl, trivial, by rw [ht]; exact hP9, hD9⟩, hS.F ht⟩) hS.2.2 dX2_reduce_68
    · have t4 : y5.toInt ≠ (0 : Int) := (leqn c4)
      refine lv_aload_n hx hb dX2_reduce_52 rfl (lv_at hl 3 rfl) ?_
      refine lv_lload_n hx hb dX2_reduce_53 rfl (lv_at hl 4 rfl) ?_
      refine lv_lload hx hb dX2_reduce_54 (lv_at hl 2 rfl) ?_
      refine lv_ldiv hx hb dX2_reduce_56 (by intro h9; have h8 := congrArg Int64.toInt h9; have z8 : (0 : Int64).toInt = 0 := rfl; omega) ?_
      refine lv_topl (fun x5 e5 => ?_)
      refine va_put (D := (dC, dI)) (ci := 2) (v := .long x5) (ty := .long) (C := RX2) (T := TX2) (N := 6) hx hb hts hin2 tyX2 tyX2_ok nmX2 hown hK hP hD hS 0 rfl rfl 4 (by decide) hw0 (fun _ h9 => h9) rfl (by decide +kernel) rfl rfl (Nat.le_of_ble_eq_true rfl) dX2_reduce_57 (fun H locs hP hD hS => ?_)
      replace hP : va_P (dC, dI) vwCl [(g, .inr (2, [.ref k, .ref d, .ref j, .ref gg, .long x5, .long glo]))] H := hP
      replace hD : va_D A [(g, .inr (2, [.ref k, .ref d, .ref j, .ref gg, .long x5, .long glo]))] := hD
      refine lv_aload_n hx hb dX2_reduce_60 rfl (lv_at hl 3 rfl) ?_
      refine lv_lload_n hx hb dX2_reduce_61 rfl (lv_at hl 5 rfl) ?_
      refine lv_lload hx hb dX2_reduce_62 (lv_at hl 2 rfl) ?_
      refine lv_ldiv hx hb dX2_reduce_64 (by intro h9; have h8 := congrArg Int64.toInt h9; have z8 : (0 : Int64).toInt = 0 := rfl; omega) ?_
      refine lv_topl (fun x6 e6 => ?_)
      refine va_put (D := (dC, dI)) (ci := 2) (v := .long x6) (ty := .long) (C := RX2) (T := TX2) (N := 6) hx hb hts hin2 tyX2 tyX2_ok nmX2 hown hK hP hD hS 0 rfl rfl 5 (by decide) hw1 (fun _ h9 => h9) rfl (by decide +kernel) rfl rfl (Nat.le_of_ble_eq_true rfl) dX2_reduce_65 (fun H locs hP hD hS => ?_)
      replace hP : va_P (dC, dI) vwCl [(g, .inr (2, [.ref k, .ref d, .ref j, .ref gg, .long x5, .long x6]))] H := hP
      replace hD : va_D A [(g, .inr (2, [.ref k, .ref d, .ref j, .ref gg, .long x5, .long x6]))] := hD
      have hP9 := mx_subP (wc := [(g, .inr (2, [.ref k, .ref d, .ref j, .ref gg, .long x5, .long x6]))]) hP [0] rfl
      have hD9 := hD.sub (ws' := [(g, .inr (2, [.ref k, .ref d, .ref j, .ref gg, .long x5, .long x6]))]) [0] (by decide) rfl
      exact W.vret hx hb hr (fun t ht hW => ⟨⟨((fun u9 => ([] : List (Nat → Int32)).getD u9 (fun _ => 0)), (fun u9 => ([] : List Int32).getD u9 0), (fun u9 => ([x5, x6] : List Int64).getD u9 0)), rfl, trivial, by rw [ht]; exact hP9, hD9⟩, hS.F ht⟩) hS.2.2 dX2_reduce_68
  | succ n1 ih =>
    skip
    refine lv_iload hx hb dX2_reduce_9 (lv_at hl 0 rfl) ?_
    refine lv_sipush (v := 200) hx hb dX2_reduce_11 (by decide) ?_
    refine lv_icmp_ge (tgt := 45) hx hb dX2_reduce_14 (by decide) (fun c7 => by exfalso; have t7 : (200 : Int) ≤ y9.toInt := (tle c7); omega) (fun c7 => ?_)
    refine lv_lload hx hb dX2_reduce_17 (lv_at hl 1 rfl) ?_
    refine lv_lconst (v := 0) hx hb dX2_reduce_19 (by decide) ?_
    refine W.lcmp hx hb dX2_reduce_20 ?_
    refine lv_if_eq (tgt := 45) hx hb dX2_reduce_21 (by decide) (fun c8 => ?_) (fun c8 => ?_)
    · have t8 : y7.toInt = (0 : Int) := (leqp c8)
      refine lv_lload hx hb dX2_reduce_45 (lv_at hl 2 rfl) ?_
      refine lv_lconst (v := 0) hx hb dX2_reduce_47 (by decide) ?_
      refine W.lcmp hx hb dX2_reduce_48 ?_
      refine lv_if_eq (tgt := 68) hx hb dX2_reduce_49 (by decide) (fun c9 => ?_) (fun c9 => ?_)
      · have t9 : y5.toInt = (0 : Int) := (leqp c9)
        have hP9 := mx_subP (wc := [(g, .inr (2, [.ref k, .ref d, .ref j, .ref gg, .long gup, .long glo]))]) hP [0] rfl
        have hD9 := hD.sub (ws' := [(g, .inr (2, [.ref k, .ref d, .ref j, .ref gg, .long gup, .long glo]))]) [0] (by decide) rfl
        exact W.vret hx hb hr (fun t ht hW => ⟨⟨((fun u9 => ([] : List (Nat → Int32)).getD u9 (fun _ => 0)), (fun u9 => ([] : List Int32).getD u9 0), (fun u9 => ([gup, glo] : List Int64).getD u9 0)), rfl, trivial, by rw [ht]; exact hP9, hD9⟩, hS.F ht⟩) hS.2.2 dX2_reduce_68
      · have t9 : y5.toInt ≠ (0 : Int) := (leqn c9)
        refine lv_aload_n hx hb dX2_reduce_52 rfl (lv_at hl 3 rfl) ?_
        refine lv_lload_n hx hb dX2_reduce_53 rfl (lv_at hl 4 rfl) ?_
        refine lv_lload hx hb dX2_reduce_54 (lv_at hl 2 rfl) ?_
        refine lv_ldiv hx hb dX2_reduce_56 (by intro h9; have h8 := congrArg Int64.toInt h9; have z8 : (0 : Int64).toInt = 0 := rfl; omega) ?_
        refine lv_topl (fun x10 e10 => ?_)
        refine va_put (D := (dC, dI)) (ci := 2) (v := .long x10) (ty := .long) (C := RX2) (T := TX2) (N := 6) hx hb hts hin2 tyX2 tyX2_ok nmX2 hown hK hP hD hS 0 rfl rfl 4 (by decide) hw0 (fun _ h9 => h9) rfl (by decide +kernel) rfl rfl (Nat.le_of_ble_eq_true rfl) dX2_reduce_57 (fun H locs hP hD hS => ?_)
        replace hP : va_P (dC, dI) vwCl [(g, .inr (2, [.ref k, .ref d, .ref j, .ref gg, .long x10, .long glo]))] H := hP
        replace hD : va_D A [(g, .inr (2, [.ref k, .ref d, .ref j, .ref gg, .long x10, .long glo]))] := hD
        refine lv_aload_n hx hb dX2_reduce_60 rfl (lv_at hl 3 rfl) ?_
        refine lv_lload_n hx hb dX2_reduce_61 rfl (lv_at hl 5 rfl) ?_
        refine lv_lload hx hb dX2_reduce_62 (lv_at hl 2 rfl) ?_
        refine lv_ldiv hx hb dX2_reduce_64 (by intro h9; have h8 := congrArg Int64.toInt h9; have z8 : (0 : Int64).toInt = 0 := rfl; omega) ?_
        refine lv_topl (fun x11 e11 => ?_)
        refine va_put (D := (dC, dI)) (ci := 2) (v := .long x11) (ty := .long) (C := RX2) (T := TX2) (N := 6) hx hb hts hin2 tyX2 tyX2_ok nmX2 hown hK hP hD hS 0 rfl rfl 5 (by decide) hw1 (fun _ h9 => h9) rfl (by decide +kernel) rfl rfl (Nat.le_of_ble_eq_true rfl) dX2_reduce_65 (fun H locs hP hD hS => ?_)
        replace hP : va_P (dC, dI) vwCl [(g, .inr (2, [.ref k, .ref d, .ref j, .ref gg, .long x10, .long x11]))] H := hP
        replace hD : va_D A [(g, .inr (2, [.ref k, .ref d, .ref j, .ref gg, .long x10, .long x11]))] := hD
        have hP9 := mx_subP (wc := [(g, .inr (2, [.ref k, .ref d, .ref j, .ref gg, .long x10, .long x11]))]) hP [0] rfl
        have hD9 := hD.sub (ws' := [(g, .inr (2, [.ref k, .ref d, .ref j, .ref gg, .long x10, .long x11]))]) [0] (by decide) rfl
        exact W.vret hx hb hr (fun t ht hW => ⟨⟨((fun u9 => ([] : List (Nat → Int32)).getD u9 (fun _ => 0)), (fun u9 => ([] : List Int32).getD u9 0), (fun u9 => ([x10, x11] : List Int64).getD u9 0)), rfl, trivial, by rw [ht]; exact hP9, hD9⟩, hS.F ht⟩) hS.2.2 dX2_reduce_68
    · have t8 : y7.toInt ≠ (0 : Int) := (leqn c8)
      refine lv_lload hx hb dX2_reduce_24 (lv_at hl 2 rfl) ?_
      refine lv_lload hx hb dX2_reduce_26 (lv_at hl 1 rfl) ?_
      refine lv_lrem hx hb dX2_reduce_28 (by intro h9; have h8 := congrArg Int64.toInt h9; have z8 : (0 : Int64).toInt = 0 := rfl; omega) ?_
      refine lv_topl (fun x12 e12 => ?_)
      refine lv_lstore (lv' := [(10, .long x12), (9, .int y9), (7, .long y7), (5, .long y5), (0, .ref g), (1, .long b0), (3, .long b1)]) hx hb dX2_reduce_29 hl (by decide) rfl (fun ls hl => ?_)
      refine lv_lload hx hb dX2_reduce_31 (lv_at hl 2 rfl) ?_
      refine lv_lstore (lv' := [(5, .long y7), (10, .long x12), (9, .int y9), (7, .long y7), (0, .ref g), (1, .long b0), (3, .long b1)]) hx hb dX2_reduce_33 hl (by decide) rfl (fun ls hl => ?_)
      refine lv_lload hx hb dX2_reduce_35 (lv_at hl 1 rfl) ?_
      refine lv_lstore (lv' := [(7, .long x12), (5, .long y7), (10, .long x12), (9, .int y9), (0, .ref g), (1, .long b0), (3, .long b1)]) hx hb dX2_reduce_37 hl (by decide) rfl (fun ls hl => ?_)
      obtain ⟨x13, e13⟩ : ∃ y : Int32, y = y9 + Int32.ofInt 1 := ⟨_, rfl⟩
      refine lv_iinc (v := x13) (lv' := [(9, .int x13), (7, .long x12), (5, .long y7), (10, .long x12), (0, .ref g), (1, .long b0), (3, .long b1)]) hx hb dX2_reduce_39 hl (k := 3) rfl e13.symm (by decide) rfl (fun ls hl => ?_)
      have f13 : x13.toInt = y9.toInt + 1 := by rw [e13]; exact tinc (by decide) (by have t8 := tb y9; omega) (by have t8 := tb y9; omega)
      refine lv_goto (tgt := 9) hx hb dX2_reduce_42 (by decide) ?_
      exact ih (ls := ls) (y5 := y7) (y7 := x12) (y9 := x13) (by omega) (show lv_has ls 12 [(9, .int x13), (7, .long x12), (5, .long y7), (0, .ref g), (1, .long b0), (3, .long b1)] from lv_sub hl [0, 1, 2, 4, 5, 6] rfl) (by omega)
